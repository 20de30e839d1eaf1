/-! the machine does it: laid by program -/
/-! X8_unsettled -/
abbrev rm_X8_unsettled : Room := { frames := 6, cells := 0, slots := 0, locals := 142 }
theorem yk_X8_unsettled : m_K yX8_unsettled cX8_unsettled 3 (some .int) 0 := ⟨wm_4_17, wm_0_10, by decide +kernel⟩
theorem ys_X8_unsettled : Cond.instanceMethod yX8_unsettled ∈ wT ∧ Cond.selects RX8 yX8_unsettled yX8_unsettled ∈ wT := ⟨wm_4_16, wp_3_3⟩
set_option maxRecDepth 100000 in
set_option maxHeartbeats 4000000 in
theorem k_X8_unsettled_b52 {p : Program} {l : Launch} {e : Env} {s : State} {m : MethodId} {args : Array Value} {below : List Frame} {meth : Method} {c : Code} {D : va_G} {ids : m_I3} {st : m_T} {A : Nat → Prop} {z : Nat} {r : Int32} {hF : mH} (hx : p.tables.exec = Jvm.exec) (hb : c.code = cX8_unsettled) (hr : meth.sig.returnType = some .int) (hml : c.maxLocals = 3) (hown : s.vm.findClass RX8 = some m.cls) (hts : ∀ w ∈ (m_ws yX8_unsettled cX8_unsettled 3 (some .int)), w.before args s = true) (hlocks : meth.locks = false) (hin : meth.name = yX8_unsettled.name) (hE : m_EV st A s s.heap) (hA : ∀ q, s.heap.size ≤ q → A q) {k4 : mH → Nat → Int32 → Int32 → Option (Int32 × mH)} (hk4 : ∀ (h : mH) (v0 : Nat) (v1 : Int32) (v2 : Int32) (H : Heap) (locs : List Loc) (ls : Array Slot), k4 h v0 v1 v2 = some (r, hF) → Rl D ids A h s H → H.size = z → va_S A s.heap H locs → lv_has ls 3 [(0, .ref v0), (1, .int v1), (2, .int v2)] → W p l e rm_X8_unsettled s m args below meth c H locs 0 0 (MQ below (mQi D ids A r hF z) args s 0 0 A) (F0 m 4 ls [])) (h : mH) (v0 : Nat) (v2 : Int32) (t0 : Int32) (t1 : Int32) (H : Heap) (locs : List Loc) (ls : Array Slot) (hrun : s_X8_unsettled_b52 k4 h v0 v2 t0 t1 = some (r, hF)) (hR : Rl D ids A h s H) (hz : H.size = z) (hS : va_S A s.heap H locs) (hl : lv_has ls 3 [(0, .ref v0), (2, .int v2)]) : W p l e rm_X8_unsettled s m args below meth c H locs 0 0 (MQ below (mQi D ids A r hF z) args s 0 0 A) (F0 m 52 ls [.int t1, .int t0]) := by
  unfold s_X8_unsettled_b52 at hrun
  refine lv_iadd hx hb dX8_unsettled_52 ?_
  refine lv_istore_n (lv' := [(1, .int (t0 + t1)), (0, .ref v0), (2, .int v2)]) hx hb dX8_unsettled_53 rfl hl (by decide) rfl (fun ls hl => ?_)
  refine lv_iinc (v := v2 + 1) (lv' := [(2, .int (v2 + 1)), (1, .int (t0 + t1)), (0, .ref v0)]) hx hb dX8_unsettled_54 hl (k := 2) rfl rfl (by decide) rfl (fun ls hl => ?_)
  refine lv_goto (tgt := 4) hx hb dX8_unsettled_57 (by decide) ?_
  exact hk4 _ _ _ _ _ _ _ hrun hR hz hS (lv_sub hl [2, 1, 0] rfl)
set_option maxRecDepth 100000 in
set_option maxHeartbeats 4000000 in
theorem k_X8_unsettled_b51 {p : Program} {l : Launch} {e : Env} {s : State} {m : MethodId} {args : Array Value} {below : List Frame} {meth : Method} {c : Code} {D : va_G} {ids : m_I3} {st : m_T} {A : Nat → Prop} {z : Nat} {r : Int32} {hF : mH} (hx : p.tables.exec = Jvm.exec) (hb : c.code = cX8_unsettled) (hr : meth.sig.returnType = some .int) (hml : c.maxLocals = 3) (hown : s.vm.findClass RX8 = some m.cls) (hts : ∀ w ∈ (m_ws yX8_unsettled cX8_unsettled 3 (some .int)), w.before args s = true) (hlocks : meth.locks = false) (hin : meth.name = yX8_unsettled.name) (hE : m_EV st A s s.heap) (hA : ∀ q, s.heap.size ≤ q → A q) {k4 : mH → Nat → Int32 → Int32 → Option (Int32 × mH)} (hk4 : ∀ (h : mH) (v0 : Nat) (v1 : Int32) (v2 : Int32) (H : Heap) (locs : List Loc) (ls : Array Slot), k4 h v0 v1 v2 = some (r, hF) → Rl D ids A h s H → H.size = z → va_S A s.heap H locs → lv_has ls 3 [(0, .ref v0), (1, .int v1), (2, .int v2)] → W p l e rm_X8_unsettled s m args below meth c H locs 0 0 (MQ below (mQi D ids A r hF z) args s 0 0 A) (F0 m 4 ls [])) (h : mH) (v0 : Nat) (v2 : Int32) (t0 : Int32) (H : Heap) (locs : List Loc) (ls : Array Slot) (hrun : s_X8_unsettled_b51 k4 h v0 v2 t0 = some (r, hF)) (hR : Rl D ids A h s H) (hz : H.size = z) (hS : va_S A s.heap H locs) (hl : lv_has ls 3 [(0, .ref v0), (2, .int v2)]) : W p l e rm_X8_unsettled s m args below meth c H locs 0 0 (MQ below (mQi D ids A r hF z) args s 0 0 A) (F0 m 51 ls [.int t0]) := by
  unfold s_X8_unsettled_b51 at hrun
  refine lv_iconst (v := 0) hx hb dX8_unsettled_51 (by decide) ?_
  exact k_X8_unsettled_b52 hx hb hr hml hown hts hlocks hin hE hA hk4 _ _ _ _ _ _ _ _ hrun hR hz hS (lv_sub hl [0, 1] rfl)
set_option maxRecDepth 100000 in
set_option maxHeartbeats 4000000 in
theorem k_X8_unsettled_L4 {p : Program} {l : Launch} {e : Env} {s : State} {m : MethodId} {args : Array Value} {below : List Frame} {meth : Method} {c : Code} {D : va_G} {ids : m_I3} {st : m_T} {A : Nat → Prop} {z : Nat} {r : Int32} {hF : mH} (hx : p.tables.exec = Jvm.exec) (hb : c.code = cX8_unsettled) (hr : meth.sig.returnType = some .int) (hml : c.maxLocals = 3) (hown : s.vm.findClass RX8 = some m.cls) (hts : ∀ w ∈ (m_ws yX8_unsettled cX8_unsettled 3 (some .int)), w.before args s = true) (hlocks : meth.locks = false) (hin : meth.name = yX8_unsettled.name) (hE : m_EV st A s s.heap) (hA : ∀ q, s.heap.size ≤ q → A q) : ∀ (n : Nat) (h : mH) (v0 : Nat) (v1 : Int32) (v2 : Int32) (H : Heap) (locs : List Loc) (ls : Array Slot), s_X8_unsettled_L4 n h v0 v1 v2 = some (r, hF) → Rl D ids A h s H → H.size = z → va_S A s.heap H locs → lv_has ls 3 [(0, .ref v0), (1, .int v1), (2, .int v2)] → W p l e rm_X8_unsettled s m args below meth c H locs 0 0 (MQ below (mQi D ids A r hF z) args s 0 0 A) (F0 m 4 ls []) := by
  intro n
  induction n with
  | zero => intro h v0 v1 v2 H locs ls hrun; exact absurd hrun (by intro h9; cases h9)
  | succ n ih =>
    intro h v0 v1 v2 H locs ls hrun hR hz hS hl
    rw [s_X8_unsettled_L4] at hrun
    refine lv_iload_n hx hb dX8_unsettled_4 rfl (lv_at hl 2 rfl) ?_
    refine lv_bipush (v := 16) hx hb dX8_unsettled_5 (by decide) ?_
    refine lv_icmp_ge (tgt := 60) hx hb dX8_unsettled_7 (by decide) (fun hc => ?_) (fun hc => ?_)
    · have hrun := mt_t hrun hc
      refine lv_iload_n hx hb dX8_unsettled_60 rfl (lv_at hl 1 rfl) ?_
      obtain ⟨rfl, rfl⟩ := Prod.mk.inj (Option.some.inj hrun)
      exact mr_iret hx hb hr hlocks hR hz hS dX8_unsettled_61
    · have hrun := mt_f hrun hc
      refine lv_iload_n hx hb dX8_unsettled_10 rfl (lv_at hl 1 rfl) ?_
      refine lv_aload_n hx hb dX8_unsettled_11 rfl (lv_at hl 0 rfl) ?_
      obtain ⟨x12, hc9, hrun⟩ := m_bind hrun
      refine mr_get (C := RX8) (T := TX8) (N := 13) (ci := 6) hx hb hts (fun w q => m_ws_in (wi_X8 w q)) hown hR rfl 1 (by decide) (hts _ (m_ws_in wm_3_34)) (fun _ h9 => h9) (m_gr_spec hc9) dX8_unsettled_12 ?_
      refine lv_sipush (v := 408) hx hb dX8_unsettled_15 (by decide) ?_
      refine lv_iload_n hx hb dX8_unsettled_18 rfl (lv_at hl 2 rfl) ?_
      refine lv_iadd hx hb dX8_unsettled_19 ?_
      obtain ⟨x20, hc9, hrun⟩ := m_bind hrun
      refine mr_iald hx hb hR hc9 dX8_unsettled_20 ?_
      refine lv_if_le (tgt := 51) hx hb dX8_unsettled_21 (by decide) (fun hc => ?_) (fun hc => ?_)
      · have hrun := mt_t hrun hc
        exact k_X8_unsettled_b51 hx hb hr hml hown hts hlocks hin hE hA ih _ _ _ _ _ _ _ hrun hR hz hS (lv_sub hl [0, 2] rfl)
      · have hrun := mt_f hrun hc
        refine lv_aload_n hx hb dX8_unsettled_24 rfl (lv_at hl 0 rfl) ?_
        refine lv_iload_n hx hb dX8_unsettled_25 rfl (lv_at hl 2 rfl) ?_
        refine lv_iconst (v := 4) hx hb dX8_unsettled_26 (by decide) ?_
        obtain ⟨x27, hc9, hrun⟩ := m_bind hrun
        obtain ⟨hn9, rfl⟩ := m_div_spec hc9
        refine lv_idiv hx hb dX8_unsettled_27 hn9 ?_
        refine lv_topi (fun x27 ex27 => ?_)
        try rw [← ex27] at hrun
        refine lv_iload_n hx hb dX8_unsettled_28 rfl (lv_at hl 2 rfl) ?_
        refine lv_iconst (v := 4) hx hb dX8_unsettled_29 (by decide) ?_
        obtain ⟨x30, hc9, hrun⟩ := m_bind hrun
        obtain ⟨hn9, rfl⟩ := m_rem_spec hc9
        refine lv_irem hx hb dX8_unsettled_30 hn9 ?_
        refine lv_topi (fun x30 ex30 => ?_)
        try rw [← ex30] at hrun
        obtain ⟨_, ho9, hrun⟩ := m_bind hrun
        obtain ⟨fs9, ho9⟩ := m_is_spec ho9
        obtain ⟨⟨x31, h31⟩, hc9, hrun⟩ := m_bind hrun
        refine mr_calli (mr_runV (As := [.int x27, .int x30]) (rest := [.int v1]) hx hb hml hown hts (c_X8_costs l D ids st z hc9) yk_X8_costs ys_X8_costs wm_3_146 ⟨(Nat.le_of_ble_eq_true rfl), (Nat.le_of_ble_eq_true rfl)⟩ (mr_recv (ci := 6) hR hE hz hS hA rfl ho9) hl.1 rfl (Nat.le_of_ble_eq_true rfl) dX8_unsettled_31 ⟨(Nat.le_of_ble_eq_true rfl), (Nat.le_of_ble_eq_true rfl)⟩) hR hz hS hA (fun H locs hR hz hS => ?_)
        refine lv_aload_n hx hb dX8_unsettled_34 rfl (lv_at hl 0 rfl) ?_
        obtain ⟨x35, hc9, hrun⟩ := m_bind hrun
        refine mr_get (C := RX8) (T := TX8) (N := 13) (ci := 6) hx hb hts (fun w q => m_ws_in (wi_X8 w q)) hown hR rfl 1 (by decide) (hts _ (m_ws_in wm_3_34)) (fun _ h9 => h9) (m_gr_spec hc9) dX8_unsettled_35 ?_
        refine lv_sipush (v := 376) hx hb dX8_unsettled_38 (by decide) ?_
        refine lv_iload_n hx hb dX8_unsettled_41 rfl (lv_at hl 2 rfl) ?_
        refine lv_iadd hx hb dX8_unsettled_42 ?_
        obtain ⟨x43, hc9, hrun⟩ := m_bind hrun
        refine mr_iald hx hb hR hc9 dX8_unsettled_43 ?_
        refine lv_icmp_eq (tgt := 51) hx hb dX8_unsettled_44 (by decide) (fun hc => ?_) (fun hc => ?_)
        · have hrun := mt_t hrun hc
          exact k_X8_unsettled_b51 hx hb hr hml hown hts hlocks hin hE hA ih _ _ _ _ _ _ _ hrun hR hz hS (lv_sub hl [0, 2] rfl)
        · have hrun := mt_f hrun hc
          refine lv_iconst (v := 1) hx hb dX8_unsettled_47 (by decide) ?_
          refine lv_goto (tgt := 52) hx hb dX8_unsettled_48 (by decide) ?_
          exact k_X8_unsettled_b52 hx hb hr hml hown hts hlocks hin hE hA ih _ _ _ _ _ _ _ _ hrun hR hz hS (lv_sub hl [0, 2] rfl)
set_option maxRecDepth 100000 in
set_option maxHeartbeats 4000000 in
theorem c_X8_unsettled (l : Launch) (D : va_G) (ids : m_I3) (st : m_T) (z : Nat) {h : mH} {v0 : Nat} {r : Int32} {hF : mH} (hrun : s_X8_unsettled h v0 = some (r, hF)) : Met l yX8_unsettled (m_ws yX8_unsettled cX8_unsettled 3 (some .int)) rm_X8_unsettled (mPc D ids st [.ref v0] h z) (mQi D ids (m_A h z) r hF z) rm_X8_unsettled.cells rm_X8_unsettled.slots (m_A h z) := by
  refine mr_of (cc := cX8_unsettled) (maxL := 3) (ret := some .int) (by decide) rfl (Nat.le_of_ble_eq_true rfl) ?_
  intro p e s m below meth c ls hx hb hr hml hown hts hlocks hin hR hE hz hl
  have hA : ∀ q, s.heap.size ≤ q → m_A h z q := fun q hq => Or.inr (by rw [← hz]; exact hq)
  have hS : va_S (m_A h z) s.heap s.heap [] := va_S.rf
  have hl : lv_has ls 3 [(0, .ref v0)] := hl
  unfold s_X8_unsettled at hrun
  refine lv_iconst (v := 0) hx hb dX8_unsettled_0 (by decide) ?_
  refine lv_istore_n (lv' := [(1, .int 0), (0, .ref v0)]) hx hb dX8_unsettled_1 rfl hl (by decide) rfl (fun ls hl => ?_)
  refine lv_iconst (v := 0) hx hb dX8_unsettled_2 (by decide) ?_
  refine lv_istore_n (lv' := [(2, .int 0), (1, .int 0), (0, .ref v0)]) hx hb dX8_unsettled_3 rfl hl (by decide) rfl (fun ls hl => ?_)
  exact k_X8_unsettled_L4 hx hb hr hml hown hts hlocks hin hE hA _ _ _ _ _ _ _ _ hrun hR hz hS (lv_sub hl [2, 1, 0] rfl)
/-! X8_counts -/
abbrev rm_X8_counts : Room := { frames := 8, cells := 0, slots := 0, locals := 189 }
theorem yk_X8_counts : m_K yX8_counts cX8_counts 2 (some .int) 1 := ⟨wm_4_5, wm_0_10, by decide +kernel⟩
theorem ys_X8_counts : Cond.instanceMethod yX8_counts ∈ wT ∧ Cond.selects RX8 yX8_counts yX8_counts ∈ wT := ⟨wm_4_4, wp_3_0⟩
set_option maxRecDepth 100000 in
set_option maxHeartbeats 4000000 in
theorem k_X8_counts_b71 {p : Program} {l : Launch} {e : Env} {s : State} {m : MethodId} {args : Array Value} {below : List Frame} {meth : Method} {c : Code} {D : va_G} {ids : m_I3} {st : m_T} {A : Nat → Prop} {z : Nat} {r : Int32} {hF : mH} (hx : p.tables.exec = Jvm.exec) (hb : c.code = cX8_counts) (hr : meth.sig.returnType = some .int) (hml : c.maxLocals = 2) (hown : s.vm.findClass RX8 = some m.cls) (hts : ∀ w ∈ (m_ws yX8_counts cX8_counts 2 (some .int)), w.before args s = true) (hlocks : meth.locks = false) (hin : meth.name = yX8_counts.name) (hE : m_EV st A s s.heap) (hA : ∀ q, s.heap.size ≤ q → A q) (h : mH) (v0 : Nat) (v1 : Int32) (H : Heap) (locs : List Loc) (ls : Array Slot) (hrun : s_X8_counts_b71 h v0 v1 = some (r, hF)) (hR : Rl D ids A h s H) (hz : H.size = z) (hS : va_S A s.heap H locs) (hl : lv_has ls 2 [(0, .ref v0), (1, .int v1)]) : W p l e rm_X8_counts s m args below meth c H locs 0 0 (MQ below (mQi D ids A r hF z) args s 0 0 A) (F0 m 71 ls []) := by
  unfold s_X8_counts_b71 at hrun
  refine lv_aload_n hx hb dX8_counts_71 rfl (lv_at hl 0 rfl) ?_
  refine lv_iload_n hx hb dX8_counts_72 rfl (lv_at hl 1 rfl) ?_
  obtain ⟨_, ho9, hrun⟩ := m_bind hrun
  obtain ⟨fs9, ho9⟩ := m_is_spec ho9
  obtain ⟨⟨x73, h73⟩, hc9, hrun⟩ := m_bind hrun
  refine mr_calli (mr_runV (As := [.int v1]) (rest := []) hx hb hml hown hts (c_X8_overWeeks l D ids st z hc9) yk_X8_overWeeks ys_X8_overWeeks wm_4_6 ⟨(Nat.le_of_ble_eq_true rfl), (Nat.le_of_ble_eq_true rfl)⟩ (mr_recv (ci := 6) hR hE hz hS hA rfl ho9) hl.1 rfl (Nat.le_of_ble_eq_true rfl) dX8_counts_73 ⟨(Nat.le_of_ble_eq_true rfl), (Nat.le_of_ble_eq_true rfl)⟩) hR hz hS hA (fun H locs hR hz hS => ?_)
  obtain ⟨rfl, rfl⟩ := Prod.mk.inj (Option.some.inj hrun)
  exact mr_iret hx hb hr hlocks hR hz hS dX8_counts_76
set_option maxRecDepth 100000 in
set_option maxHeartbeats 4000000 in
theorem k_X8_counts_b77 {p : Program} {l : Launch} {e : Env} {s : State} {m : MethodId} {args : Array Value} {below : List Frame} {meth : Method} {c : Code} {D : va_G} {ids : m_I3} {st : m_T} {A : Nat → Prop} {z : Nat} {r : Int32} {hF : mH} (hx : p.tables.exec = Jvm.exec) (hb : c.code = cX8_counts) (hr : meth.sig.returnType = some .int) (hml : c.maxLocals = 2) (hown : s.vm.findClass RX8 = some m.cls) (hts : ∀ w ∈ (m_ws yX8_counts cX8_counts 2 (some .int)), w.before args s = true) (hlocks : meth.locks = false) (hin : meth.name = yX8_counts.name) (hE : m_EV st A s s.heap) (hA : ∀ q, s.heap.size ≤ q → A q) (h : mH) (v0 : Nat) (v1 : Int32) (H : Heap) (locs : List Loc) (ls : Array Slot) (hrun : s_X8_counts_b77 h v0 v1 = some (r, hF)) (hR : Rl D ids A h s H) (hz : H.size = z) (hS : va_S A s.heap H locs) (hl : lv_has ls 2 [(0, .ref v0), (1, .int v1)]) : W p l e rm_X8_counts s m args below meth c H locs 0 0 (MQ below (mQi D ids A r hF z) args s 0 0 A) (F0 m 77 ls []) := by
  unfold s_X8_counts_b77 at hrun
  refine lv_aload_n hx hb dX8_counts_77 rfl (lv_at hl 0 rfl) ?_
  obtain ⟨x78, hc9, hrun⟩ := m_bind hrun
  refine mr_get (C := RX8) (T := TX8) (N := 13) (ci := 6) hx hb hts (fun w q => m_ws_in (wi_X8 w q)) hown hR rfl 1 (by decide) (hts _ (m_ws_in wm_3_34)) (fun _ h9 => h9) (m_gr_spec hc9) dX8_counts_78 ?_
  refine lv_bipush (v := 6) hx hb dX8_counts_81 (by decide) ?_
  refine lv_iload_n hx hb dX8_counts_83 rfl (lv_at hl 1 rfl) ?_
  refine lv_iadd hx hb dX8_counts_84 ?_
  refine lv_iconst (v := 5) hx hb dX8_counts_85 (by decide) ?_
  refine lv_isub hx hb dX8_counts_86 ?_
  obtain ⟨x87, hc9, hrun⟩ := m_bind hrun
  refine mr_iald hx hb hR hc9 dX8_counts_87 ?_
  obtain ⟨rfl, rfl⟩ := Prod.mk.inj (Option.some.inj hrun)
  exact mr_iret hx hb hr hlocks hR hz hS dX8_counts_88
set_option maxRecDepth 100000 in
set_option maxHeartbeats 4000000 in
theorem c_X8_counts (l : Launch) (D : va_G) (ids : m_I3) (st : m_T) (z : Nat) {h : mH} {v0 : Nat} {v1 : Int32} {r : Int32} {hF : mH} (hrun : s_X8_counts h v0 v1 = some (r, hF)) : Met l yX8_counts (m_ws yX8_counts cX8_counts 2 (some .int)) rm_X8_counts (mPc D ids st [.ref v0, .int v1] h z) (mQi D ids (m_A h z) r hF z) rm_X8_counts.cells rm_X8_counts.slots (m_A h z) := by
  refine mr_of (cc := cX8_counts) (maxL := 2) (ret := some .int) (by decide) rfl (Nat.le_of_ble_eq_true rfl) ?_
  intro p e s m below meth c ls hx hb hr hml hown hts hlocks hin hR hE hz hl
  have hA : ∀ q, s.heap.size ≤ q → m_A h z q := fun q hq => Or.inr (by rw [← hz]; exact hq)
  have hS : va_S (m_A h z) s.heap s.heap [] := va_S.rf
  have hl : lv_has ls 2 [(0, .ref v0), (1, .int v1)] := hl
  unfold s_X8_counts at hrun
  refine lv_iload_n hx hb dX8_counts_0 rfl (lv_at hl 1 rfl) ?_
  by_cases hc0 : v1 = 0
  · have hrun := mt_t hrun hc0
    refine lv_tableIn (tgt := 52) (off := 51) hx hb dX8_counts_1 (by rw [hc0]; decide) (by rw [hc0]; decide) (by rw [hc0]; rfl) (by decide) ?_
    refine lv_aload_n hx hb dX8_counts_52 rfl (lv_at hl 0 rfl) ?_
    obtain ⟨x53, hc9, hrun⟩ := m_bind hrun
    refine mr_get (C := RX8) (T := TX8) (N := 13) (ci := 6) hx hb hts (fun w q => m_ws_in (wi_X8 w q)) hown hR rfl 1 (by decide) (hts _ (m_ws_in wm_3_34)) (fun _ h9 => h9) (m_gr_spec hc9) dX8_counts_53 ?_
    refine lv_bipush (v := 9) hx hb dX8_counts_56 (by decide) ?_
    obtain ⟨x58, hc9, hrun⟩ := m_bind hrun
    refine mr_iald hx hb hR hc9 dX8_counts_58 ?_
    obtain ⟨rfl, rfl⟩ := Prod.mk.inj (Option.some.inj hrun)
    exact mr_iret hx hb hr hlocks hR hz hS dX8_counts_59
  have hrun := mt_f hrun hc0
  have hn0 : ¬ (v1).toInt = 0 := lv_neT hc0 rfl
  by_cases hc1 : v1 = 1
  · have hrun := mt_t hrun hc1
    refine lv_tableIn (tgt := 60) (off := 59) hx hb dX8_counts_1 (by rw [hc1]; decide) (by rw [hc1]; decide) (by rw [hc1]; rfl) (by decide) ?_
    refine lv_aload_n hx hb dX8_counts_60 rfl (lv_at hl 0 rfl) ?_
    refine lv_iconst (v := 0) hx hb dX8_counts_61 (by decide) ?_
    obtain ⟨_, ho9, hrun⟩ := m_bind hrun
    obtain ⟨fs9, ho9⟩ := m_is_spec ho9
    obtain ⟨⟨x62, h62⟩, hc9, hrun⟩ := m_bind hrun
    refine mr_calli (mr_runV (As := [.int 0]) (rest := []) hx hb hml hown hts (c_X8_overWeeks l D ids st z hc9) yk_X8_overWeeks ys_X8_overWeeks wm_4_6 ⟨(Nat.le_of_ble_eq_true rfl), (Nat.le_of_ble_eq_true rfl)⟩ (mr_recv (ci := 6) hR hE hz hS hA rfl ho9) hl.1 rfl (Nat.le_of_ble_eq_true rfl) dX8_counts_62 ⟨(Nat.le_of_ble_eq_true rfl), (Nat.le_of_ble_eq_true rfl)⟩) hR hz hS hA (fun H locs hR hz hS => ?_)
    obtain ⟨rfl, rfl⟩ := Prod.mk.inj (Option.some.inj hrun)
    exact mr_iret hx hb hr hlocks hR hz hS dX8_counts_65
  have hrun := mt_f hrun hc1
  have hn1 : ¬ (v1).toInt = 1 := lv_neT hc1 rfl
  by_cases hc2 : v1 = 2
  · have hrun := mt_t hrun hc2
    refine lv_tableIn (tgt := 66) (off := 65) hx hb dX8_counts_1 (by rw [hc2]; decide) (by rw [hc2]; decide) (by rw [hc2]; rfl) (by decide) ?_
    refine lv_aload_n hx hb dX8_counts_66 rfl (lv_at hl 0 rfl) ?_
    obtain ⟨_, ho9, hrun⟩ := m_bind hrun
    obtain ⟨fs9, ho9⟩ := m_is_spec ho9
    obtain ⟨⟨x67, h67⟩, hc9, hrun⟩ := m_bind hrun
    refine mr_calli (mr_runV (As := []) (rest := []) hx hb hml hown hts (c_X8_alone l D ids st z hc9) yk_X8_alone ys_X8_alone wm_4_10 ⟨(Nat.le_of_ble_eq_true rfl), (Nat.le_of_ble_eq_true rfl)⟩ (mr_recv (ci := 6) hR hE hz hS hA rfl ho9) hl.1 rfl (Nat.le_of_ble_eq_true rfl) dX8_counts_67 ⟨(Nat.le_of_ble_eq_true rfl), (Nat.le_of_ble_eq_true rfl)⟩) hR hz hS hA (fun H locs hR hz hS => ?_)
    obtain ⟨rfl, rfl⟩ := Prod.mk.inj (Option.some.inj hrun)
    exact mr_iret hx hb hr hlocks hR hz hS dX8_counts_70
  have hrun := mt_f hrun hc2
  have hn2 : ¬ (v1).toInt = 2 := lv_neT hc2 rfl
  by_cases hc3 : v1 = 3
  · have hrun := mt_t hrun hc3
    refine lv_tableIn (tgt := 71) (off := 70) hx hb dX8_counts_1 (by rw [hc3]; decide) (by rw [hc3]; decide) (by rw [hc3]; rfl) (by decide) ?_
    exact k_X8_counts_b71 hx hb hr hml hown hts hlocks hin hE hA _ _ _ _ _ _ hrun hR hz hS (lv_sub hl [0, 1] rfl)
  have hrun := mt_f hrun hc3
  have hn3 : ¬ (v1).toInt = 3 := lv_neT hc3 rfl
  by_cases hc4 : v1 = 4
  · have hrun := mt_t hrun hc4
    refine lv_tableIn (tgt := 71) (off := 70) hx hb dX8_counts_1 (by rw [hc4]; decide) (by rw [hc4]; decide) (by rw [hc4]; rfl) (by decide) ?_
    exact k_X8_counts_b71 hx hb hr hml hown hts hlocks hin hE hA _ _ _ _ _ _ hrun hR hz hS (lv_sub hl [0, 1] rfl)
  have hrun := mt_f hrun hc4
  have hn4 : ¬ (v1).toInt = 4 := lv_neT hc4 rfl
  by_cases hc5 : v1 = 5
  · have hrun := mt_t hrun hc5
    refine lv_tableIn (tgt := 77) (off := 76) hx hb dX8_counts_1 (by rw [hc5]; decide) (by rw [hc5]; decide) (by rw [hc5]; rfl) (by decide) ?_
    exact k_X8_counts_b77 hx hb hr hml hown hts hlocks hin hE hA _ _ _ _ _ _ hrun hR hz hS (lv_sub hl [0, 1] rfl)
  have hrun := mt_f hrun hc5
  have hn5 : ¬ (v1).toInt = 5 := lv_neT hc5 rfl
  by_cases hc6 : v1 = 6
  · have hrun := mt_t hrun hc6
    refine lv_tableIn (tgt := 77) (off := 76) hx hb dX8_counts_1 (by rw [hc6]; decide) (by rw [hc6]; decide) (by rw [hc6]; rfl) (by decide) ?_
    exact k_X8_counts_b77 hx hb hr hml hown hts hlocks hin hE hA _ _ _ _ _ _ hrun hR hz hS (lv_sub hl [0, 1] rfl)
  have hrun := mt_f hrun hc6
  have hn6 : ¬ (v1).toInt = 6 := lv_neT hc6 rfl
  by_cases hc7 : v1 = 7
  · have hrun := mt_t hrun hc7
    refine lv_tableIn (tgt := 77) (off := 76) hx hb dX8_counts_1 (by rw [hc7]; decide) (by rw [hc7]; decide) (by rw [hc7]; rfl) (by decide) ?_
    exact k_X8_counts_b77 hx hb hr hml hown hts hlocks hin hE hA _ _ _ _ _ _ hrun hR hz hS (lv_sub hl [0, 1] rfl)
  have hrun := mt_f hrun hc7
  have hn7 : ¬ (v1).toInt = 7 := lv_neT hc7 rfl
  by_cases hc8 : v1 = 8
  · have hrun := mt_t hrun hc8
    refine lv_tableIn (tgt := 89) (off := 88) hx hb dX8_counts_1 (by rw [hc8]; decide) (by rw [hc8]; decide) (by rw [hc8]; rfl) (by decide) ?_
    refine lv_aload_n hx hb dX8_counts_89 rfl (lv_at hl 0 rfl) ?_
    obtain ⟨_, ho9, hrun⟩ := m_bind hrun
    obtain ⟨fs9, ho9⟩ := m_is_spec ho9
    obtain ⟨⟨x90, h90⟩, hc9, hrun⟩ := m_bind hrun
    refine mr_calli (mr_runV (As := []) (rest := []) hx hb hml hown hts (c_X8_unsettled l D ids st z hc9) yk_X8_unsettled ys_X8_unsettled wm_4_14 ⟨(Nat.le_of_ble_eq_true rfl), (Nat.le_of_ble_eq_true rfl)⟩ (mr_recv (ci := 6) hR hE hz hS hA rfl ho9) hl.1 rfl (Nat.le_of_ble_eq_true rfl) dX8_counts_90 ⟨(Nat.le_of_ble_eq_true rfl), (Nat.le_of_ble_eq_true rfl)⟩) hR hz hS hA (fun H locs hR hz hS => ?_)
    obtain ⟨rfl, rfl⟩ := Prod.mk.inj (Option.some.inj hrun)
    exact mr_iret hx hb hr hlocks hR hz hS dX8_counts_93
  have hrun := mt_f hrun hc8
  have hn8 : ¬ (v1).toInt = 8 := lv_neT hc8 rfl
  refine lv_tableOut (tgt := 94) hx hb dX8_counts_1 (by omega) (by decide) ?_
  refine lv_aload_n hx hb dX8_counts_94 rfl (lv_at hl 0 rfl) ?_
  obtain ⟨x95, hc9, hrun⟩ := m_bind hrun
  refine mr_get (C := RX8) (T := TX8) (N := 13) (ci := 6) hx hb hts (fun w q => m_ws_in (wi_X8 w q)) hown hR rfl 4 (by decide) (hts _ (m_ws_in wm_3_37)) (fun _ h9 => h9) (m_gi_spec hc9) dX8_counts_95 ?_
  obtain ⟨rfl, rfl⟩ := Prod.mk.inj (Option.some.inj hrun)
  exact mr_iret hx hb hr hlocks hR hz hS dX8_counts_98
/-! X8_count -/
abbrev rm_X8_count : Room := { frames := 9, cells := 0, slots := 0, locals := 210 }
theorem yk_X8_count : m_K yX8_count cX8_count 2 (some .int) 1 := ⟨wm_4_1, wm_0_10, by decide +kernel⟩
theorem ys_X8_count : Cond.instanceMethod yX8_count ∈ wT ∧ Cond.selects RX8 yX8_count yX8_count ∈ wT := ⟨wm_3_239, wm_4_0⟩
set_option maxRecDepth 100000 in
set_option maxHeartbeats 4000000 in
theorem k_X8_count_b28 {p : Program} {l : Launch} {e : Env} {s : State} {m : MethodId} {args : Array Value} {below : List Frame} {meth : Method} {c : Code} {D : va_G} {ids : m_I3} {st : m_T} {A : Nat → Prop} {z : Nat} {r : Int32} {hF : mH} (hx : p.tables.exec = Jvm.exec) (hb : c.code = cX8_count) (hr : meth.sig.returnType = some .int) (hml : c.maxLocals = 2) (hown : s.vm.findClass RX8 = some m.cls) (hts : ∀ w ∈ (m_ws yX8_count cX8_count 2 (some .int)), w.before args s = true) (hlocks : meth.locks = false) (hin : meth.name = yX8_count.name) (hE : m_EV st A s s.heap) (hA : ∀ q, s.heap.size ≤ q → A q) (h : mH) (t0 : Int32) (H : Heap) (locs : List Loc) (ls : Array Slot) (hrun : s_X8_count_b28 h t0 = some (r, hF)) (hR : Rl D ids A h s H) (hz : H.size = z) (hS : va_S A s.heap H locs) (hl : lv_has ls 2 []) : W p l e rm_X8_count s m args below meth c H locs 0 0 (MQ below (mQi D ids A r hF z) args s 0 0 A) (F0 m 28 ls [.int t0]) := by
  unfold s_X8_count_b28 at hrun
  obtain ⟨rfl, rfl⟩ := Prod.mk.inj (Option.some.inj hrun)
  exact mr_iret hx hb hr hlocks hR hz hS dX8_count_28
set_option maxRecDepth 100000 in
set_option maxHeartbeats 4000000 in
theorem c_X8_count (l : Launch) (D : va_G) (ids : m_I3) (st : m_T) (z : Nat) {h : mH} {v0 : Nat} {v1 : Int32} {r : Int32} {hF : mH} (hrun : s_X8_count h v0 v1 = some (r, hF)) : Met l yX8_count (m_ws yX8_count cX8_count 2 (some .int)) rm_X8_count (mPc D ids st [.ref v0, .int v1] h z) (mQi D ids (m_A h z) r hF z) rm_X8_count.cells rm_X8_count.slots (m_A h z) := by
  refine mr_of (cc := cX8_count) (maxL := 2) (ret := some .int) (by decide) rfl (Nat.le_of_ble_eq_true rfl) ?_
  intro p e s m below meth c ls hx hb hr hml hown hts hlocks hin hR hE hz hl
  have hA : ∀ q, s.heap.size ≤ q → m_A h z q := fun q hq => Or.inr (by rw [← hz]; exact hq)
  have hS : va_S (m_A h z) s.heap s.heap [] := va_S.rf
  have hl : lv_has ls 2 [(0, .ref v0), (1, .int v1)] := hl
  unfold s_X8_count at hrun
  refine lv_aload_n hx hb dX8_count_0 rfl (lv_at hl 0 rfl) ?_
  refine lv_iconst (v := 0) hx hb dX8_count_1 (by decide) ?_
  obtain ⟨h2, hc9, hrun⟩ := m_bind hrun
  refine mr_put (C := RX8) (T := TX8) (N := 13) (ci := 6) hx hb hts (fun w q => m_ws_in (wi_X8 w q)) tyX8 tyX8_ok nmX8 hown hR hz hS rfl 0 (by decide) (hts _ (m_ws_in wm_3_33)) (fun _ h9 => h9) rfl (tyX8_ok 0 (by decide)) rfl rfl hc9 dX8_count_2 (fun H locs hR hz hS => ?_)
  refine lv_iload_n hx hb dX8_count_5 rfl (lv_at hl 1 rfl) ?_
  refine lv_iconst (v := 0) hx hb dX8_count_6 (by decide) ?_
  refine lv_bipush (v := 9) hx hb dX8_count_7 (by decide) ?_
  obtain ⟨x9, hc9, hrun⟩ := m_bind hrun
  refine mr_calli (mr_runS (As := [.int v1, .int 0, .int 9]) (rest := []) hx hb hml hown hts (c_X8_in l D ids st z hc9) yk_X8_in ys_X8_in wm_3_87 ⟨(Nat.le_of_ble_eq_true rfl), (Nat.le_of_ble_eq_true rfl)⟩ (mr_recvS hR hE hz hS hA) hl.1 rfl (Nat.le_of_ble_eq_true rfl) dX8_count_9 ⟨(Nat.le_of_ble_eq_true rfl), (Nat.le_of_ble_eq_true rfl)⟩) hR hz hS hA (fun H locs hR hz hS => ?_)
  refine lv_if_eq (tgt := 23) hx hb dX8_count_12 (by decide) (fun hc => ?_) (fun hc => ?_)
  · have hrun := mt_t hrun hc
    refine lv_aload_n hx hb dX8_count_23 rfl (lv_at hl 0 rfl) ?_
    refine lv_iconst (v := 1) hx hb dX8_count_24 (by decide) ?_
    obtain ⟨_, ho9, hrun⟩ := m_bind hrun
    obtain ⟨fs9, ho9⟩ := m_is_spec ho9
    obtain ⟨⟨x25, h25⟩, hc9, hrun⟩ := m_bind hrun
    refine mr_calli (mr_runV (As := [.int 1]) (rest := []) hx hb hml hown hts (c_X8_fails l D ids st z hc9) yk_X8_fails ys_X8_fails wm_3_90 ⟨(Nat.le_of_ble_eq_true rfl), (Nat.le_of_ble_eq_true rfl)⟩ (mr_recv (ci := 6) hR hE hz hS hA rfl ho9) hl.1 rfl (Nat.le_of_ble_eq_true rfl) dX8_count_25 ⟨(Nat.le_of_ble_eq_true rfl), (Nat.le_of_ble_eq_true rfl)⟩) hR hz hS hA (fun H locs hR hz hS => ?_)
    exact k_X8_count_b28 hx hb hr hml hown hts hlocks hin hE hA _ _ _ _ _ hrun hR hz hS (lv_sub hl [] rfl)
  · have hrun := mt_f hrun hc
    refine lv_aload_n hx hb dX8_count_15 rfl (lv_at hl 0 rfl) ?_
    refine lv_iload_n hx hb dX8_count_16 rfl (lv_at hl 1 rfl) ?_
    obtain ⟨_, ho9, hrun⟩ := m_bind hrun
    obtain ⟨fs9, ho9⟩ := m_is_spec ho9
    obtain ⟨⟨x17, h17⟩, hc9, hrun⟩ := m_bind hrun
    refine mr_calli (mr_runV (As := [.int v1]) (rest := []) hx hb hml hown hts (c_X8_counts l D ids st z hc9) yk_X8_counts ys_X8_counts wm_4_2 ⟨(Nat.le_of_ble_eq_true rfl), (Nat.le_of_ble_eq_true rfl)⟩ (mr_recv (ci := 6) hR hE hz hS hA rfl ho9) hl.1 rfl (Nat.le_of_ble_eq_true rfl) dX8_count_17 ⟨(Nat.le_of_ble_eq_true rfl), (Nat.le_of_ble_eq_true rfl)⟩) hR hz hS hA (fun H locs hR hz hS => ?_)
    refine lv_goto (tgt := 28) hx hb dX8_count_20 (by decide) ?_
    exact k_X8_count_b28 hx hb hr hml hown hts hlocks hin hE hA _ _ _ _ _ hrun hR hz hS (lv_sub hl [] rfl)
/-! X8_entry -/
abbrev rm_X8_entry : Room := { frames := 0, cells := 0, slots := 0, locals := 0 }
theorem yk_X8_entry : m_K yX8_entry cX8_entry 5 (some .int) 3 := ⟨wm_4_25, wm_0_10, by decide +kernel⟩
theorem ys_X8_entry : Cond.instanceMethod yX8_entry ∈ wT ∧ Cond.selects RX8 yX8_entry yX8_entry ∈ wT := ⟨wm_4_24, wp_3_4⟩
set_option maxRecDepth 100000 in
set_option maxHeartbeats 4000000 in
theorem k_X8_entry_b53 {p : Program} {l : Launch} {e : Env} {s : State} {m : MethodId} {args : Array Value} {below : List Frame} {meth : Method} {c : Code} {D : va_G} {ids : m_I3} {st : m_T} {A : Nat → Prop} {z : Nat} {r : Int32} (hx : p.tables.exec = Jvm.exec) (hb : c.code = cX8_entry) (hr : meth.sig.returnType = some .int) (hml : c.maxLocals = 5) (hown : s.vm.findClass RX8 = some m.cls) (hts : ∀ w ∈ (m_ws yX8_entry cX8_entry 5 (some .int)), w.before args s = true) (hlocks : meth.locks = false) (hin : meth.name = yX8_entry.name) (hE : m_EV st A s s.heap) (hA : ∀ q, s.heap.size ≤ q → A q) {h : mH} (t0 : Int32) (H : Heap) (locs : List Loc) (ls : Array Slot) (hrun : s_X8_entry_b53 h t0 = some r) (hR : Rl D ids A h s H) (hz : H.size = z) (hS : va_S A s.heap H locs) (hl : lv_has ls 5 []) : W p l e rm_X8_entry s m args below meth c H locs 0 0 (MQ below (mQi D ids A r h z) args s 0 0 A) (F0 m 53 ls [.int t0]) := by
  unfold s_X8_entry_b53 at hrun
  obtain rfl := Option.some.inj hrun
  exact mr_iret hx hb hr hlocks hR hz hS dX8_entry_53
set_option maxRecDepth 100000 in
set_option maxHeartbeats 4000000 in
theorem c_X8_entry (l : Launch) (D : va_G) (ids : m_I3) (st : m_T) (z : Nat) {h : mH} {v0 : Nat} {v1 : Int32} {v2 : Int32} {v3 : Int32} {r : Int32} (hrun : s_X8_entry h v0 v1 v2 v3 = some r) : Met l yX8_entry (m_ws yX8_entry cX8_entry 5 (some .int)) rm_X8_entry (mPc D ids st [.ref v0, .int v1, .int v2, .int v3] h z) (mQi D ids (m_A h z) r h z) rm_X8_entry.cells rm_X8_entry.slots (m_A h z) := by
  refine mr_of (cc := cX8_entry) (maxL := 5) (ret := some .int) (by decide) rfl (Nat.le_of_ble_eq_true rfl) ?_
  intro p e s m below meth c ls hx hb hr hml hown hts hlocks hin hR hE hz hl
  have hA : ∀ q, s.heap.size ≤ q → m_A h z q := fun q hq => Or.inr (by rw [← hz]; exact hq)
  have hS : va_S (m_A h z) s.heap s.heap [] := va_S.rf
  have hl : lv_has ls 5 [(0, .ref v0), (1, .int v1), (2, .int v2), (3, .int v3)] := hl
  unfold s_X8_entry at hrun
  refine lv_aload_n hx hb dX8_entry_0 rfl (lv_at hl 0 rfl) ?_
  obtain ⟨x1, hc9, hrun⟩ := m_bind hrun
  refine mr_get (C := RX8) (T := TX8) (N := 13) (ci := 6) hx hb hts (fun w q => m_ws_in (wi_X8 w q)) hown hR rfl 1 (by decide) (hts _ (m_ws_in wm_3_34)) (fun _ h9 => h9) (m_gr_spec hc9) dX8_entry_1 ?_
  refine lv_sipush (v := 428) hx hb dX8_entry_4 (by decide) ?_
  refine lv_bipush (v := 16) hx hb dX8_entry_7 (by decide) ?_
  refine lv_iload_n hx hb dX8_entry_9 rfl (lv_at hl 1 rfl) ?_
  refine lv_imul hx hb dX8_entry_10 ?_
  refine lv_iadd hx hb dX8_entry_11 ?_
  refine lv_iconst (v := 2) hx hb dX8_entry_12 (by decide) ?_
  refine lv_iload_n hx hb dX8_entry_13 rfl (lv_at hl 2 rfl) ?_
  refine lv_imul hx hb dX8_entry_14 ?_
  refine lv_iadd hx hb dX8_entry_15 ?_
  refine lv_iload_n hx hb dX8_entry_16 rfl (lv_at hl 3 rfl) ?_
  refine lv_iadd hx hb dX8_entry_17 ?_
  obtain ⟨x18, hc9, hrun⟩ := m_bind hrun
  refine mr_iald hx hb hR hc9 dX8_entry_18 ?_
  refine lv_istore (lv' := [(4, .int x18), (0, .ref v0), (1, .int v1), (2, .int v2), (3, .int v3)]) hx hb dX8_entry_19 hl (by decide) rfl (fun ls hl => ?_)
  refine lv_iload_n hx hb dX8_entry_21 rfl (lv_at hl 3 rfl) ?_
  refine lv_aload_n hx hb dX8_entry_22 rfl (lv_at hl 1 rfl) ?_
  obtain ⟨x23, hc9, hrun⟩ := m_bind hrun
  refine mr_get (C := RX8) (T := TX8) (N := 13) (ci := 6) hx hb hts (fun w q => m_ws_in (wi_X8 w q)) hown hR rfl 1 (by decide) (hts _ (m_ws_in wm_3_34)) (fun _ h9 => h9) (m_gr_spec hc9) dX8_entry_23 ?_
  refine lv_sipush (v := 424) hx hb dX8_entry_26 (by decide) ?_
  refine lv_iload_n hx hb dX8_entry_29 rfl (lv_at hl 2 rfl) ?_
  refine lv_iadd hx hb dX8_entry_30 ?_
  obtain ⟨x31, hc9, hrun⟩ := m_bind hrun
  refine mr_iald hx hb hR hc9 dX8_entry_31 ?_
  refine lv_icmp_lt (tgt := 39) hx hb dX8_entry_32 (by decide) (fun hc => ?_) (fun hc => ?_)
  · have hrun := mt_t hrun hc
    refine lv_iload_n hx hb dX8_entry_39 rfl (lv_at hl 4 rfl) ?_
    refine lv_if_ne (tgt := 48) hx hb dX8_entry_40 (by decide) (fun hc => ?_) (fun hc => ?_)
    · have hrun := mt_f hrun hc
      refine lv_iload hx hb dX8_entry_48 (lv_at hl 0 rfl) ?_
      refine lv_ldc (v := 100000) hx hb hown (hts _ (m_ws_in wm_3_170)) dX8_entry_50 ?_
      refine lv_iadd hx hb dX8_entry_52 ?_
      exact k_X8_entry_b53 hx hb hr hml hown hts hlocks hin hE hA _ _ _ _ hrun hR hz hS (lv_sub hl [] rfl)
    · have hrun := mt_t hrun hc
      refine lv_iload hx hb dX8_entry_43 (lv_at hl 0 rfl) ?_
      refine lv_goto (tgt := 53) hx hb dX8_entry_45 (by decide) ?_
      exact k_X8_entry_b53 hx hb hr hml hown hts hlocks hin hE hA _ _ _ _ hrun hR hz hS (lv_sub hl [] rfl)
  · have hrun := mt_f hrun hc
    refine lv_iconst (v := (-1)) hx hb dX8_entry_35 (by decide) ?_
    refine lv_goto (tgt := 53) hx hb dX8_entry_36 (by decide) ?_
    exact k_X8_entry_b53 hx hb hr hml hown hts hlocks hin hE hA _ _ _ _ hrun hR hz hS (lv_sub hl [] rfl)
/-! X8_ledger -/
abbrev rm_X8_ledger : Room := { frames := 2, cells := 0, slots := 0, locals := 42 }
theorem yk_X8_ledger : m_K yX8_ledger cX8_ledger 4 (some .int) 3 := ⟨wm_4_21, wm_0_10, by decide +kernel⟩
theorem ys_X8_ledger : Cond.instanceMethod yX8_ledger ∈ wT ∧ Cond.selects RX8 yX8_ledger yX8_ledger ∈ wT := ⟨wm_4_19, wm_4_20⟩
set_option maxRecDepth 100000 in
set_option maxHeartbeats 4000000 in
theorem k_X8_ledger_b46 {p : Program} {l : Launch} {e : Env} {s : State} {m : MethodId} {args : Array Value} {below : List Frame} {meth : Method} {c : Code} {D : va_G} {ids : m_I3} {st : m_T} {A : Nat → Prop} {z : Nat} {r : Int32} {hF : mH} (hx : p.tables.exec = Jvm.exec) (hb : c.code = cX8_ledger) (hr : meth.sig.returnType = some .int) (hml : c.maxLocals = 4) (hown : s.vm.findClass RX8 = some m.cls) (hts : ∀ w ∈ (m_ws yX8_ledger cX8_ledger 4 (some .int)), w.before args s = true) (hlocks : meth.locks = false) (hin : meth.name = yX8_ledger.name) (hE : m_EV st A s s.heap) (hA : ∀ q, s.heap.size ≤ q → A q) (h : mH) (t0 : Int32) (H : Heap) (locs : List Loc) (ls : Array Slot) (hrun : s_X8_ledger_b46 h t0 = some (r, hF)) (hR : Rl D ids A h s H) (hz : H.size = z) (hS : va_S A s.heap H locs) (hl : lv_has ls 4 []) : W p l e rm_X8_ledger s m args below meth c H locs 0 0 (MQ below (mQi D ids A r hF z) args s 0 0 A) (F0 m 46 ls [.int t0]) := by
  unfold s_X8_ledger_b46 at hrun
  obtain ⟨rfl, rfl⟩ := Prod.mk.inj (Option.some.inj hrun)
  exact mr_iret hx hb hr hlocks hR hz hS dX8_ledger_46
set_option maxRecDepth 100000 in
set_option maxHeartbeats 4000000 in
theorem k_X8_ledger_b41 {p : Program} {l : Launch} {e : Env} {s : State} {m : MethodId} {args : Array Value} {below : List Frame} {meth : Method} {c : Code} {D : va_G} {ids : m_I3} {st : m_T} {A : Nat → Prop} {z : Nat} {r : Int32} {hF : mH} (hx : p.tables.exec = Jvm.exec) (hb : c.code = cX8_ledger) (hr : meth.sig.returnType = some .int) (hml : c.maxLocals = 4) (hown : s.vm.findClass RX8 = some m.cls) (hts : ∀ w ∈ (m_ws yX8_ledger cX8_ledger 4 (some .int)), w.before args s = true) (hlocks : meth.locks = false) (hin : meth.name = yX8_ledger.name) (hE : m_EV st A s s.heap) (hA : ∀ q, s.heap.size ≤ q → A q) (h : mH) (v0 : Nat) (H : Heap) (locs : List Loc) (ls : Array Slot) (hrun : s_X8_ledger_b41 h v0 = some (r, hF)) (hR : Rl D ids A h s H) (hz : H.size = z) (hS : va_S A s.heap H locs) (hl : lv_has ls 4 [(0, .ref v0)]) : W p l e rm_X8_ledger s m args below meth c H locs 0 0 (MQ below (mQi D ids A r hF z) args s 0 0 A) (F0 m 41 ls []) := by
  unfold s_X8_ledger_b41 at hrun
  refine lv_aload_n hx hb dX8_ledger_41 rfl (lv_at hl 0 rfl) ?_
  refine lv_iconst (v := 1) hx hb dX8_ledger_42 (by decide) ?_
  obtain ⟨_, ho9, hrun⟩ := m_bind hrun
  obtain ⟨fs9, ho9⟩ := m_is_spec ho9
  obtain ⟨⟨x43, h43⟩, hc9, hrun⟩ := m_bind hrun
  refine mr_calli (mr_runV (As := [.int 1]) (rest := []) hx hb hml hown hts (c_X8_fails l D ids st z hc9) yk_X8_fails ys_X8_fails wm_3_90 ⟨(Nat.le_of_ble_eq_true rfl), (Nat.le_of_ble_eq_true rfl)⟩ (mr_recv (ci := 6) hR hE hz hS hA rfl ho9) hl.1 rfl (Nat.le_of_ble_eq_true rfl) dX8_ledger_43 ⟨(Nat.le_of_ble_eq_true rfl), (Nat.le_of_ble_eq_true rfl)⟩) hR hz hS hA (fun H locs hR hz hS => ?_)
  exact k_X8_ledger_b46 hx hb hr hml hown hts hlocks hin hE hA _ _ _ _ _ hrun hR hz hS (lv_sub hl [] rfl)
set_option maxRecDepth 100000 in
set_option maxHeartbeats 4000000 in
theorem c_X8_ledger (l : Launch) (D : va_G) (ids : m_I3) (st : m_T) (z : Nat) {h : mH} {v0 : Nat} {v1 : Int32} {v2 : Int32} {v3 : Int32} {r : Int32} {hF : mH} (hrun : s_X8_ledger h v0 v1 v2 v3 = some (r, hF)) : Met l yX8_ledger (m_ws yX8_ledger cX8_ledger 4 (some .int)) rm_X8_ledger (mPc D ids st [.ref v0, .int v1, .int v2, .int v3] h z) (mQi D ids (m_A h z) r hF z) rm_X8_ledger.cells rm_X8_ledger.slots (m_A h z) := by
  refine mr_of (cc := cX8_ledger) (maxL := 4) (ret := some .int) (by decide) rfl (Nat.le_of_ble_eq_true rfl) ?_
  intro p e s m below meth c ls hx hb hr hml hown hts hlocks hin hR hE hz hl
  have hA : ∀ q, s.heap.size ≤ q → m_A h z q := fun q hq => Or.inr (by rw [← hz]; exact hq)
  have hS : va_S (m_A h z) s.heap s.heap [] := va_S.rf
  have hl : lv_has ls 4 [(0, .ref v0), (1, .int v1), (2, .int v2), (3, .int v3)] := hl
  unfold s_X8_ledger at hrun
  refine lv_aload_n hx hb dX8_ledger_0 rfl (lv_at hl 0 rfl) ?_
  refine lv_iconst (v := 0) hx hb dX8_ledger_1 (by decide) ?_
  obtain ⟨h2, hc9, hrun⟩ := m_bind hrun
  refine mr_put (C := RX8) (T := TX8) (N := 13) (ci := 6) hx hb hts (fun w q => m_ws_in (wi_X8 w q)) tyX8 tyX8_ok nmX8 hown hR hz hS rfl 0 (by decide) (hts _ (m_ws_in wm_3_33)) (fun _ h9 => h9) rfl (tyX8_ok 0 (by decide)) rfl rfl hc9 dX8_ledger_2 (fun H locs hR hz hS => ?_)
  refine lv_iload_n hx hb dX8_ledger_5 rfl (lv_at hl 1 rfl) ?_
  obtain ⟨x6, hc9, hrun⟩ := m_bind hrun
  refine mr_calli (mr_runS (As := [.int v1]) (rest := []) hx hb hml hown hts (c_X8_isWallet l D ids st z hc9) yk_X8_isWallet ys_X8_isWallet wm_3_84 ⟨(Nat.le_of_ble_eq_true rfl), (Nat.le_of_ble_eq_true rfl)⟩ (mr_recvS hR hE hz hS hA) hl.1 rfl (Nat.le_of_ble_eq_true rfl) dX8_ledger_6 ⟨(Nat.le_of_ble_eq_true rfl), (Nat.le_of_ble_eq_true rfl)⟩) hR hz hS hA (fun H locs hR hz hS => ?_)
  refine lv_if_eq (tgt := 41) hx hb dX8_ledger_9 (by decide) (fun hc => ?_) (fun hc => ?_)
  · have hrun := mt_t hrun hc
    exact k_X8_ledger_b41 hx hb hr hml hown hts hlocks hin hE hA _ _ _ _ _ hrun hR hz hS (lv_sub hl [0] rfl)
  · have hrun := mt_f hrun hc
    refine lv_iload_n hx hb dX8_ledger_12 rfl (lv_at hl 2 rfl) ?_
    refine lv_iconst (v := 0) hx hb dX8_ledger_13 (by decide) ?_
    refine lv_bipush (v := 7) hx hb dX8_ledger_14 (by decide) ?_
    obtain ⟨x16, hc9, hrun⟩ := m_bind hrun
    refine mr_calli (mr_runS (As := [.int v2, .int 0, .int 7]) (rest := []) hx hb hml hown hts (c_X8_in l D ids st z hc9) yk_X8_in ys_X8_in wm_3_87 ⟨(Nat.le_of_ble_eq_true rfl), (Nat.le_of_ble_eq_true rfl)⟩ (mr_recvS hR hE hz hS hA) hl.1 rfl (Nat.le_of_ble_eq_true rfl) dX8_ledger_16 ⟨(Nat.le_of_ble_eq_true rfl), (Nat.le_of_ble_eq_true rfl)⟩) hR hz hS hA (fun H locs hR hz hS => ?_)
    refine lv_if_eq (tgt := 41) hx hb dX8_ledger_19 (by decide) (fun hc => ?_) (fun hc => ?_)
    · have hrun := mt_t hrun hc
      exact k_X8_ledger_b41 hx hb hr hml hown hts hlocks hin hE hA _ _ _ _ _ hrun hR hz hS (lv_sub hl [0] rfl)
    · have hrun := mt_f hrun hc
      refine lv_iload_n hx hb dX8_ledger_22 rfl (lv_at hl 3 rfl) ?_
      refine lv_iconst (v := 0) hx hb dX8_ledger_23 (by decide) ?_
      refine lv_iconst (v := 1) hx hb dX8_ledger_24 (by decide) ?_
      obtain ⟨x25, hc9, hrun⟩ := m_bind hrun
      refine mr_calli (mr_runS (As := [.int v3, .int 0, .int 1]) (rest := []) hx hb hml hown hts (c_X8_in l D ids st z hc9) yk_X8_in ys_X8_in wm_3_87 ⟨(Nat.le_of_ble_eq_true rfl), (Nat.le_of_ble_eq_true rfl)⟩ (mr_recvS hR hE hz hS hA) hl.1 rfl (Nat.le_of_ble_eq_true rfl) dX8_ledger_25 ⟨(Nat.le_of_ble_eq_true rfl), (Nat.le_of_ble_eq_true rfl)⟩) hR hz hS hA (fun H locs hR hz hS => ?_)
      refine lv_if_eq (tgt := 41) hx hb dX8_ledger_28 (by decide) (fun hc => ?_) (fun hc => ?_)
      · have hrun := mt_t hrun hc
        exact k_X8_ledger_b41 hx hb hr hml hown hts hlocks hin hE hA _ _ _ _ _ hrun hR hz hS (lv_sub hl [0] rfl)
      · have hrun := mt_f hrun hc
        refine lv_aload_n hx hb dX8_ledger_31 rfl (lv_at hl 0 rfl) ?_
        refine lv_iload_n hx hb dX8_ledger_32 rfl (lv_at hl 1 rfl) ?_
        refine lv_iload_n hx hb dX8_ledger_33 rfl (lv_at hl 2 rfl) ?_
        refine lv_iload_n hx hb dX8_ledger_34 rfl (lv_at hl 3 rfl) ?_
        obtain ⟨_, ho9, hrun⟩ := m_bind hrun
        obtain ⟨fs9, ho9⟩ := m_is_spec ho9
        obtain ⟨x35, hc9, hrun⟩ := m_bind hrun
        refine mr_calli (mr_runV (As := [.int v1, .int v2, .int v3]) (rest := []) hx hb hml hown hts (c_X8_entry l D ids st z hc9) yk_X8_entry ys_X8_entry wm_4_22 ⟨(Nat.le_of_ble_eq_true rfl), (Nat.le_of_ble_eq_true rfl)⟩ (mr_recv (ci := 6) hR hE hz hS hA rfl ho9) hl.1 rfl (Nat.le_of_ble_eq_true rfl) dX8_ledger_35 ⟨(Nat.le_of_ble_eq_true rfl), (Nat.le_of_ble_eq_true rfl)⟩) hR hz hS hA (fun H locs hR hz hS => ?_)
        refine lv_goto (tgt := 46) hx hb dX8_ledger_38 (by decide) ?_
        exact k_X8_ledger_b46 hx hb hr hml hown hts hlocks hin hE hA _ _ _ _ _ hrun hR hz hS (lv_sub hl [] rfl)
/-! X8_would -/
abbrev rm_X8_would : Room := { frames := 6, cells := 0, slots := 0, locals := 142 }
theorem yk_X8_would : m_K yX8_would cX8_would 8 (some .int) 5 := ⟨wm_4_33, wm_0_10, by decide +kernel⟩
theorem ys_X8_would : Cond.instanceMethod yX8_would ∈ wT ∧ Cond.selects RX8 yX8_would yX8_would ∈ wT := ⟨wm_4_32, wp_3_5⟩
set_option maxRecDepth 100000 in
set_option maxHeartbeats 4000000 in
theorem c_X8_would (l : Launch) (D : va_G) (ids : m_I3) (st : m_T) (z : Nat) {h : mH} {v0 : Nat} {v1 : Int32} {v2 : Int32} {v3 : Int32} {v4 : Int32} {v5 : Int32} {r : Int32} {hF : mH} (hrun : s_X8_would h v0 v1 v2 v3 v4 v5 = some (r, hF)) : Met l yX8_would (m_ws yX8_would cX8_would 8 (some .int)) rm_X8_would (mPc D ids st [.ref v0, .int v1, .int v2, .int v3, .int v4, .int v5] h z) (mQi D ids (m_A h z) r hF z) rm_X8_would.cells rm_X8_would.slots (m_A h z) := by
  refine mr_of (cc := cX8_would) (maxL := 8) (ret := some .int) (by decide) rfl (Nat.le_of_ble_eq_true rfl) ?_
  intro p e s m below meth c ls hx hb hr hml hown hts hlocks hin hR hE hz hl
  have hA : ∀ q, s.heap.size ≤ q → m_A h z q := fun q hq => Or.inr (by rw [← hz]; exact hq)
  have hS : va_S (m_A h z) s.heap s.heap [] := va_S.rf
  have hl : lv_has ls 8 [(0, .ref v0), (1, .int v1), (2, .int v2), (3, .int v3), (4, .int v4), (5, .int v5)] := hl
  unfold s_X8_would at hrun
  refine lv_aload_n hx hb dX8_would_0 rfl (lv_at hl 0 rfl) ?_
  obtain ⟨_, ho9, hrun⟩ := m_bind hrun
  obtain ⟨fs9, ho9⟩ := m_is_spec ho9
  obtain ⟨h1, hc9, hrun⟩ := m_bind hrun
  refine mr_callv (mr_runV (As := []) (rest := []) hx hb hml hown hts (c_X8_putAside l D ids st z hc9) yk_X8_putAside ys_X8_putAside wm_3_122 ⟨(Nat.le_of_ble_eq_true rfl), (Nat.le_of_ble_eq_true rfl)⟩ (mr_recv (ci := 6) hR hE hz hS hA rfl ho9) hl.1 rfl (Nat.le_of_ble_eq_true rfl) dX8_would_1 ⟨(Nat.le_of_ble_eq_true rfl), (Nat.le_of_ble_eq_true rfl)⟩) hR hz hS hA (fun H locs hR hz hS => ?_)
  refine lv_aload_n hx hb dX8_would_4 rfl (lv_at hl 0 rfl) ?_
  refine lv_iload_n hx hb dX8_would_5 rfl (lv_at hl 1 rfl) ?_
  refine lv_iload_n hx hb dX8_would_6 rfl (lv_at hl 2 rfl) ?_
  refine lv_bipush (v := 7) hx hb dX8_would_7 (by decide) ?_
  obtain ⟨x9, hc9, hrun⟩ := m_bind hrun
  obtain ⟨hn9, rfl⟩ := m_div_spec hc9
  refine lv_idiv hx hb dX8_would_9 hn9 ?_
  refine lv_topi (fun x9 ex9 => ?_)
  try rw [← ex9] at hrun
  obtain ⟨_, ho9, hrun⟩ := m_bind hrun
  obtain ⟨fs9, ho9⟩ := m_is_spec ho9
  obtain ⟨⟨x10, h10⟩, hc9, hrun⟩ := m_bind hrun
  refine mr_calli (mr_runV (As := [.int v1, .int x9]) (rest := []) hx hb hml hown hts (c_X8_costs l D ids st z hc9) yk_X8_costs ys_X8_costs wm_3_146 ⟨(Nat.le_of_ble_eq_true rfl), (Nat.le_of_ble_eq_true rfl)⟩ (mr_recv (ci := 6) hR hE hz hS hA rfl ho9) hl.1 rfl (Nat.le_of_ble_eq_true rfl) dX8_would_10 ⟨(Nat.le_of_ble_eq_true rfl), (Nat.le_of_ble_eq_true rfl)⟩) hR hz hS hA (fun H locs hR hz hS => ?_)
  refine lv_istore (lv' := [(6, .int x10), (0, .ref v0), (1, .int v1), (2, .int v2), (3, .int v3), (4, .int v4), (5, .int v5)]) hx hb dX8_would_13 hl (by decide) rfl (fun ls hl => ?_)
  refine lv_aload_n hx hb dX8_would_15 rfl (lv_at hl 1 rfl) ?_
  refine lv_iload_n hx hb dX8_would_16 rfl (lv_at hl 2 rfl) ?_
  refine lv_iload_n hx hb dX8_would_17 rfl (lv_at hl 3 rfl) ?_
  refine lv_iload_n hx hb dX8_would_18 rfl (lv_at hl 4 rfl) ?_
  refine lv_iload hx hb dX8_would_19 (lv_at hl 5 rfl) ?_
  refine lv_iload hx hb dX8_would_21 (lv_at hl 6 rfl) ?_
  refine lv_iconst (v := 0) hx hb dX8_would_23 (by decide) ?_
  obtain ⟨_, ho9, hrun⟩ := m_bind hrun
  obtain ⟨fs9, ho9⟩ := m_is_spec ho9
  obtain ⟨⟨x24, h24⟩, hc9, hrun⟩ := m_bind hrun
  refine mr_calli (mr_runV (As := [.int v1, .int v2, .int v3, .int v4, .int v5, .int 0]) (rest := []) hx hb hml hown hts (c_X8_comes l D ids st z hc9) yk_X8_comes ys_X8_comes wm_3_98 ⟨(Nat.le_of_ble_eq_true rfl), (Nat.le_of_ble_eq_true rfl)⟩ (mr_recv (ci := 6) hR hE hz hS hA rfl ho9) hl.1 rfl (Nat.le_of_ble_eq_true rfl) dX8_would_24 ⟨(Nat.le_of_ble_eq_true rfl), (Nat.le_of_ble_eq_true rfl)⟩) hR hz hS hA (fun H locs hR hz hS => ?_)
  refine lv_pop hx hb dX8_would_27 rfl ?_
  refine lv_aload_n hx hb dX8_would_28 rfl (lv_at hl 1 rfl) ?_
  refine lv_iload_n hx hb dX8_would_29 rfl (lv_at hl 2 rfl) ?_
  refine lv_iload_n hx hb dX8_would_30 rfl (lv_at hl 3 rfl) ?_
  refine lv_bipush (v := 7) hx hb dX8_would_31 (by decide) ?_
  obtain ⟨x33, hc9, hrun⟩ := m_bind hrun
  obtain ⟨hn9, rfl⟩ := m_div_spec hc9
  refine lv_idiv hx hb dX8_would_33 hn9 ?_
  refine lv_topi (fun x33 ex33 => ?_)
  try rw [← ex33] at hrun
  obtain ⟨_, ho9, hrun⟩ := m_bind hrun
  obtain ⟨fs9, ho9⟩ := m_is_spec ho9
  obtain ⟨⟨x34, h34⟩, hc9, hrun⟩ := m_bind hrun
  refine mr_calli (mr_runV (As := [.int v1, .int x33]) (rest := []) hx hb hml hown hts (c_X8_costs l D ids st z hc9) yk_X8_costs ys_X8_costs wm_3_146 ⟨(Nat.le_of_ble_eq_true rfl), (Nat.le_of_ble_eq_true rfl)⟩ (mr_recv (ci := 6) hR hE hz hS hA rfl ho9) hl.1 rfl (Nat.le_of_ble_eq_true rfl) dX8_would_34 ⟨(Nat.le_of_ble_eq_true rfl), (Nat.le_of_ble_eq_true rfl)⟩) hR hz hS hA (fun H locs hR hz hS => ?_)
  refine lv_iload hx hb dX8_would_37 (lv_at hl 0 rfl) ?_
  refine lv_isub hx hb dX8_would_39 ?_
  refine lv_istore (lv' := [(7, .int (x34 - x10)), (6, .int x10), (0, .ref v0), (1, .int v1), (2, .int v2), (3, .int v3), (4, .int v4), (5, .int v5)]) hx hb dX8_would_40 hl (by decide) rfl (fun ls hl => ?_)
  refine lv_aload_n hx hb dX8_would_42 rfl (lv_at hl 2 rfl) ?_
  obtain ⟨_, ho9, hrun⟩ := m_bind hrun
  obtain ⟨fs9, ho9⟩ := m_is_spec ho9
  obtain ⟨h43, hc9, hrun⟩ := m_bind hrun
  refine mr_callv (mr_runV (As := []) (rest := []) hx hb hml hown hts (c_X8_takeBack l D ids st z hc9) yk_X8_takeBack ys_X8_takeBack wm_3_138 ⟨(Nat.le_of_ble_eq_true rfl), (Nat.le_of_ble_eq_true rfl)⟩ (mr_recv (ci := 6) hR hE hz hS hA rfl ho9) hl.1 rfl (Nat.le_of_ble_eq_true rfl) dX8_would_43 ⟨(Nat.le_of_ble_eq_true rfl), (Nat.le_of_ble_eq_true rfl)⟩) hR hz hS hA (fun H locs hR hz hS => ?_)
  refine lv_iload hx hb dX8_would_46 (lv_at hl 0 rfl) ?_
  refine lv_ldc (v := 100000) hx hb hown (hts _ (m_ws_in wm_3_170)) dX8_would_48 ?_
  refine lv_iadd hx hb dX8_would_50 ?_
  obtain ⟨rfl, rfl⟩ := Prod.mk.inj (Option.some.inj hrun)
  exact mr_iret hx hb hr hlocks hR hz hS dX8_would_51
/-! X8_isTold -/
abbrev rm_X8_isTold : Room := { frames := 2, cells := 0, slots := 0, locals := 42 }
theorem yk_X8_isTold : m_K yX8_isTold cX8_isTold 4 (some .boolean) 4 := ⟨wm_3_83, wm_0_10, by decide +kernel⟩
theorem ys_X8_isTold : Cond.static yX8_isTold ∈ wT := wm_3_82
set_option maxRecDepth 100000 in
set_option maxHeartbeats 4000000 in
theorem k_X8_isTold_b43 {p : Program} {l : Launch} {e : Env} {s : State} {m : MethodId} {args : Array Value} {below : List Frame} {meth : Method} {c : Code} {D : va_G} {ids : m_I3} {st : m_T} {A : Nat → Prop} {z : Nat} {r : Int32} (hx : p.tables.exec = Jvm.exec) (hb : c.code = cX8_isTold) (hr : meth.sig.returnType = some .boolean) (hml : c.maxLocals = 4) (hown : s.vm.findClass RX8 = some m.cls) (hts : ∀ w ∈ (m_ws yX8_isTold cX8_isTold 4 (some .boolean)), w.before args s = true) (hlocks : meth.locks = false) (hin : meth.name = yX8_isTold.name) (hE : m_EV st A s s.heap) (hA : ∀ q, s.heap.size ≤ q → A q) {h : mH} (t0 : Int32) (H : Heap) (locs : List Loc) (ls : Array Slot) (hrun : s_X8_isTold_b43 h t0 = some r) (hR : Rl D ids A h s H) (hz : H.size = z) (hS : va_S A s.heap H locs) (hl : lv_has ls 4 []) : W p l e rm_X8_isTold s m args below meth c H locs 0 0 (MQ below (mQi D ids A r h z) args s 0 0 A) (F0 m 43 ls [.int t0]) := by
  unfold s_X8_isTold_b43 at hrun
  obtain ⟨w9, hzr, hrun⟩ := m_bind hrun
  obtain rfl := Option.some.inj hrun
  exact mr_zret hzr hx hb hr hlocks hR hz hS dX8_isTold_43
set_option maxRecDepth 100000 in
set_option maxHeartbeats 4000000 in
theorem k_X8_isTold_b42 {p : Program} {l : Launch} {e : Env} {s : State} {m : MethodId} {args : Array Value} {below : List Frame} {meth : Method} {c : Code} {D : va_G} {ids : m_I3} {st : m_T} {A : Nat → Prop} {z : Nat} {r : Int32} (hx : p.tables.exec = Jvm.exec) (hb : c.code = cX8_isTold) (hr : meth.sig.returnType = some .boolean) (hml : c.maxLocals = 4) (hown : s.vm.findClass RX8 = some m.cls) (hts : ∀ w ∈ (m_ws yX8_isTold cX8_isTold 4 (some .boolean)), w.before args s = true) (hlocks : meth.locks = false) (hin : meth.name = yX8_isTold.name) (hE : m_EV st A s s.heap) (hA : ∀ q, s.heap.size ≤ q → A q) {h : mH} (H : Heap) (locs : List Loc) (ls : Array Slot) (hrun : s_X8_isTold_b42 h  = some r) (hR : Rl D ids A h s H) (hz : H.size = z) (hS : va_S A s.heap H locs) (hl : lv_has ls 4 []) : W p l e rm_X8_isTold s m args below meth c H locs 0 0 (MQ below (mQi D ids A r h z) args s 0 0 A) (F0 m 42 ls []) := by
  unfold s_X8_isTold_b42 at hrun
  refine lv_iconst (v := 0) hx hb dX8_isTold_42 (by decide) ?_
  exact k_X8_isTold_b43 hx hb hr hml hown hts hlocks hin hE hA _ _ _ _ hrun hR hz hS (lv_sub hl [] rfl)
set_option maxRecDepth 100000 in
set_option maxHeartbeats 4000000 in
theorem c_X8_isTold (l : Launch) (D : va_G) (ids : m_I3) (st : m_T) (z : Nat) {h : mH} {v0 : Int32} {v1 : Int32} {v2 : Int32} {v3 : Int32} {r : Int32} (hrun : s_X8_isTold h v0 v1 v2 v3 = some r) : Met l yX8_isTold (m_ws yX8_isTold cX8_isTold 4 (some .boolean)) rm_X8_isTold (mPc D ids st [.int v0, .int v1, .int v2, .int v3] h z) (mQi D ids (m_A h z) r h z) rm_X8_isTold.cells rm_X8_isTold.slots (m_A h z) := by
  refine mr_of (cc := cX8_isTold) (maxL := 4) (ret := some .boolean) (by decide) rfl (Nat.le_of_ble_eq_true rfl) ?_
  intro p e s m below meth c ls hx hb hr hml hown hts hlocks hin hR hE hz hl
  have hA : ∀ q, s.heap.size ≤ q → m_A h z q := fun q hq => Or.inr (by rw [← hz]; exact hq)
  have hS : va_S (m_A h z) s.heap s.heap [] := va_S.rf
  have hl : lv_has ls 4 [(0, .int v0), (1, .int v1), (2, .int v2), (3, .int v3)] := hl
  unfold s_X8_isTold at hrun
  refine lv_iload_n hx hb dX8_isTold_0 rfl (lv_at hl 0 rfl) ?_
  obtain ⟨x1, hc9, hrun⟩ := m_bind hrun
  refine mr_calli (mr_runS (As := [.int v0]) (rest := []) hx hb hml hown hts (c_X8_isWallet l D ids st z hc9) yk_X8_isWallet ys_X8_isWallet wm_3_84 ⟨(Nat.le_of_ble_eq_true rfl), (Nat.le_of_ble_eq_true rfl)⟩ (mr_recvS hR hE hz hS hA) hl.1 rfl (Nat.le_of_ble_eq_true rfl) dX8_isTold_1 ⟨(Nat.le_of_ble_eq_true rfl), (Nat.le_of_ble_eq_true rfl)⟩) hR hz hS hA (fun H locs hR hz hS => ?_)
  refine lv_if_eq (tgt := 42) hx hb dX8_isTold_4 (by decide) (fun hc => ?_) (fun hc => ?_)
  · have hrun := mt_t hrun hc
    exact k_X8_isTold_b42 hx hb hr hml hown hts hlocks hin hE hA _ _ _ hrun hR hz hS (lv_sub hl [] rfl)
  · have hrun := mt_f hrun hc
    refine lv_iload_n hx hb dX8_isTold_7 rfl (lv_at hl 1 rfl) ?_
    refine lv_iconst (v := 0) hx hb dX8_isTold_8 (by decide) ?_
    refine lv_bipush (v := 27) hx hb dX8_isTold_9 (by decide) ?_
    obtain ⟨x11, hc9, hrun⟩ := m_bind hrun
    refine mr_calli (mr_runS (As := [.int v1, .int 0, .int 27]) (rest := []) hx hb hml hown hts (c_X8_in l D ids st z hc9) yk_X8_in ys_X8_in wm_3_87 ⟨(Nat.le_of_ble_eq_true rfl), (Nat.le_of_ble_eq_true rfl)⟩ (mr_recvS hR hE hz hS hA) hl.1 rfl (Nat.le_of_ble_eq_true rfl) dX8_isTold_11 ⟨(Nat.le_of_ble_eq_true rfl), (Nat.le_of_ble_eq_true rfl)⟩) hR hz hS hA (fun H locs hR hz hS => ?_)
    refine lv_if_eq (tgt := 42) hx hb dX8_isTold_14 (by decide) (fun hc => ?_) (fun hc => ?_)
    · have hrun := mt_t hrun hc
      exact k_X8_isTold_b42 hx hb hr hml hown hts hlocks hin hE hA _ _ _ hrun hR hz hS (lv_sub hl [] rfl)
    · have hrun := mt_f hrun hc
      refine lv_iload_n hx hb dX8_isTold_17 rfl (lv_at hl 2 rfl) ?_
      refine lv_iconst (v := 0) hx hb dX8_isTold_18 (by decide) ?_
      refine lv_sipush (v := 1439) hx hb dX8_isTold_19 (by decide) ?_
      obtain ⟨x22, hc9, hrun⟩ := m_bind hrun
      refine mr_calli (mr_runS (As := [.int v2, .int 0, .int 1439]) (rest := []) hx hb hml hown hts (c_X8_in l D ids st z hc9) yk_X8_in ys_X8_in wm_3_87 ⟨(Nat.le_of_ble_eq_true rfl), (Nat.le_of_ble_eq_true rfl)⟩ (mr_recvS hR hE hz hS hA) hl.1 rfl (Nat.le_of_ble_eq_true rfl) dX8_isTold_22 ⟨(Nat.le_of_ble_eq_true rfl), (Nat.le_of_ble_eq_true rfl)⟩) hR hz hS hA (fun H locs hR hz hS => ?_)
      refine lv_if_eq (tgt := 42) hx hb dX8_isTold_25 (by decide) (fun hc => ?_) (fun hc => ?_)
      · have hrun := mt_t hrun hc
        exact k_X8_isTold_b42 hx hb hr hml hown hts hlocks hin hE hA _ _ _ hrun hR hz hS (lv_sub hl [] rfl)
      · have hrun := mt_f hrun hc
        refine lv_iload_n hx hb dX8_isTold_28 rfl (lv_at hl 3 rfl) ?_
        refine lv_iconst (v := 0) hx hb dX8_isTold_29 (by decide) ?_
        refine lv_bipush (v := 9) hx hb dX8_isTold_30 (by decide) ?_
        obtain ⟨x32, hc9, hrun⟩ := m_bind hrun
        refine mr_calli (mr_runS (As := [.int v3, .int 0, .int 9]) (rest := []) hx hb hml hown hts (c_X8_in l D ids st z hc9) yk_X8_in ys_X8_in wm_3_87 ⟨(Nat.le_of_ble_eq_true rfl), (Nat.le_of_ble_eq_true rfl)⟩ (mr_recvS hR hE hz hS hA) hl.1 rfl (Nat.le_of_ble_eq_true rfl) dX8_isTold_32 ⟨(Nat.le_of_ble_eq_true rfl), (Nat.le_of_ble_eq_true rfl)⟩) hR hz hS hA (fun H locs hR hz hS => ?_)
        refine lv_if_eq (tgt := 42) hx hb dX8_isTold_35 (by decide) (fun hc => ?_) (fun hc => ?_)
        · have hrun := mt_t hrun hc
          exact k_X8_isTold_b42 hx hb hr hml hown hts hlocks hin hE hA _ _ _ hrun hR hz hS (lv_sub hl [] rfl)
        · have hrun := mt_f hrun hc
          refine lv_iconst (v := 1) hx hb dX8_isTold_38 (by decide) ?_
          refine lv_goto (tgt := 43) hx hb dX8_isTold_39 (by decide) ?_
          exact k_X8_isTold_b43 hx hb hr hml hown hts hlocks hin hE hA _ _ _ _ hrun hR hz hS (lv_sub hl [] rfl)
/-! X8_ifTapped -/
abbrev rm_X8_ifTapped : Room := { frames := 7, cells := 0, slots := 0, locals := 169 }
theorem yk_X8_ifTapped : m_K yX8_ifTapped cX8_ifTapped 6 (some .int) 5 := ⟨wm_4_29, wm_0_10, by decide +kernel⟩
theorem ys_X8_ifTapped : Cond.instanceMethod yX8_ifTapped ∈ wT ∧ Cond.selects RX8 yX8_ifTapped yX8_ifTapped ∈ wT := ⟨wm_4_27, wm_4_28⟩
set_option maxRecDepth 100000 in
set_option maxHeartbeats 4000000 in
theorem k_X8_ifTapped_b43 {p : Program} {l : Launch} {e : Env} {s : State} {m : MethodId} {args : Array Value} {below : List Frame} {meth : Method} {c : Code} {D : va_G} {ids : m_I3} {st : m_T} {A : Nat → Prop} {z : Nat} {r : Int32} {hF : mH} (hx : p.tables.exec = Jvm.exec) (hb : c.code = cX8_ifTapped) (hr : meth.sig.returnType = some .int) (hml : c.maxLocals = 6) (hown : s.vm.findClass RX8 = some m.cls) (hts : ∀ w ∈ (m_ws yX8_ifTapped cX8_ifTapped 6 (some .int)), w.before args s = true) (hlocks : meth.locks = false) (hin : meth.name = yX8_ifTapped.name) (hE : m_EV st A s s.heap) (hA : ∀ q, s.heap.size ≤ q → A q) (h : mH) (t0 : Int32) (H : Heap) (locs : List Loc) (ls : Array Slot) (hrun : s_X8_ifTapped_b43 h t0 = some (r, hF)) (hR : Rl D ids A h s H) (hz : H.size = z) (hS : va_S A s.heap H locs) (hl : lv_has ls 6 []) : W p l e rm_X8_ifTapped s m args below meth c H locs 0 0 (MQ below (mQi D ids A r hF z) args s 0 0 A) (F0 m 43 ls [.int t0]) := by
  unfold s_X8_ifTapped_b43 at hrun
  obtain ⟨rfl, rfl⟩ := Prod.mk.inj (Option.some.inj hrun)
  exact mr_iret hx hb hr hlocks hR hz hS dX8_ifTapped_43
set_option maxRecDepth 100000 in
set_option maxHeartbeats 4000000 in
theorem k_X8_ifTapped_b32 {p : Program} {l : Launch} {e : Env} {s : State} {m : MethodId} {args : Array Value} {below : List Frame} {meth : Method} {c : Code} {D : va_G} {ids : m_I3} {st : m_T} {A : Nat → Prop} {z : Nat} {r : Int32} {hF : mH} (hx : p.tables.exec = Jvm.exec) (hb : c.code = cX8_ifTapped) (hr : meth.sig.returnType = some .int) (hml : c.maxLocals = 6) (hown : s.vm.findClass RX8 = some m.cls) (hts : ∀ w ∈ (m_ws yX8_ifTapped cX8_ifTapped 6 (some .int)), w.before args s = true) (hlocks : meth.locks = false) (hin : meth.name = yX8_ifTapped.name) (hE : m_EV st A s s.heap) (hA : ∀ q, s.heap.size ≤ q → A q) (h : mH) (t0 : Nat) (t1 : Int32) (t2 : Int32) (t3 : Int32) (t4 : Int32) (t5 : Int32) (H : Heap) (locs : List Loc) (ls : Array Slot) (hrun : s_X8_ifTapped_b32 h t0 t1 t2 t3 t4 t5 = some (r, hF)) (hR : Rl D ids A h s H) (hz : H.size = z) (hS : va_S A s.heap H locs) (hl : lv_has ls 6 []) : W p l e rm_X8_ifTapped s m args below meth c H locs 0 0 (MQ below (mQi D ids A r hF z) args s 0 0 A) (F0 m 32 ls [.int t5, .int t4, .int t3, .int t2, .int t1, .ref t0]) := by
  unfold s_X8_ifTapped_b32 at hrun
  obtain ⟨_, ho9, hrun⟩ := m_bind hrun
  obtain ⟨fs9, ho9⟩ := m_is_spec ho9
  obtain ⟨⟨x32, h32⟩, hc9, hrun⟩ := m_bind hrun
  refine mr_calli (mr_runV (As := [.int t1, .int t2, .int t3, .int t4, .int t5]) (rest := []) hx hb hml hown hts (c_X8_would l D ids st z hc9) yk_X8_would ys_X8_would wm_4_30 ⟨(Nat.le_of_ble_eq_true rfl), (Nat.le_of_ble_eq_true rfl)⟩ (mr_recv (ci := 6) hR hE hz hS hA rfl ho9) hl.1 rfl (Nat.le_of_ble_eq_true rfl) dX8_ifTapped_32 ⟨(Nat.le_of_ble_eq_true rfl), (Nat.le_of_ble_eq_true rfl)⟩) hR hz hS hA (fun H locs hR hz hS => ?_)
  refine lv_goto (tgt := 43) hx hb dX8_ifTapped_35 (by decide) ?_
  exact k_X8_ifTapped_b43 hx hb hr hml hown hts hlocks hin hE hA _ _ _ _ _ hrun hR hz hS (lv_sub hl [] rfl)
set_option maxRecDepth 100000 in
set_option maxHeartbeats 4000000 in
theorem c_X8_ifTapped (l : Launch) (D : va_G) (ids : m_I3) (st : m_T) (z : Nat) {h : mH} {v0 : Nat} {v1 : Int32} {v2 : Int32} {v3 : Int32} {v4 : Int32} {v5 : Int32} {r : Int32} {hF : mH} (hrun : s_X8_ifTapped h v0 v1 v2 v3 v4 v5 = some (r, hF)) : Met l yX8_ifTapped (m_ws yX8_ifTapped cX8_ifTapped 6 (some .int)) rm_X8_ifTapped (mPc D ids st [.ref v0, .int v1, .int v2, .int v3, .int v4, .int v5] h z) (mQi D ids (m_A h z) r hF z) rm_X8_ifTapped.cells rm_X8_ifTapped.slots (m_A h z) := by
  refine mr_of (cc := cX8_ifTapped) (maxL := 6) (ret := some .int) (by decide) rfl (Nat.le_of_ble_eq_true rfl) ?_
  intro p e s m below meth c ls hx hb hr hml hown hts hlocks hin hR hE hz hl
  have hA : ∀ q, s.heap.size ≤ q → m_A h z q := fun q hq => Or.inr (by rw [← hz]; exact hq)
  have hS : va_S (m_A h z) s.heap s.heap [] := va_S.rf
  have hl : lv_has ls 6 [(0, .ref v0), (1, .int v1), (2, .int v2), (3, .int v3), (4, .int v4), (5, .int v5)] := hl
  unfold s_X8_ifTapped at hrun
  refine lv_aload_n hx hb dX8_ifTapped_0 rfl (lv_at hl 0 rfl) ?_
  refine lv_iconst (v := 0) hx hb dX8_ifTapped_1 (by decide) ?_
  obtain ⟨h2, hc9, hrun⟩ := m_bind hrun
  refine mr_put (C := RX8) (T := TX8) (N := 13) (ci := 6) hx hb hts (fun w q => m_ws_in (wi_X8 w q)) tyX8 tyX8_ok nmX8 hown hR hz hS rfl 0 (by decide) (hts _ (m_ws_in wm_3_33)) (fun _ h9 => h9) rfl (tyX8_ok 0 (by decide)) rfl rfl hc9 dX8_ifTapped_2 (fun H locs hR hz hS => ?_)
  refine lv_iload_n hx hb dX8_ifTapped_5 rfl (lv_at hl 1 rfl) ?_
  refine lv_iload_n hx hb dX8_ifTapped_6 rfl (lv_at hl 2 rfl) ?_
  refine lv_iload_n hx hb dX8_ifTapped_7 rfl (lv_at hl 3 rfl) ?_
  refine lv_iload hx hb dX8_ifTapped_8 (lv_at hl 4 rfl) ?_
  obtain ⟨x10, hc9, hrun⟩ := m_bind hrun
  refine mr_calli (mr_runS (As := [.int v1, .int v2, .int v3, .int v4]) (rest := []) hx hb hml hown hts (c_X8_isTold l D ids st z hc9) yk_X8_isTold ys_X8_isTold wm_3_81 ⟨(Nat.le_of_ble_eq_true rfl), (Nat.le_of_ble_eq_true rfl)⟩ (mr_recvS hR hE hz hS hA) hl.1 rfl (Nat.le_of_ble_eq_true rfl) dX8_ifTapped_10 ⟨(Nat.le_of_ble_eq_true rfl), (Nat.le_of_ble_eq_true rfl)⟩) hR hz hS hA (fun H locs hR hz hS => ?_)
  refine lv_if_eq (tgt := 38) hx hb dX8_ifTapped_13 (by decide) (fun hc => ?_) (fun hc => ?_)
  · have hrun := mt_t hrun hc
    refine lv_aload_n hx hb dX8_ifTapped_38 rfl (lv_at hl 0 rfl) ?_
    refine lv_iconst (v := 1) hx hb dX8_ifTapped_39 (by decide) ?_
    obtain ⟨_, ho9, hrun⟩ := m_bind hrun
    obtain ⟨fs9, ho9⟩ := m_is_spec ho9
    obtain ⟨⟨x40, h40⟩, hc9, hrun⟩ := m_bind hrun
    refine mr_calli (mr_runV (As := [.int 1]) (rest := []) hx hb hml hown hts (c_X8_fails l D ids st z hc9) yk_X8_fails ys_X8_fails wm_3_90 ⟨(Nat.le_of_ble_eq_true rfl), (Nat.le_of_ble_eq_true rfl)⟩ (mr_recv (ci := 6) hR hE hz hS hA rfl ho9) hl.1 rfl (Nat.le_of_ble_eq_true rfl) dX8_ifTapped_40 ⟨(Nat.le_of_ble_eq_true rfl), (Nat.le_of_ble_eq_true rfl)⟩) hR hz hS hA (fun H locs hR hz hS => ?_)
    exact k_X8_ifTapped_b43 hx hb hr hml hown hts hlocks hin hE hA _ _ _ _ _ hrun hR hz hS (lv_sub hl [] rfl)
  · have hrun := mt_f hrun hc
    refine lv_aload_n hx hb dX8_ifTapped_16 rfl (lv_at hl 0 rfl) ?_
    refine lv_iload_n hx hb dX8_ifTapped_17 rfl (lv_at hl 1 rfl) ?_
    refine lv_iload_n hx hb dX8_ifTapped_18 rfl (lv_at hl 2 rfl) ?_
    refine lv_iload_n hx hb dX8_ifTapped_19 rfl (lv_at hl 3 rfl) ?_
    refine lv_iload hx hb dX8_ifTapped_20 (lv_at hl 4 rfl) ?_
    refine lv_iload hx hb dX8_ifTapped_22 (lv_at hl 5 rfl) ?_
    refine lv_if_eq (tgt := 31) hx hb dX8_ifTapped_24 (by decide) (fun hc => ?_) (fun hc => ?_)
    · have hrun := mt_t hrun hc
      refine lv_iconst (v := 0) hx hb dX8_ifTapped_31 (by decide) ?_
      exact k_X8_ifTapped_b32 hx hb hr hml hown hts hlocks hin hE hA _ _ _ _ _ _ _ _ _ _ hrun hR hz hS (lv_sub hl [] rfl)
    · have hrun := mt_f hrun hc
      refine lv_iconst (v := 1) hx hb dX8_ifTapped_27 (by decide) ?_
      refine lv_goto (tgt := 32) hx hb dX8_ifTapped_28 (by decide) ?_
      exact k_X8_ifTapped_b32 hx hb hr hml hown hts hlocks hin hE hA _ _ _ _ _ _ _ _ _ _ hrun hR hz hS (lv_sub hl [] rfl)
/-! X8_whyNot -/
abbrev rm_X8_whyNot : Room := { frames := 4, cells := 0, slots := 0, locals := 99 }
theorem yk_X8_whyNot : m_K yX8_whyNot cX8_whyNot 5 (some .int) 3 := ⟨wm_4_37, wm_0_10, by decide +kernel⟩
theorem ys_X8_whyNot : Cond.instanceMethod yX8_whyNot ∈ wT ∧ Cond.selects RX8 yX8_whyNot yX8_whyNot ∈ wT := ⟨wm_4_35, wm_4_36⟩
set_option maxRecDepth 100000 in
set_option maxHeartbeats 4000000 in
theorem k_X8_whyNot_b26 {p : Program} {l : Launch} {e : Env} {s : State} {m : MethodId} {args : Array Value} {below : List Frame} {meth : Method} {c : Code} {D : va_G} {ids : m_I3} {st : m_T} {A : Nat → Prop} {z : Nat} {r : Int32} {hF : mH} (hx : p.tables.exec = Jvm.exec) (hb : c.code = cX8_whyNot) (hr : meth.sig.returnType = some .int) (hml : c.maxLocals = 5) (hown : s.vm.findClass RX8 = some m.cls) (hts : ∀ w ∈ (m_ws yX8_whyNot cX8_whyNot 5 (some .int)), w.before args s = true) (hlocks : meth.locks = false) (hin : meth.name = yX8_whyNot.name) (hE : m_EV st A s s.heap) (hA : ∀ q, s.heap.size ≤ q → A q) (h : mH) (v0 : Nat) (H : Heap) (locs : List Loc) (ls : Array Slot) (hrun : s_X8_whyNot_b26 h v0 = some (r, hF)) (hR : Rl D ids A h s H) (hz : H.size = z) (hS : va_S A s.heap H locs) (hl : lv_has ls 5 [(0, .ref v0)]) : W p l e rm_X8_whyNot s m args below meth c H locs 0 0 (MQ below (mQi D ids A r hF z) args s 0 0 A) (F0 m 26 ls []) := by
  unfold s_X8_whyNot_b26 at hrun
  refine lv_aload_n hx hb dX8_whyNot_26 rfl (lv_at hl 0 rfl) ?_
  refine lv_iconst (v := 1) hx hb dX8_whyNot_27 (by decide) ?_
  obtain ⟨_, ho9, hrun⟩ := m_bind hrun
  obtain ⟨fs9, ho9⟩ := m_is_spec ho9
  obtain ⟨⟨x28, h28⟩, hc9, hrun⟩ := m_bind hrun
  refine mr_calli (mr_runV (As := [.int 1]) (rest := []) hx hb hml hown hts (c_X8_fails l D ids st z hc9) yk_X8_fails ys_X8_fails wm_3_90 ⟨(Nat.le_of_ble_eq_true rfl), (Nat.le_of_ble_eq_true rfl)⟩ (mr_recv (ci := 6) hR hE hz hS hA rfl ho9) hl.1 rfl (Nat.le_of_ble_eq_true rfl) dX8_whyNot_28 ⟨(Nat.le_of_ble_eq_true rfl), (Nat.le_of_ble_eq_true rfl)⟩) hR hz hS hA (fun H locs hR hz hS => ?_)
  obtain ⟨rfl, rfl⟩ := Prod.mk.inj (Option.some.inj hrun)
  exact mr_iret hx hb hr hlocks hR hz hS dX8_whyNot_31
set_option maxRecDepth 100000 in
set_option maxHeartbeats 4000000 in
theorem c_X8_whyNot (l : Launch) (D : va_G) (ids : m_I3) (st : m_T) (z : Nat) {h : mH} {v0 : Nat} {v1 : Int32} {v2 : Int32} {v3 : Int32} {r : Int32} {hF : mH} (hrun : s_X8_whyNot h v0 v1 v2 v3 = some (r, hF)) : Met l yX8_whyNot (m_ws yX8_whyNot cX8_whyNot 5 (some .int)) rm_X8_whyNot (mPc D ids st [.ref v0, .int v1, .int v2, .int v3] h z) (mQi D ids (m_A h z) r hF z) rm_X8_whyNot.cells rm_X8_whyNot.slots (m_A h z) := by
  refine mr_of (cc := cX8_whyNot) (maxL := 5) (ret := some .int) (by decide) rfl (Nat.le_of_ble_eq_true rfl) ?_
  intro p e s m below meth c ls hx hb hr hml hown hts hlocks hin hR hE hz hl
  have hA : ∀ q, s.heap.size ≤ q → m_A h z q := fun q hq => Or.inr (by rw [← hz]; exact hq)
  have hS : va_S (m_A h z) s.heap s.heap [] := va_S.rf
  have hl : lv_has ls 5 [(0, .ref v0), (1, .int v1), (2, .int v2), (3, .int v3)] := hl
  unfold s_X8_whyNot at hrun
  refine lv_aload_n hx hb dX8_whyNot_0 rfl (lv_at hl 0 rfl) ?_
  refine lv_iconst (v := 0) hx hb dX8_whyNot_1 (by decide) ?_
  obtain ⟨h2, hc9, hrun⟩ := m_bind hrun
  refine mr_put (C := RX8) (T := TX8) (N := 13) (ci := 6) hx hb hts (fun w q => m_ws_in (wi_X8 w q)) tyX8 tyX8_ok nmX8 hown hR hz hS rfl 0 (by decide) (hts _ (m_ws_in wm_3_33)) (fun _ h9 => h9) rfl (tyX8_ok 0 (by decide)) rfl rfl hc9 dX8_whyNot_2 (fun H locs hR hz hS => ?_)
  refine lv_iload_n hx hb dX8_whyNot_5 rfl (lv_at hl 2 rfl) ?_
  refine lv_iconst (v := 0) hx hb dX8_whyNot_6 (by decide) ?_
  refine lv_sipush (v := 1439) hx hb dX8_whyNot_7 (by decide) ?_
  obtain ⟨x10, hc9, hrun⟩ := m_bind hrun
  refine mr_calli (mr_runS (As := [.int v2, .int 0, .int 1439]) (rest := []) hx hb hml hown hts (c_X8_in l D ids st z hc9) yk_X8_in ys_X8_in wm_3_87 ⟨(Nat.le_of_ble_eq_true rfl), (Nat.le_of_ble_eq_true rfl)⟩ (mr_recvS hR hE hz hS hA) hl.1 rfl (Nat.le_of_ble_eq_true rfl) dX8_whyNot_10 ⟨(Nat.le_of_ble_eq_true rfl), (Nat.le_of_ble_eq_true rfl)⟩) hR hz hS hA (fun H locs hR hz hS => ?_)
  refine lv_if_eq (tgt := 26) hx hb dX8_whyNot_13 (by decide) (fun hc => ?_) (fun hc => ?_)
  · have hrun := mt_t hrun hc
    exact k_X8_whyNot_b26 hx hb hr hml hown hts hlocks hin hE hA _ _ _ _ _ hrun hR hz hS (lv_sub hl [0] rfl)
  · have hrun := mt_f hrun hc
    refine lv_iload_n hx hb dX8_whyNot_16 rfl (lv_at hl 3 rfl) ?_
    refine lv_iconst (v := 0) hx hb dX8_whyNot_17 (by decide) ?_
    refine lv_bipush (v := 9) hx hb dX8_whyNot_18 (by decide) ?_
    obtain ⟨x20, hc9, hrun⟩ := m_bind hrun
    refine mr_calli (mr_runS (As := [.int v3, .int 0, .int 9]) (rest := []) hx hb hml hown hts (c_X8_in l D ids st z hc9) yk_X8_in ys_X8_in wm_3_87 ⟨(Nat.le_of_ble_eq_true rfl), (Nat.le_of_ble_eq_true rfl)⟩ (mr_recvS hR hE hz hS hA) hl.1 rfl (Nat.le_of_ble_eq_true rfl) dX8_whyNot_20 ⟨(Nat.le_of_ble_eq_true rfl), (Nat.le_of_ble_eq_true rfl)⟩) hR hz hS hA (fun H locs hR hz hS => ?_)
    refine lv_if_ne (tgt := 32) hx hb dX8_whyNot_23 (by decide) (fun hc => ?_) (fun hc => ?_)
    · have hrun := mt_f hrun hc
      refine lv_aload_n hx hb dX8_whyNot_32 rfl (lv_at hl 0 rfl) ?_
      obtain ⟨_, ho9, hrun⟩ := m_bind hrun
      obtain ⟨fs9, ho9⟩ := m_is_spec ho9
      obtain ⟨h33, hc9, hrun⟩ := m_bind hrun
      refine mr_callv (mr_runV (As := []) (rest := []) hx hb hml hown hts (c_X8_putAside l D ids st z hc9) yk_X8_putAside ys_X8_putAside wm_3_122 ⟨(Nat.le_of_ble_eq_true rfl), (Nat.le_of_ble_eq_true rfl)⟩ (mr_recv (ci := 6) hR hE hz hS hA rfl ho9) hl.1 rfl (Nat.le_of_ble_eq_true rfl) dX8_whyNot_33 ⟨(Nat.le_of_ble_eq_true rfl), (Nat.le_of_ble_eq_true rfl)⟩) hR hz hS hA (fun H locs hR hz hS => ?_)
      refine lv_aload_n hx hb dX8_whyNot_36 rfl (lv_at hl 0 rfl) ?_
      refine lv_iload_n hx hb dX8_whyNot_37 rfl (lv_at hl 1 rfl) ?_
      refine lv_iload_n hx hb dX8_whyNot_38 rfl (lv_at hl 2 rfl) ?_
      refine lv_iload_n hx hb dX8_whyNot_39 rfl (lv_at hl 3 rfl) ?_
      obtain ⟨_, ho9, hrun⟩ := m_bind hrun
      obtain ⟨fs9, ho9⟩ := m_is_spec ho9
      obtain ⟨⟨x40, h40⟩, hc9, hrun⟩ := m_bind hrun
      refine mr_calli (mr_runV (As := [.int v1, .int v2, .int v3]) (rest := []) hx hb hml hown hts (c_X8_refuses l D ids st z hc9) yk_X8_refuses ys_X8_refuses wm_3_126 ⟨(Nat.le_of_ble_eq_true rfl), (Nat.le_of_ble_eq_true rfl)⟩ (mr_recv (ci := 6) hR hE hz hS hA rfl ho9) hl.1 rfl (Nat.le_of_ble_eq_true rfl) dX8_whyNot_40 ⟨(Nat.le_of_ble_eq_true rfl), (Nat.le_of_ble_eq_true rfl)⟩) hR hz hS hA (fun H locs hR hz hS => ?_)
      refine lv_istore (lv' := [(4, .int x40), (0, .ref v0), (1, .int v1), (2, .int v2), (3, .int v3)]) hx hb dX8_whyNot_43 hl (by decide) rfl (fun ls hl => ?_)
      refine lv_aload_n hx hb dX8_whyNot_45 rfl (lv_at hl 1 rfl) ?_
      obtain ⟨_, ho9, hrun⟩ := m_bind hrun
      obtain ⟨fs9, ho9⟩ := m_is_spec ho9
      obtain ⟨h46, hc9, hrun⟩ := m_bind hrun
      refine mr_callv (mr_runV (As := []) (rest := []) hx hb hml hown hts (c_X8_takeBack l D ids st z hc9) yk_X8_takeBack ys_X8_takeBack wm_3_138 ⟨(Nat.le_of_ble_eq_true rfl), (Nat.le_of_ble_eq_true rfl)⟩ (mr_recv (ci := 6) hR hE hz hS hA rfl ho9) hl.1 rfl (Nat.le_of_ble_eq_true rfl) dX8_whyNot_46 ⟨(Nat.le_of_ble_eq_true rfl), (Nat.le_of_ble_eq_true rfl)⟩) hR hz hS hA (fun H locs hR hz hS => ?_)
      refine lv_iload hx hb dX8_whyNot_49 (lv_at hl 0 rfl) ?_
      obtain ⟨rfl, rfl⟩ := Prod.mk.inj (Option.some.inj hrun)
      exact mr_iret hx hb hr hlocks hR hz hS dX8_whyNot_51
    · have hrun := mt_t hrun hc
      exact k_X8_whyNot_b26 hx hb hr hml hown hts hlocks hin hE hA _ _ _ _ _ hrun hR hz hS (lv_sub hl [0] rfl)
/-! X8_leakyOne -/
abbrev rm_X8_leakyOne : Room := { frames := 3, cells := 0, slots := 0, locals := 67 }
theorem yk_X8_leakyOne : m_K yX8_leakyOne cX8_leakyOne 6 (some .int) 0 := ⟨wm_4_45, wm_0_10, by decide +kernel⟩
theorem ys_X8_leakyOne : Cond.instanceMethod yX8_leakyOne ∈ wT ∧ Cond.selects RX8 yX8_leakyOne yX8_leakyOne ∈ wT := ⟨wm_4_44, wp_3_6⟩
set_option maxRecDepth 100000 in
set_option maxHeartbeats 4000000 in
theorem k_X8_leakyOne_b96 {p : Program} {l : Launch} {e : Env} {s : State} {m : MethodId} {args : Array Value} {below : List Frame} {meth : Method} {c : Code} {D : va_G} {ids : m_I3} {st : m_T} {A : Nat → Prop} {z : Nat} {r : Int32} {hF : mH} (hx : p.tables.exec = Jvm.exec) (hb : c.code = cX8_leakyOne) (hr : meth.sig.returnType = some .int) (hml : c.maxLocals = 6) (hown : s.vm.findClass RX8 = some m.cls) (hts : ∀ w ∈ (m_ws yX8_leakyOne cX8_leakyOne 6 (some .int)), w.before args s = true) (hlocks : meth.locks = false) (hin : meth.name = yX8_leakyOne.name) (hE : m_EV st A s s.heap) (hA : ∀ q, s.heap.size ≤ q → A q) {k10 : mH → Nat → Int32 → Int32 → Int32 → Option (Int32 × mH)} (hk10 : ∀ (h : mH) (v0 : Nat) (v1 : Int32) (v2 : Int32) (v3 : Int32) (H : Heap) (locs : List Loc) (ls : Array Slot), k10 h v0 v1 v2 v3 = some (r, hF) → Rl D ids A h s H → H.size = z → va_S A s.heap H locs → lv_has ls 6 [(0, .ref v0), (1, .int v1), (2, .int v2), (3, .int v3)] → W p l e rm_X8_leakyOne s m args below meth c H locs 0 0 (MQ below (mQi D ids A r hF z) args s 0 0 A) (F0 m 10 ls [])) (h : mH) (v0 : Nat) (v1 : Int32) (v3 : Int32) (t0 : Int32) (H : Heap) (locs : List Loc) (ls : Array Slot) (hrun : s_X8_leakyOne_b96 k10 h v0 v1 v3 t0 = some (r, hF)) (hR : Rl D ids A h s H) (hz : H.size = z) (hS : va_S A s.heap H locs) (hl : lv_has ls 6 [(0, .ref v0), (1, .int v1), (3, .int v3)]) : W p l e rm_X8_leakyOne s m args below meth c H locs 0 0 (MQ below (mQi D ids A r hF z) args s 0 0 A) (F0 m 96 ls [.int t0]) := by
  unfold s_X8_leakyOne_b96 at hrun
  refine lv_istore_n (lv' := [(2, .int t0), (0, .ref v0), (1, .int v1), (3, .int v3)]) hx hb dX8_leakyOne_96 rfl hl (by decide) rfl (fun ls hl => ?_)
  refine lv_iinc (v := v3 + 1) (lv' := [(3, .int (v3 + 1)), (2, .int t0), (0, .ref v0), (1, .int v1)]) hx hb dX8_leakyOne_97 hl (k := 3) rfl rfl (by decide) rfl (fun ls hl => ?_)
  refine lv_goto (tgt := 10) hx hb dX8_leakyOne_100 (by decide) ?_
  exact hk10 _ _ _ _ _ _ _ _ hrun hR hz hS (lv_sub hl [2, 3, 1, 0] rfl)
set_option maxRecDepth 100000 in
set_option maxHeartbeats 4000000 in
theorem k_X8_leakyOne_b83 {p : Program} {l : Launch} {e : Env} {s : State} {m : MethodId} {args : Array Value} {below : List Frame} {meth : Method} {c : Code} {D : va_G} {ids : m_I3} {st : m_T} {A : Nat → Prop} {z : Nat} {r : Int32} {hF : mH} (hx : p.tables.exec = Jvm.exec) (hb : c.code = cX8_leakyOne) (hr : meth.sig.returnType = some .int) (hml : c.maxLocals = 6) (hown : s.vm.findClass RX8 = some m.cls) (hts : ∀ w ∈ (m_ws yX8_leakyOne cX8_leakyOne 6 (some .int)), w.before args s = true) (hlocks : meth.locks = false) (hin : meth.name = yX8_leakyOne.name) (hE : m_EV st A s s.heap) (hA : ∀ q, s.heap.size ≤ q → A q) {k10 : mH → Nat → Int32 → Int32 → Int32 → Option (Int32 × mH)} (hk10 : ∀ (h : mH) (v0 : Nat) (v1 : Int32) (v2 : Int32) (v3 : Int32) (H : Heap) (locs : List Loc) (ls : Array Slot), k10 h v0 v1 v2 v3 = some (r, hF) → Rl D ids A h s H → H.size = z → va_S A s.heap H locs → lv_has ls 6 [(0, .ref v0), (1, .int v1), (2, .int v2), (3, .int v3)] → W p l e rm_X8_leakyOne s m args below meth c H locs 0 0 (MQ below (mQi D ids A r hF z) args s 0 0 A) (F0 m 10 ls [])) (h : mH) (v0 : Nat) (v2 : Int32) (v3 : Int32) (v4 : Int32) (t0 : Int32) (H : Heap) (locs : List Loc) (ls : Array Slot) (hrun : s_X8_leakyOne_b83 k10 h v0 v2 v3 v4 t0 = some (r, hF)) (hR : Rl D ids A h s H) (hz : H.size = z) (hS : va_S A s.heap H locs) (hl : lv_has ls 6 [(0, .ref v0), (2, .int v2), (3, .int v3), (4, .int v4)]) : W p l e rm_X8_leakyOne s m args below meth c H locs 0 0 (MQ below (mQi D ids A r hF z) args s 0 0 A) (F0 m 83 ls [.int t0]) := by
  unfold s_X8_leakyOne_b83 at hrun
  refine lv_istore_n (lv' := [(1, .int t0), (0, .ref v0), (2, .int v2), (3, .int v3), (4, .int v4)]) hx hb dX8_leakyOne_83 rfl hl (by decide) rfl (fun ls hl => ?_)
  refine lv_iload hx hb dX8_leakyOne_84 (lv_at hl 4 rfl) ?_
  refine lv_iload_n hx hb dX8_leakyOne_86 rfl (lv_at hl 2 rfl) ?_
  refine lv_icmp_le (tgt := 95) hx hb dX8_leakyOne_87 (by decide) (fun hc => ?_) (fun hc => ?_)
  · have hrun := mt_t hrun hc
    refine lv_iload_n hx hb dX8_leakyOne_95 rfl (lv_at hl 2 rfl) ?_
    exact k_X8_leakyOne_b96 hx hb hr hml hown hts hlocks hin hE hA hk10 _ _ _ _ _ _ _ _ hrun hR hz hS (lv_sub hl [1, 0, 3] rfl)
  · have hrun := mt_f hrun hc
    refine lv_iload hx hb dX8_leakyOne_90 (lv_at hl 4 rfl) ?_
    refine lv_goto (tgt := 96) hx hb dX8_leakyOne_92 (by decide) ?_
    exact k_X8_leakyOne_b96 hx hb hr hml hown hts hlocks hin hE hA hk10 _ _ _ _ _ _ _ _ hrun hR hz hS (lv_sub hl [1, 0, 3] rfl)
set_option maxRecDepth 100000 in
set_option maxHeartbeats 4000000 in
theorem k_X8_leakyOne_b63 {p : Program} {l : Launch} {e : Env} {s : State} {m : MethodId} {args : Array Value} {below : List Frame} {meth : Method} {c : Code} {D : va_G} {ids : m_I3} {st : m_T} {A : Nat → Prop} {z : Nat} {r : Int32} {hF : mH} (hx : p.tables.exec = Jvm.exec) (hb : c.code = cX8_leakyOne) (hr : meth.sig.returnType = some .int) (hml : c.maxLocals = 6) (hown : s.vm.findClass RX8 = some m.cls) (hts : ∀ w ∈ (m_ws yX8_leakyOne cX8_leakyOne 6 (some .int)), w.before args s = true) (hlocks : meth.locks = false) (hin : meth.name = yX8_leakyOne.name) (hE : m_EV st A s s.heap) (hA : ∀ q, s.heap.size ≤ q → A q) {k10 : mH → Nat → Int32 → Int32 → Int32 → Option (Int32 × mH)} {k22 : mH → Nat → Int32 → Int32 → Int32 → Int32 → Int32 → Option (Int32 × mH)} (hk10 : ∀ (h : mH) (v0 : Nat) (v1 : Int32) (v2 : Int32) (v3 : Int32) (H : Heap) (locs : List Loc) (ls : Array Slot), k10 h v0 v1 v2 v3 = some (r, hF) → Rl D ids A h s H → H.size = z → va_S A s.heap H locs → lv_has ls 6 [(0, .ref v0), (1, .int v1), (2, .int v2), (3, .int v3)] → W p l e rm_X8_leakyOne s m args below meth c H locs 0 0 (MQ below (mQi D ids A r hF z) args s 0 0 A) (F0 m 10 ls [])) (hk22 : ∀ (h : mH) (v0 : Nat) (v1 : Int32) (v2 : Int32) (v3 : Int32) (v4 : Int32) (v5 : Int32) (H : Heap) (locs : List Loc) (ls : Array Slot), k22 h v0 v1 v2 v3 v4 v5 = some (r, hF) → Rl D ids A h s H → H.size = z → va_S A s.heap H locs → lv_has ls 6 [(0, .ref v0), (1, .int v1), (2, .int v2), (3, .int v3), (4, .int v4), (5, .int v5)] → W p l e rm_X8_leakyOne s m args below meth c H locs 0 0 (MQ below (mQi D ids A r hF z) args s 0 0 A) (F0 m 22 ls [])) (h : mH) (v0 : Nat) (v1 : Int32) (v2 : Int32) (v3 : Int32) (v5 : Int32) (t0 : Int32) (t1 : Int32) (H : Heap) (locs : List Loc) (ls : Array Slot) (hrun : s_X8_leakyOne_b63 k10 k22 h v0 v1 v2 v3 v5 t0 t1 = some (r, hF)) (hR : Rl D ids A h s H) (hz : H.size = z) (hS : va_S A s.heap H locs) (hl : lv_has ls 6 [(0, .ref v0), (1, .int v1), (2, .int v2), (3, .int v3), (5, .int v5)]) : W p l e rm_X8_leakyOne s m args below meth c H locs 0 0 (MQ below (mQi D ids A r hF z) args s 0 0 A) (F0 m 63 ls [.int t1, .int t0]) := by
  unfold s_X8_leakyOne_b63 at hrun
  refine lv_iadd hx hb dX8_leakyOne_63 ?_
  refine lv_istore (lv' := [(4, .int (t0 + t1)), (0, .ref v0), (1, .int v1), (2, .int v2), (3, .int v3), (5, .int v5)]) hx hb dX8_leakyOne_64 hl (by decide) rfl (fun ls hl => ?_)
  refine lv_iinc (v := v5 + 1) (lv' := [(5, .int (v5 + 1)), (4, .int (t0 + t1)), (0, .ref v0), (1, .int v1), (2, .int v2), (3, .int v3)]) hx hb dX8_leakyOne_66 hl (k := 5) rfl rfl (by decide) rfl (fun ls hl => ?_)
  refine lv_goto (tgt := 22) hx hb dX8_leakyOne_69 (by decide) ?_
  exact hk22 _ _ _ _ _ _ _ _ _ _ hrun hR hz hS (lv_sub hl [2, 3, 4, 5, 1, 0] rfl)
set_option maxRecDepth 100000 in
set_option maxHeartbeats 4000000 in
theorem k_X8_leakyOne_b62 {p : Program} {l : Launch} {e : Env} {s : State} {m : MethodId} {args : Array Value} {below : List Frame} {meth : Method} {c : Code} {D : va_G} {ids : m_I3} {st : m_T} {A : Nat → Prop} {z : Nat} {r : Int32} {hF : mH} (hx : p.tables.exec = Jvm.exec) (hb : c.code = cX8_leakyOne) (hr : meth.sig.returnType = some .int) (hml : c.maxLocals = 6) (hown : s.vm.findClass RX8 = some m.cls) (hts : ∀ w ∈ (m_ws yX8_leakyOne cX8_leakyOne 6 (some .int)), w.before args s = true) (hlocks : meth.locks = false) (hin : meth.name = yX8_leakyOne.name) (hE : m_EV st A s s.heap) (hA : ∀ q, s.heap.size ≤ q → A q) {k10 : mH → Nat → Int32 → Int32 → Int32 → Option (Int32 × mH)} {k22 : mH → Nat → Int32 → Int32 → Int32 → Int32 → Int32 → Option (Int32 × mH)} (hk10 : ∀ (h : mH) (v0 : Nat) (v1 : Int32) (v2 : Int32) (v3 : Int32) (H : Heap) (locs : List Loc) (ls : Array Slot), k10 h v0 v1 v2 v3 = some (r, hF) → Rl D ids A h s H → H.size = z → va_S A s.heap H locs → lv_has ls 6 [(0, .ref v0), (1, .int v1), (2, .int v2), (3, .int v3)] → W p l e rm_X8_leakyOne s m args below meth c H locs 0 0 (MQ below (mQi D ids A r hF z) args s 0 0 A) (F0 m 10 ls [])) (hk22 : ∀ (h : mH) (v0 : Nat) (v1 : Int32) (v2 : Int32) (v3 : Int32) (v4 : Int32) (v5 : Int32) (H : Heap) (locs : List Loc) (ls : Array Slot), k22 h v0 v1 v2 v3 v4 v5 = some (r, hF) → Rl D ids A h s H → H.size = z → va_S A s.heap H locs → lv_has ls 6 [(0, .ref v0), (1, .int v1), (2, .int v2), (3, .int v3), (4, .int v4), (5, .int v5)] → W p l e rm_X8_leakyOne s m args below meth c H locs 0 0 (MQ below (mQi D ids A r hF z) args s 0 0 A) (F0 m 22 ls [])) (h : mH) (v0 : Nat) (v1 : Int32) (v2 : Int32) (v3 : Int32) (v5 : Int32) (t0 : Int32) (H : Heap) (locs : List Loc) (ls : Array Slot) (hrun : s_X8_leakyOne_b62 k10 k22 h v0 v1 v2 v3 v5 t0 = some (r, hF)) (hR : Rl D ids A h s H) (hz : H.size = z) (hS : va_S A s.heap H locs) (hl : lv_has ls 6 [(0, .ref v0), (1, .int v1), (2, .int v2), (3, .int v3), (5, .int v5)]) : W p l e rm_X8_leakyOne s m args below meth c H locs 0 0 (MQ below (mQi D ids A r hF z) args s 0 0 A) (F0 m 62 ls [.int t0]) := by
  unfold s_X8_leakyOne_b62 at hrun
  refine lv_iconst (v := 0) hx hb dX8_leakyOne_62 (by decide) ?_
  exact k_X8_leakyOne_b63 hx hb hr hml hown hts hlocks hin hE hA hk10 hk22 _ _ _ _ _ _ _ _ _ _ _ hrun hR hz hS (lv_sub hl [0, 1, 2, 3, 4] rfl)
set_option maxRecDepth 100000 in
set_option maxHeartbeats 4000000 in
theorem k_X8_leakyOne_L22 {p : Program} {l : Launch} {e : Env} {s : State} {m : MethodId} {args : Array Value} {below : List Frame} {meth : Method} {c : Code} {D : va_G} {ids : m_I3} {st : m_T} {A : Nat → Prop} {z : Nat} {r : Int32} {hF : mH} (hx : p.tables.exec = Jvm.exec) (hb : c.code = cX8_leakyOne) (hr : meth.sig.returnType = some .int) (hml : c.maxLocals = 6) (hown : s.vm.findClass RX8 = some m.cls) (hts : ∀ w ∈ (m_ws yX8_leakyOne cX8_leakyOne 6 (some .int)), w.before args s = true) (hlocks : meth.locks = false) (hin : meth.name = yX8_leakyOne.name) (hE : m_EV st A s s.heap) (hA : ∀ q, s.heap.size ≤ q → A q) {k10 : mH → Nat → Int32 → Int32 → Int32 → Option (Int32 × mH)} (hk10 : ∀ (h : mH) (v0 : Nat) (v1 : Int32) (v2 : Int32) (v3 : Int32) (H : Heap) (locs : List Loc) (ls : Array Slot), k10 h v0 v1 v2 v3 = some (r, hF) → Rl D ids A h s H → H.size = z → va_S A s.heap H locs → lv_has ls 6 [(0, .ref v0), (1, .int v1), (2, .int v2), (3, .int v3)] → W p l e rm_X8_leakyOne s m args below meth c H locs 0 0 (MQ below (mQi D ids A r hF z) args s 0 0 A) (F0 m 10 ls [])) : ∀ (n : Nat) (h : mH) (v0 : Nat) (v1 : Int32) (v2 : Int32) (v3 : Int32) (v4 : Int32) (v5 : Int32) (H : Heap) (locs : List Loc) (ls : Array Slot), s_X8_leakyOne_L22 k10 n h v0 v1 v2 v3 v4 v5 = some (r, hF) → Rl D ids A h s H → H.size = z → va_S A s.heap H locs → lv_has ls 6 [(0, .ref v0), (1, .int v1), (2, .int v2), (3, .int v3), (4, .int v4), (5, .int v5)] → W p l e rm_X8_leakyOne s m args below meth c H locs 0 0 (MQ below (mQi D ids A r hF z) args s 0 0 A) (F0 m 22 ls []) := by
  intro n
  induction n with
  | zero => intro h v0 v1 v2 v3 v4 v5 H locs ls hrun; exact absurd hrun (by intro h9; cases h9)
  | succ n ih =>
    intro h v0 v1 v2 v3 v4 v5 H locs ls hrun hR hz hS hl
    rw [s_X8_leakyOne_L22] at hrun
    refine lv_iload hx hb dX8_leakyOne_22 (lv_at hl 5 rfl) ?_
    refine lv_aload_n hx hb dX8_leakyOne_24 rfl (lv_at hl 0 rfl) ?_
    obtain ⟨x25, hc9, hrun⟩ := m_bind hrun
    refine mr_get (C := RX8) (T := TX8) (N := 13) (ci := 6) hx hb hts (fun w q => m_ws_in (wi_X8 w q)) hown hR rfl 1 (by decide) (hts _ (m_ws_in wm_3_34)) (fun _ h9 => h9) (m_gr_spec hc9) dX8_leakyOne_25 ?_
    refine lv_bipush (v := 9) hx hb dX8_leakyOne_28 (by decide) ?_
    obtain ⟨x30, hc9, hrun⟩ := m_bind hrun
    refine mr_iald hx hb hR hc9 dX8_leakyOne_30 ?_
    refine lv_icmp_ge (tgt := 72) hx hb dX8_leakyOne_31 (by decide) (fun hc => ?_) (fun hc => ?_)
    · have hrun := mt_t hrun hc
      refine lv_iload hx hb dX8_leakyOne_72 (lv_at hl 4 rfl) ?_
      refine lv_iload_n hx hb dX8_leakyOne_74 rfl (lv_at hl 2 rfl) ?_
      refine lv_icmp_le (tgt := 82) hx hb dX8_leakyOne_75 (by decide) (fun hc => ?_) (fun hc => ?_)
      · have hrun := mt_t hrun hc
        refine lv_iload_n hx hb dX8_leakyOne_82 rfl (lv_at hl 1 rfl) ?_
        exact k_X8_leakyOne_b83 hx hb hr hml hown hts hlocks hin hE hA hk10 _ _ _ _ _ _ _ _ _ hrun hR hz hS (lv_sub hl [0, 2, 3, 4] rfl)
      · have hrun := mt_f hrun hc
        refine lv_iload_n hx hb dX8_leakyOne_78 rfl (lv_at hl 3 rfl) ?_
        refine lv_goto (tgt := 83) hx hb dX8_leakyOne_79 (by decide) ?_
        exact k_X8_leakyOne_b83 hx hb hr hml hown hts hlocks hin hE hA hk10 _ _ _ _ _ _ _ _ _ hrun hR hz hS (lv_sub hl [0, 2, 3, 4] rfl)
    · have hrun := mt_f hrun hc
      refine lv_iload hx hb dX8_leakyOne_34 (lv_at hl 4 rfl) ?_
      refine lv_aload_n hx hb dX8_leakyOne_36 rfl (lv_at hl 0 rfl) ?_
      obtain ⟨x37, hc9, hrun⟩ := m_bind hrun
      refine mr_get (C := RX8) (T := TX8) (N := 13) (ci := 6) hx hb hts (fun w q => m_ws_in (wi_X8 w q)) hown hR rfl 7 (by decide) (hts _ (m_ws_in wm_3_40)) (fun _ h9 => h9) (m_gr_spec hc9) dX8_leakyOne_37 ?_
      refine lv_iload hx hb dX8_leakyOne_40 (lv_at hl 5 rfl) ?_
      obtain ⟨x42, hc9, hrun⟩ := m_bind hrun
      refine mr_iald hx hb hR hc9 dX8_leakyOne_42 ?_
      refine lv_iconst (v := (-1)) hx hb dX8_leakyOne_43 (by decide) ?_
      refine lv_icmp_ne (tgt := 62) hx hb dX8_leakyOne_44 (by decide) (fun hc => ?_) (fun hc => ?_)
      · have hrun := mt_f hrun hc
        exact k_X8_leakyOne_b62 hx hb hr hml hown hts hlocks hin hE hA hk10 ih _ _ _ _ _ _ _ _ _ _ hrun hR hz hS (lv_sub hl [0, 1, 2, 3, 5] rfl)
      · have hrun := mt_t hrun hc
        refine lv_aload_n hx hb dX8_leakyOne_47 rfl (lv_at hl 0 rfl) ?_
        refine lv_iload hx hb dX8_leakyOne_48 (lv_at hl 5 rfl) ?_
        refine lv_iconst (v := 3) hx hb dX8_leakyOne_50 (by decide) ?_
        obtain ⟨_, ho9, hrun⟩ := m_bind hrun
        obtain ⟨fs9, ho9⟩ := m_is_spec ho9
        obtain ⟨x51, hc9, hrun⟩ := m_bind hrun
        refine mr_calli (mr_runV (As := [.int v5, .int 3]) (rest := [.int v4]) hx hb hml hown hts (c_X8_of l D ids st z hc9) yk_X8_of ys_X8_of wm_3_106 ⟨(Nat.le_of_ble_eq_true rfl), (Nat.le_of_ble_eq_true rfl)⟩ (mr_recv (ci := 6) hR hE hz hS hA rfl ho9) hl.1 rfl (Nat.le_of_ble_eq_true rfl) dX8_leakyOne_51 ⟨(Nat.le_of_ble_eq_true rfl), (Nat.le_of_ble_eq_true rfl)⟩) hR hz hS hA (fun H locs hR hz hS => ?_)
        refine lv_iload_n hx hb dX8_leakyOne_54 rfl (lv_at hl 3 rfl) ?_
        refine lv_icmp_ne (tgt := 62) hx hb dX8_leakyOne_55 (by decide) (fun hc => ?_) (fun hc => ?_)
        · have hrun := mt_f hrun hc
          exact k_X8_leakyOne_b62 hx hb hr hml hown hts hlocks hin hE hA hk10 ih _ _ _ _ _ _ _ _ _ _ hrun hR hz hS (lv_sub hl [0, 1, 2, 3, 5] rfl)
        · have hrun := mt_t hrun hc
          refine lv_iconst (v := 1) hx hb dX8_leakyOne_58 (by decide) ?_
          refine lv_goto (tgt := 63) hx hb dX8_leakyOne_59 (by decide) ?_
          exact k_X8_leakyOne_b63 hx hb hr hml hown hts hlocks hin hE hA hk10 ih _ _ _ _ _ _ _ _ _ _ _ hrun hR hz hS (lv_sub hl [0, 1, 2, 3, 5] rfl)
set_option maxRecDepth 100000 in
set_option maxHeartbeats 4000000 in
theorem k_X8_leakyOne_L10 {p : Program} {l : Launch} {e : Env} {s : State} {m : MethodId} {args : Array Value} {below : List Frame} {meth : Method} {c : Code} {D : va_G} {ids : m_I3} {st : m_T} {A : Nat → Prop} {z : Nat} {r : Int32} {hF : mH} (hx : p.tables.exec = Jvm.exec) (hb : c.code = cX8_leakyOne) (hr : meth.sig.returnType = some .int) (hml : c.maxLocals = 6) (hown : s.vm.findClass RX8 = some m.cls) (hts : ∀ w ∈ (m_ws yX8_leakyOne cX8_leakyOne 6 (some .int)), w.before args s = true) (hlocks : meth.locks = false) (hin : meth.name = yX8_leakyOne.name) (hE : m_EV st A s s.heap) (hA : ∀ q, s.heap.size ≤ q → A q) : ∀ (n : Nat) (h : mH) (v0 : Nat) (v1 : Int32) (v2 : Int32) (v3 : Int32) (H : Heap) (locs : List Loc) (ls : Array Slot), s_X8_leakyOne_L10 n h v0 v1 v2 v3 = some (r, hF) → Rl D ids A h s H → H.size = z → va_S A s.heap H locs → lv_has ls 6 [(0, .ref v0), (1, .int v1), (2, .int v2), (3, .int v3)] → W p l e rm_X8_leakyOne s m args below meth c H locs 0 0 (MQ below (mQi D ids A r hF z) args s 0 0 A) (F0 m 10 ls []) := by
  intro n
  induction n with
  | zero => intro h v0 v1 v2 v3 H locs ls hrun; exact absurd hrun (by intro h9; cases h9)
  | succ n ih =>
    intro h v0 v1 v2 v3 H locs ls hrun hR hz hS hl
    rw [s_X8_leakyOne_L10] at hrun
    refine lv_iload_n hx hb dX8_leakyOne_10 rfl (lv_at hl 3 rfl) ?_
    refine lv_bipush (v := 10) hx hb dX8_leakyOne_11 (by decide) ?_
    refine lv_icmp_ge (tgt := 103) hx hb dX8_leakyOne_13 (by decide) (fun hc => ?_) (fun hc => ?_)
    · have hrun := mt_t hrun hc
      refine lv_iload_n hx hb dX8_leakyOne_103 rfl (lv_at hl 1 rfl) ?_
      obtain ⟨rfl, rfl⟩ := Prod.mk.inj (Option.some.inj hrun)
      exact mr_iret hx hb hr hlocks hR hz hS dX8_leakyOne_104
    · have hrun := mt_f hrun hc
      refine lv_iconst (v := 0) hx hb dX8_leakyOne_16 (by decide) ?_
      refine lv_istore (lv' := [(4, .int 0), (0, .ref v0), (1, .int v1), (2, .int v2), (3, .int v3)]) hx hb dX8_leakyOne_17 hl (by decide) rfl (fun ls hl => ?_)
      refine lv_iconst (v := 0) hx hb dX8_leakyOne_19 (by decide) ?_
      refine lv_istore (lv' := [(5, .int 0), (4, .int 0), (0, .ref v0), (1, .int v1), (2, .int v2), (3, .int v3)]) hx hb dX8_leakyOne_20 hl (by decide) rfl (fun ls hl => ?_)
      exact k_X8_leakyOne_L22 hx hb hr hml hown hts hlocks hin hE hA ih _ _ _ _ _ _ _ _ _ _ _ hrun hR hz hS (lv_sub hl [2, 3, 4, 5, 1, 0] rfl)
set_option maxRecDepth 100000 in
set_option maxHeartbeats 4000000 in
theorem c_X8_leakyOne (l : Launch) (D : va_G) (ids : m_I3) (st : m_T) (z : Nat) {h : mH} {v0 : Nat} {r : Int32} {hF : mH} (hrun : s_X8_leakyOne h v0 = some (r, hF)) : Met l yX8_leakyOne (m_ws yX8_leakyOne cX8_leakyOne 6 (some .int)) rm_X8_leakyOne (mPc D ids st [.ref v0] h z) (mQi D ids (m_A h z) r hF z) rm_X8_leakyOne.cells rm_X8_leakyOne.slots (m_A h z) := by
  refine mr_of (cc := cX8_leakyOne) (maxL := 6) (ret := some .int) (by decide) rfl (Nat.le_of_ble_eq_true rfl) ?_
  intro p e s m below meth c ls hx hb hr hml hown hts hlocks hin hR hE hz hl
  have hA : ∀ q, s.heap.size ≤ q → m_A h z q := fun q hq => Or.inr (by rw [← hz]; exact hq)
  have hS : va_S (m_A h z) s.heap s.heap [] := va_S.rf
  have hl : lv_has ls 6 [(0, .ref v0)] := hl
  unfold s_X8_leakyOne at hrun
  refine lv_aload_n hx hb dX8_leakyOne_0 rfl (lv_at hl 0 rfl) ?_
  obtain ⟨_, ho9, hrun⟩ := m_bind hrun
  obtain ⟨fs9, ho9⟩ := m_is_spec ho9
  obtain ⟨h1, hc9, hrun⟩ := m_bind hrun
  refine mr_callv (mr_runV (As := []) (rest := []) hx hb hml hown hts (c_X8_laysRides l D ids st z hc9) yk_X8_laysRides ys_X8_laysRides wm_3_130 ⟨(Nat.le_of_ble_eq_true rfl), (Nat.le_of_ble_eq_true rfl)⟩ (mr_recv (ci := 6) hR hE hz hS hA rfl ho9) hl.1 rfl (Nat.le_of_ble_eq_true rfl) dX8_leakyOne_1 ⟨(Nat.le_of_ble_eq_true rfl), (Nat.le_of_ble_eq_true rfl)⟩) hR hz hS hA (fun H locs hR hz hS => ?_)
  refine lv_iconst (v := (-1)) hx hb dX8_leakyOne_4 (by decide) ?_
  refine lv_istore_n (lv' := [(1, .int (-1)), (0, .ref v0)]) hx hb dX8_leakyOne_5 rfl hl (by decide) rfl (fun ls hl => ?_)
  refine lv_iconst (v := 0) hx hb dX8_leakyOne_6 (by decide) ?_
  refine lv_istore_n (lv' := [(2, .int 0), (1, .int (-1)), (0, .ref v0)]) hx hb dX8_leakyOne_7 rfl hl (by decide) rfl (fun ls hl => ?_)
  refine lv_iconst (v := 0) hx hb dX8_leakyOne_8 (by decide) ?_
  refine lv_istore_n (lv' := [(3, .int 0), (2, .int 0), (1, .int (-1)), (0, .ref v0)]) hx hb dX8_leakyOne_9 rfl hl (by decide) rfl (fun ls hl => ?_)
  exact k_X8_leakyOne_L10 hx hb hr hml hown hts hlocks hin hE hA _ _ _ _ _ _ _ _ _ hrun hR hz hS (lv_sub hl [3, 2, 1, 0] rfl)
/-! X8_leaky -/
abbrev rm_X8_leaky : Room := { frames := 4, cells := 0, slots := 0, locals := 92 }
theorem yk_X8_leaky : m_K yX8_leaky cX8_leaky 1 (some .int) 0 := ⟨wm_4_41, wm_0_10, by decide +kernel⟩
theorem ys_X8_leaky : Cond.instanceMethod yX8_leaky ∈ wT ∧ Cond.selects RX8 yX8_leaky yX8_leaky ∈ wT := ⟨wm_4_39, wm_4_40⟩
set_option maxRecDepth 100000 in
set_option maxHeartbeats 4000000 in
theorem c_X8_leaky (l : Launch) (D : va_G) (ids : m_I3) (st : m_T) (z : Nat) {h : mH} {v0 : Nat} {r : Int32} {hF : mH} (hrun : s_X8_leaky h v0 = some (r, hF)) : Met l yX8_leaky (m_ws yX8_leaky cX8_leaky 1 (some .int)) rm_X8_leaky (mPc D ids st [.ref v0] h z) (mQi D ids (m_A h z) r hF z) rm_X8_leaky.cells rm_X8_leaky.slots (m_A h z) := by
  refine mr_of (cc := cX8_leaky) (maxL := 1) (ret := some .int) (by decide) rfl (Nat.le_of_ble_eq_true rfl) ?_
  intro p e s m below meth c ls hx hb hr hml hown hts hlocks hin hR hE hz hl
  have hA : ∀ q, s.heap.size ≤ q → m_A h z q := fun q hq => Or.inr (by rw [← hz]; exact hq)
  have hS : va_S (m_A h z) s.heap s.heap [] := va_S.rf
  have hl : lv_has ls 1 [(0, .ref v0)] := hl
  unfold s_X8_leaky at hrun
  refine lv_aload_n hx hb dX8_leaky_0 rfl (lv_at hl 0 rfl) ?_
  refine lv_iconst (v := 0) hx hb dX8_leaky_1 (by decide) ?_
  obtain ⟨h2, hc9, hrun⟩ := m_bind hrun
  refine mr_put (C := RX8) (T := TX8) (N := 13) (ci := 6) hx hb hts (fun w q => m_ws_in (wi_X8 w q)) tyX8 tyX8_ok nmX8 hown hR hz hS rfl 0 (by decide) (hts _ (m_ws_in wm_3_33)) (fun _ h9 => h9) rfl (tyX8_ok 0 (by decide)) rfl rfl hc9 dX8_leaky_2 (fun H locs hR hz hS => ?_)
  refine lv_aload_n hx hb dX8_leaky_5 rfl (lv_at hl 0 rfl) ?_
  obtain ⟨_, ho9, hrun⟩ := m_bind hrun
  obtain ⟨fs9, ho9⟩ := m_is_spec ho9
  obtain ⟨⟨x6, h6⟩, hc9, hrun⟩ := m_bind hrun
  refine mr_calli (mr_runV (As := []) (rest := []) hx hb hml hown hts (c_X8_leakyOne l D ids st z hc9) yk_X8_leakyOne ys_X8_leakyOne wm_4_42 ⟨(Nat.le_of_ble_eq_true rfl), (Nat.le_of_ble_eq_true rfl)⟩ (mr_recv (ci := 6) hR hE hz hS hA rfl ho9) hl.1 rfl (Nat.le_of_ble_eq_true rfl) dX8_leaky_6 ⟨(Nat.le_of_ble_eq_true rfl), (Nat.le_of_ble_eq_true rfl)⟩) hR hz hS hA (fun H locs hR hz hS => ?_)
  obtain ⟨rfl, rfl⟩ := Prod.mk.inj (Option.some.inj hrun)
  exact mr_iret hx hb hr hlocks hR hz hS dX8_leaky_9
/-! X8_least -/
abbrev rm_X8_least : Room := { frames := 6, cells := 0, slots := 0, locals := 142 }
theorem yk_X8_least : m_K yX8_least cX8_least 4 (some .int) 0 := ⟨wm_4_53, wm_0_10, by decide +kernel⟩
theorem ys_X8_least : Cond.instanceMethod yX8_least ∈ wT ∧ Cond.selects RX8 yX8_least yX8_least ∈ wT := ⟨wm_4_52, wp_3_7⟩
set_option maxRecDepth 100000 in
set_option maxHeartbeats 4000000 in
theorem k_X8_least_b31 {p : Program} {l : Launch} {e : Env} {s : State} {m : MethodId} {args : Array Value} {below : List Frame} {meth : Method} {c : Code} {D : va_G} {ids : m_I3} {st : m_T} {A : Nat → Prop} {z : Nat} {r : Int32} {hF : mH} (hx : p.tables.exec = Jvm.exec) (hb : c.code = cX8_least) (hr : meth.sig.returnType = some .int) (hml : c.maxLocals = 4) (hown : s.vm.findClass RX8 = some m.cls) (hts : ∀ w ∈ (m_ws yX8_least cX8_least 4 (some .int)), w.before args s = true) (hlocks : meth.locks = false) (hin : meth.name = yX8_least.name) (hE : m_EV st A s s.heap) (hA : ∀ q, s.heap.size ≤ q → A q) {k4 : mH → Nat → Int32 → Int32 → Option (Int32 × mH)} (hk4 : ∀ (h : mH) (v0 : Nat) (v1 : Int32) (v2 : Int32) (H : Heap) (locs : List Loc) (ls : Array Slot), k4 h v0 v1 v2 = some (r, hF) → Rl D ids A h s H → H.size = z → va_S A s.heap H locs → lv_has ls 4 [(0, .ref v0), (1, .int v1), (2, .int v2)] → W p l e rm_X8_least s m args below meth c H locs 0 0 (MQ below (mQi D ids A r hF z) args s 0 0 A) (F0 m 4 ls [])) (h : mH) (v0 : Nat) (v2 : Int32) (t0 : Int32) (H : Heap) (locs : List Loc) (ls : Array Slot) (hrun : s_X8_least_b31 k4 h v0 v2 t0 = some (r, hF)) (hR : Rl D ids A h s H) (hz : H.size = z) (hS : va_S A s.heap H locs) (hl : lv_has ls 4 [(0, .ref v0), (2, .int v2)]) : W p l e rm_X8_least s m args below meth c H locs 0 0 (MQ below (mQi D ids A r hF z) args s 0 0 A) (F0 m 31 ls [.int t0]) := by
  unfold s_X8_least_b31 at hrun
  refine lv_istore_n (lv' := [(1, .int t0), (0, .ref v0), (2, .int v2)]) hx hb dX8_least_31 rfl hl (by decide) rfl (fun ls hl => ?_)
  refine lv_iinc (v := v2 + 1) (lv' := [(2, .int (v2 + 1)), (1, .int t0), (0, .ref v0)]) hx hb dX8_least_32 hl (k := 2) rfl rfl (by decide) rfl (fun ls hl => ?_)
  refine lv_goto (tgt := 4) hx hb dX8_least_35 (by decide) ?_
  exact hk4 _ _ _ _ _ _ _ hrun hR hz hS (lv_sub hl [2, 1, 0] rfl)
set_option maxRecDepth 100000 in
set_option maxHeartbeats 4000000 in
theorem k_X8_least_L4 {p : Program} {l : Launch} {e : Env} {s : State} {m : MethodId} {args : Array Value} {below : List Frame} {meth : Method} {c : Code} {D : va_G} {ids : m_I3} {st : m_T} {A : Nat → Prop} {z : Nat} {r : Int32} {hF : mH} (hx : p.tables.exec = Jvm.exec) (hb : c.code = cX8_least) (hr : meth.sig.returnType = some .int) (hml : c.maxLocals = 4) (hown : s.vm.findClass RX8 = some m.cls) (hts : ∀ w ∈ (m_ws yX8_least cX8_least 4 (some .int)), w.before args s = true) (hlocks : meth.locks = false) (hin : meth.name = yX8_least.name) (hE : m_EV st A s s.heap) (hA : ∀ q, s.heap.size ≤ q → A q) : ∀ (n : Nat) (h : mH) (v0 : Nat) (v1 : Int32) (v2 : Int32) (H : Heap) (locs : List Loc) (ls : Array Slot), s_X8_least_L4 n h v0 v1 v2 = some (r, hF) → Rl D ids A h s H → H.size = z → va_S A s.heap H locs → lv_has ls 4 [(0, .ref v0), (1, .int v1), (2, .int v2)] → W p l e rm_X8_least s m args below meth c H locs 0 0 (MQ below (mQi D ids A r hF z) args s 0 0 A) (F0 m 4 ls []) := by
  intro n
  induction n with
  | zero => intro h v0 v1 v2 H locs ls hrun; exact absurd hrun (by intro h9; cases h9)
  | succ n ih =>
    intro h v0 v1 v2 H locs ls hrun hR hz hS hl
    rw [s_X8_least_L4] at hrun
    refine lv_iload_n hx hb dX8_least_4 rfl (lv_at hl 2 rfl) ?_
    refine lv_bipush (v := 16) hx hb dX8_least_5 (by decide) ?_
    refine lv_icmp_ge (tgt := 38) hx hb dX8_least_7 (by decide) (fun hc => ?_) (fun hc => ?_)
    · have hrun := mt_t hrun hc
      refine lv_iload_n hx hb dX8_least_38 rfl (lv_at hl 1 rfl) ?_
      obtain ⟨rfl, rfl⟩ := Prod.mk.inj (Option.some.inj hrun)
      exact mr_iret hx hb hr hlocks hR hz hS dX8_least_39
    · have hrun := mt_f hrun hc
      refine lv_aload_n hx hb dX8_least_10 rfl (lv_at hl 0 rfl) ?_
      refine lv_iload_n hx hb dX8_least_11 rfl (lv_at hl 2 rfl) ?_
      refine lv_iconst (v := 4) hx hb dX8_least_12 (by decide) ?_
      obtain ⟨x13, hc9, hrun⟩ := m_bind hrun
      obtain ⟨hn9, rfl⟩ := m_div_spec hc9
      refine lv_idiv hx hb dX8_least_13 hn9 ?_
      refine lv_topi (fun x13 ex13 => ?_)
      try rw [← ex13] at hrun
      refine lv_iload_n hx hb dX8_least_14 rfl (lv_at hl 2 rfl) ?_
      refine lv_iconst (v := 4) hx hb dX8_least_15 (by decide) ?_
      obtain ⟨x16, hc9, hrun⟩ := m_bind hrun
      obtain ⟨hn9, rfl⟩ := m_rem_spec hc9
      refine lv_irem hx hb dX8_least_16 hn9 ?_
      refine lv_topi (fun x16 ex16 => ?_)
      try rw [← ex16] at hrun
      obtain ⟨_, ho9, hrun⟩ := m_bind hrun
      obtain ⟨fs9, ho9⟩ := m_is_spec ho9
      obtain ⟨⟨x17, h17⟩, hc9, hrun⟩ := m_bind hrun
      refine mr_calli (mr_runV (As := [.int x13, .int x16]) (rest := []) hx hb hml hown hts (c_X8_costs l D ids st z hc9) yk_X8_costs ys_X8_costs wm_3_146 ⟨(Nat.le_of_ble_eq_true rfl), (Nat.le_of_ble_eq_true rfl)⟩ (mr_recv (ci := 6) hR hE hz hS hA rfl ho9) hl.1 rfl (Nat.le_of_ble_eq_true rfl) dX8_least_17 ⟨(Nat.le_of_ble_eq_true rfl), (Nat.le_of_ble_eq_true rfl)⟩) hR hz hS hA (fun H locs hR hz hS => ?_)
      refine lv_istore_n (lv' := [(3, .int x17), (0, .ref v0), (1, .int v1), (2, .int v2)]) hx hb dX8_least_20 rfl hl (by decide) rfl (fun ls hl => ?_)
      refine lv_iload_n hx hb dX8_least_21 rfl (lv_at hl 0 rfl) ?_
      refine lv_iload_n hx hb dX8_least_22 rfl (lv_at hl 2 rfl) ?_
      refine lv_icmp_le (tgt := 30) hx hb dX8_least_23 (by decide) (fun hc => ?_) (fun hc => ?_)
      · have hrun := mt_t hrun hc
        refine lv_iload_n hx hb dX8_least_30 rfl (lv_at hl 2 rfl) ?_
        exact k_X8_least_b31 hx hb hr hml hown hts hlocks hin hE hA ih _ _ _ _ _ _ _ hrun hR hz hS (lv_sub hl [1, 3] rfl)
      · have hrun := mt_f hrun hc
        refine lv_iload_n hx hb dX8_least_26 rfl (lv_at hl 0 rfl) ?_
        refine lv_goto (tgt := 31) hx hb dX8_least_27 (by decide) ?_
        exact k_X8_least_b31 hx hb hr hml hown hts hlocks hin hE hA ih _ _ _ _ _ _ _ hrun hR hz hS (lv_sub hl [1, 3] rfl)
set_option maxRecDepth 100000 in
set_option maxHeartbeats 4000000 in
theorem c_X8_least (l : Launch) (D : va_G) (ids : m_I3) (st : m_T) (z : Nat) {h : mH} {v0 : Nat} {r : Int32} {hF : mH} (hrun : s_X8_least h v0 = some (r, hF)) : Met l yX8_least (m_ws yX8_least cX8_least 4 (some .int)) rm_X8_least (mPc D ids st [.ref v0] h z) (mQi D ids (m_A h z) r hF z) rm_X8_least.cells rm_X8_least.slots (m_A h z) := by
  refine mr_of (cc := cX8_least) (maxL := 4) (ret := some .int) (by decide) rfl (Nat.le_of_ble_eq_true rfl) ?_
  intro p e s m below meth c ls hx hb hr hml hown hts hlocks hin hR hE hz hl
  have hA : ∀ q, s.heap.size ≤ q → m_A h z q := fun q hq => Or.inr (by rw [← hz]; exact hq)
  have hS : va_S (m_A h z) s.heap s.heap [] := va_S.rf
  have hl : lv_has ls 4 [(0, .ref v0)] := hl
  unfold s_X8_least at hrun
  refine lv_iconst (v := 0) hx hb dX8_least_0 (by decide) ?_
  refine lv_istore_n (lv' := [(1, .int 0), (0, .ref v0)]) hx hb dX8_least_1 rfl hl (by decide) rfl (fun ls hl => ?_)
  refine lv_iconst (v := 0) hx hb dX8_least_2 (by decide) ?_
  refine lv_istore_n (lv' := [(2, .int 0), (1, .int 0), (0, .ref v0)]) hx hb dX8_least_3 rfl hl (by decide) rfl (fun ls hl => ?_)
  exact k_X8_least_L4 hx hb hr hml hown hts hlocks hin hE hA _ _ _ _ _ _ _ _ hrun hR hz hS (lv_sub hl [2, 1, 0] rfl)
/-! X8_leastCap -/
abbrev rm_X8_leastCap : Room := { frames := 7, cells := 0, slots := 0, locals := 165 }
theorem yk_X8_leastCap : m_K yX8_leastCap cX8_leastCap 1 (some .int) 0 := ⟨wm_4_49, wm_0_10, by decide +kernel⟩
theorem ys_X8_leastCap : Cond.instanceMethod yX8_leastCap ∈ wT ∧ Cond.selects RX8 yX8_leastCap yX8_leastCap ∈ wT := ⟨wm_4_47, wm_4_48⟩
set_option maxRecDepth 100000 in
set_option maxHeartbeats 4000000 in
theorem c_X8_leastCap (l : Launch) (D : va_G) (ids : m_I3) (st : m_T) (z : Nat) {h : mH} {v0 : Nat} {r : Int32} {hF : mH} (hrun : s_X8_leastCap h v0 = some (r, hF)) : Met l yX8_leastCap (m_ws yX8_leastCap cX8_leastCap 1 (some .int)) rm_X8_leastCap (mPc D ids st [.ref v0] h z) (mQi D ids (m_A h z) r hF z) rm_X8_leastCap.cells rm_X8_leastCap.slots (m_A h z) := by
  refine mr_of (cc := cX8_leastCap) (maxL := 1) (ret := some .int) (by decide) rfl (Nat.le_of_ble_eq_true rfl) ?_
  intro p e s m below meth c ls hx hb hr hml hown hts hlocks hin hR hE hz hl
  have hA : ∀ q, s.heap.size ≤ q → m_A h z q := fun q hq => Or.inr (by rw [← hz]; exact hq)
  have hS : va_S (m_A h z) s.heap s.heap [] := va_S.rf
  have hl : lv_has ls 1 [(0, .ref v0)] := hl
  unfold s_X8_leastCap at hrun
  refine lv_aload_n hx hb dX8_leastCap_0 rfl (lv_at hl 0 rfl) ?_
  refine lv_iconst (v := 0) hx hb dX8_leastCap_1 (by decide) ?_
  obtain ⟨h2, hc9, hrun⟩ := m_bind hrun
  refine mr_put (C := RX8) (T := TX8) (N := 13) (ci := 6) hx hb hts (fun w q => m_ws_in (wi_X8 w q)) tyX8 tyX8_ok nmX8 hown hR hz hS rfl 0 (by decide) (hts _ (m_ws_in wm_3_33)) (fun _ h9 => h9) rfl (tyX8_ok 0 (by decide)) rfl rfl hc9 dX8_leastCap_2 (fun H locs hR hz hS => ?_)
  refine lv_aload_n hx hb dX8_leastCap_5 rfl (lv_at hl 0 rfl) ?_
  obtain ⟨_, ho9, hrun⟩ := m_bind hrun
  obtain ⟨fs9, ho9⟩ := m_is_spec ho9
  obtain ⟨⟨x6, h6⟩, hc9, hrun⟩ := m_bind hrun
  refine mr_calli (mr_runV (As := []) (rest := []) hx hb hml hown hts (c_X8_least l D ids st z hc9) yk_X8_least ys_X8_least wm_4_50 ⟨(Nat.le_of_ble_eq_true rfl), (Nat.le_of_ble_eq_true rfl)⟩ (mr_recv (ci := 6) hR hE hz hS hA rfl ho9) hl.1 rfl (Nat.le_of_ble_eq_true rfl) dX8_leastCap_6 ⟨(Nat.le_of_ble_eq_true rfl), (Nat.le_of_ble_eq_true rfl)⟩) hR hz hS hA (fun H locs hR hz hS => ?_)
  obtain ⟨rfl, rfl⟩ := Prod.mk.inj (Option.some.inj hrun)
  exact mr_iret hx hb hr hlocks hR hz hS dX8_leastCap_9
/-! X8_share -/
abbrev rm_X8_share : Room := { frames := 8, cells := 0, slots := 0, locals := 189 }
theorem yk_X8_share : m_K yX8_share cX8_share 2 (some .double) 0 := ⟨wm_4_61, wm_0_10, by decide +kernel⟩
theorem ys_X8_share : Cond.instanceMethod yX8_share ∈ wT ∧ Cond.selects RX8 yX8_share yX8_share ∈ wT := ⟨wm_4_60, wp_3_8⟩
set_option maxRecDepth 100000 in
set_option maxHeartbeats 4000000 in
theorem k_X8_share_b23 {p : Program} {l : Launch} {e : Env} {s : State} {m : MethodId} {args : Array Value} {below : List Frame} {meth : Method} {c : Code} {D : va_G} {ids : m_I3} {st : m_T} {A : Nat → Prop} {z : Nat} {r : UInt64} {hF : mH} (hx : p.tables.exec = Jvm.exec) (hb : c.code = cX8_share) (hr : meth.sig.returnType = some .double) (hml : c.maxLocals = 2) (hown : s.vm.findClass RX8 = some m.cls) (hts : ∀ w ∈ (m_ws yX8_share cX8_share 2 (some .double)), w.before args s = true) (hlocks : meth.locks = false) (hin : meth.name = yX8_share.name) (hE : m_EV st A s s.heap) (hA : ∀ q, s.heap.size ≤ q → A q) (h : mH) (t0 : UInt64) (H : Heap) (locs : List Loc) (ls : Array Slot) (hrun : s_X8_share_b23 h t0 = some (r, hF)) (hR : Rl D ids A h s H) (hz : H.size = z) (hS : va_S A s.heap H locs) (hl : lv_has ls 2 []) : W p l e rm_X8_share s m args below meth c H locs 0 0 (MQ below (mQd D ids A r hF z) args s 0 0 A) (F0 m 23 ls [.double t0]) := by
  unfold s_X8_share_b23 at hrun
  obtain ⟨rfl, rfl⟩ := Prod.mk.inj (Option.some.inj hrun)
  exact mr_dret hx hb hr hlocks hR hz hS dX8_share_23
set_option maxRecDepth 100000 in
set_option maxHeartbeats 4000000 in
theorem c_X8_share (l : Launch) (D : va_G) (ids : m_I3) (st : m_T) (z : Nat) {h : mH} {v0 : Nat} {r : UInt64} {hF : mH} (hrun : s_X8_share h v0 = some (r, hF)) : Met l yX8_share (m_ws yX8_share cX8_share 2 (some .double)) rm_X8_share (mPc D ids st [.ref v0] h z) (mQd D ids (m_A h z) r hF z) rm_X8_share.cells rm_X8_share.slots (m_A h z) := by
  refine mr_of (cc := cX8_share) (maxL := 2) (ret := some .double) (by decide) rfl (Nat.le_of_ble_eq_true rfl) ?_
  intro p e s m below meth c ls hx hb hr hml hown hts hlocks hin hR hE hz hl
  have hA : ∀ q, s.heap.size ≤ q → m_A h z q := fun q hq => Or.inr (by rw [← hz]; exact hq)
  have hS : va_S (m_A h z) s.heap s.heap [] := va_S.rf
  have hl : lv_has ls 2 [(0, .ref v0)] := hl
  unfold s_X8_share at hrun
  refine lv_aload_n hx hb dX8_share_0 rfl (lv_at hl 0 rfl) ?_
  refine lv_iconst (v := 1) hx hb dX8_share_1 (by decide) ?_
  obtain ⟨_, ho9, hrun⟩ := m_bind hrun
  obtain ⟨fs9, ho9⟩ := m_is_spec ho9
  obtain ⟨⟨x2, h2⟩, hc9, hrun⟩ := m_bind hrun
  refine mr_calli (mr_runV (As := [.int 1]) (rest := []) hx hb hml hown hts (c_X8_overWeeks l D ids st z hc9) yk_X8_overWeeks ys_X8_overWeeks wm_4_6 ⟨(Nat.le_of_ble_eq_true rfl), (Nat.le_of_ble_eq_true rfl)⟩ (mr_recv (ci := 6) hR hE hz hS hA rfl ho9) hl.1 rfl (Nat.le_of_ble_eq_true rfl) dX8_share_2 ⟨(Nat.le_of_ble_eq_true rfl), (Nat.le_of_ble_eq_true rfl)⟩) hR hz hS hA (fun H locs hR hz hS => ?_)
  refine lv_istore_n (lv' := [(1, .int x2), (0, .ref v0)]) hx hb dX8_share_5 rfl hl (by decide) rfl (fun ls hl => ?_)
  refine lv_iload_n hx hb dX8_share_6 rfl (lv_at hl 0 rfl) ?_
  refine lv_if_ne (tgt := 14) hx hb dX8_share_7 (by decide) (fun hc => ?_) (fun hc => ?_)
  · have hrun := mt_f hrun hc
    refine lv_aload_n hx hb dX8_share_14 rfl (lv_at hl 1 rfl) ?_
    refine lv_iconst (v := 3) hx hb dX8_share_15 (by decide) ?_
    obtain ⟨_, ho9, hrun⟩ := m_bind hrun
    obtain ⟨fs9, ho9⟩ := m_is_spec ho9
    obtain ⟨⟨x16, h16⟩, hc9, hrun⟩ := m_bind hrun
    refine mr_calli (mr_runV (As := [.int 3]) (rest := []) hx hb hml hown hts (c_X8_overWeeks l D ids st z hc9) yk_X8_overWeeks ys_X8_overWeeks wm_4_6 ⟨(Nat.le_of_ble_eq_true rfl), (Nat.le_of_ble_eq_true rfl)⟩ (mr_recv (ci := 6) hR hE hz hS hA rfl ho9) hl.1 rfl (Nat.le_of_ble_eq_true rfl) dX8_share_16 ⟨(Nat.le_of_ble_eq_true rfl), (Nat.le_of_ble_eq_true rfl)⟩) hR hz hS hA (fun H locs hR hz hS => ?_)
    refine lv_i2d hx hb dX8_share_19 ?_
    refine lv_iload_n hx hb dX8_share_20 rfl (lv_at hl 0 rfl) ?_
    refine lv_i2d hx hb dX8_share_21 ?_
    obtain ⟨x22, hc9, hrun⟩ := m_bind hrun
    obtain ⟨hn9, he9⟩ := m_d_spec hc9
    refine lv_ddiv hx hb dX8_share_22 hn9 ?_
    rw [he9]
    exact k_X8_share_b23 hx hb hr hml hown hts hlocks hin hE hA _ _ _ _ _ hrun hR hz hS (lv_sub hl [] rfl)
  · have hrun := mt_t hrun hc
    refine lv_dconst1 hx hb dX8_share_10 ?_
    refine lv_goto (tgt := 23) hx hb dX8_share_11 (by decide) ?_
    exact k_X8_share_b23 hx hb hr hml hown hts hlocks hin hE hA _ _ _ _ _ hrun hR hz hS (lv_sub hl [] rfl)
/-! X8_capShare -/
abbrev rm_X8_capShare : Room := { frames := 9, cells := 0, slots := 0, locals := 210 }
theorem yk_X8_capShare : m_K yX8_capShare cX8_capShare 1 (some .double) 0 := ⟨wm_4_57, wm_0_10, by decide +kernel⟩
theorem ys_X8_capShare : Cond.instanceMethod yX8_capShare ∈ wT ∧ Cond.selects RX8 yX8_capShare yX8_capShare ∈ wT := ⟨wm_4_55, wm_4_56⟩
set_option maxRecDepth 100000 in
set_option maxHeartbeats 4000000 in
theorem c_X8_capShare (l : Launch) (D : va_G) (ids : m_I3) (st : m_T) (z : Nat) {h : mH} {v0 : Nat} {r : UInt64} {hF : mH} (hrun : s_X8_capShare h v0 = some (r, hF)) : Met l yX8_capShare (m_ws yX8_capShare cX8_capShare 1 (some .double)) rm_X8_capShare (mPc D ids st [.ref v0] h z) (mQd D ids (m_A h z) r hF z) rm_X8_capShare.cells rm_X8_capShare.slots (m_A h z) := by
  refine mr_of (cc := cX8_capShare) (maxL := 1) (ret := some .double) (by decide) rfl (Nat.le_of_ble_eq_true rfl) ?_
  intro p e s m below meth c ls hx hb hr hml hown hts hlocks hin hR hE hz hl
  have hA : ∀ q, s.heap.size ≤ q → m_A h z q := fun q hq => Or.inr (by rw [← hz]; exact hq)
  have hS : va_S (m_A h z) s.heap s.heap [] := va_S.rf
  have hl : lv_has ls 1 [(0, .ref v0)] := hl
  unfold s_X8_capShare at hrun
  refine lv_aload_n hx hb dX8_capShare_0 rfl (lv_at hl 0 rfl) ?_
  refine lv_iconst (v := 0) hx hb dX8_capShare_1 (by decide) ?_
  obtain ⟨h2, hc9, hrun⟩ := m_bind hrun
  refine mr_put (C := RX8) (T := TX8) (N := 13) (ci := 6) hx hb hts (fun w q => m_ws_in (wi_X8 w q)) tyX8 tyX8_ok nmX8 hown hR hz hS rfl 0 (by decide) (hts _ (m_ws_in wm_3_33)) (fun _ h9 => h9) rfl (tyX8_ok 0 (by decide)) rfl rfl hc9 dX8_capShare_2 (fun H locs hR hz hS => ?_)
  refine lv_aload_n hx hb dX8_capShare_5 rfl (lv_at hl 0 rfl) ?_
  obtain ⟨_, ho9, hrun⟩ := m_bind hrun
  obtain ⟨fs9, ho9⟩ := m_is_spec ho9
  obtain ⟨⟨x6, h6⟩, hc9, hrun⟩ := m_bind hrun
  refine mr_calld (mr_runV (As := []) (rest := []) hx hb hml hown hts (c_X8_share l D ids st z hc9) yk_X8_share ys_X8_share wm_4_58 ⟨(Nat.le_of_ble_eq_true rfl), (Nat.le_of_ble_eq_true rfl)⟩ (mr_recv (ci := 6) hR hE hz hS hA rfl ho9) hl.1 rfl (Nat.le_of_ble_eq_true rfl) dX8_capShare_6 ⟨(Nat.le_of_ble_eq_true rfl), (Nat.le_of_ble_eq_true rfl)⟩) hR hz hS hA (fun H locs hR hz hS => ?_)
  obtain ⟨rfl, rfl⟩ := Prod.mk.inj (Option.some.inj hrun)
  exact mr_dret hx hb hr hlocks hR hz hS dX8_capShare_9
/-! X8_hashes -/
abbrev rm_X8_hashes : Room := { frames := 0, cells := 0, slots := 0, locals := 0 }
theorem yk_X8_hashes : m_K yX8_hashes cX8_hashes 3 (none) 1 := ⟨wm_4_70, wm_0_10, by decide +kernel⟩
theorem ys_X8_hashes : Cond.instanceMethod yX8_hashes ∈ wT ∧ Cond.selects RX8 yX8_hashes yX8_hashes ∈ wT := ⟨wm_4_69, wp_3_9⟩
set_option maxRecDepth 100000 in
set_option maxHeartbeats 4000000 in
theorem c_X8_hashes (l : Launch) (D : va_G) (ids : m_I3) (st : m_T) (z : Nat) {h : mH} {v0 : Nat} {v1 : Int64} {hF : mH} (hrun : s_X8_hashes h v0 v1 = some hF) : Met l yX8_hashes (m_ws yX8_hashes cX8_hashes 3 (none)) rm_X8_hashes (mPc D ids st [.ref v0, .long v1] h z) (mQv D ids (m_A h z) hF z) rm_X8_hashes.cells rm_X8_hashes.slots (m_A h z) := by
  refine mr_of (cc := cX8_hashes) (maxL := 3) (ret := none) (by decide) rfl (Nat.le_of_ble_eq_true rfl) ?_
  intro p e s m below meth c ls hx hb hr hml hown hts hlocks hin hR hE hz hl
  have hA : ∀ q, s.heap.size ≤ q → m_A h z q := fun q hq => Or.inr (by rw [← hz]; exact hq)
  have hS : va_S (m_A h z) s.heap s.heap [] := va_S.rf
  have hl : lv_has ls 3 [(0, .ref v0), (1, .long v1)] := hl
  unfold s_X8_hashes at hrun
  refine lv_aload_n hx hb dX8_hashes_0 rfl (lv_at hl 0 rfl) ?_
  refine lv_ldc2 (v := 31) hx hb hown (hts _ (m_ws_in wm_4_71)) dX8_hashes_1 ?_
  refine lv_aload_n hx hb dX8_hashes_4 rfl (lv_at hl 0 rfl) ?_
  obtain ⟨x5, hc9, hrun⟩ := m_bind hrun
  refine mr_get (C := RX8) (T := TX8) (N := 13) (ci := 6) hx hb hts (fun w q => m_ws_in (wi_X8 w q)) hown hR rfl 12 (by decide) (hts _ (m_ws_in wm_3_45)) (fun _ h9 => h9) (m_gl_spec hc9) dX8_hashes_5 ?_
  refine lv_lmul hx hb dX8_hashes_8 ?_
  refine lv_lload_n hx hb dX8_hashes_9 rfl (lv_at hl 1 rfl) ?_
  refine lv_ladd hx hb dX8_hashes_10 ?_
  obtain ⟨h11, hc9, hrun⟩ := m_bind hrun
  refine mr_put (C := RX8) (T := TX8) (N := 13) (ci := 6) hx hb hts (fun w q => m_ws_in (wi_X8 w q)) tyX8 tyX8_ok nmX8 hown hR hz hS rfl 12 (by decide) (hts _ (m_ws_in wm_3_45)) (fun _ h9 => h9) rfl (tyX8_ok 12 (by decide)) rfl rfl hc9 dX8_hashes_11 (fun H locs hR hz hS => ?_)
  obtain rfl := Option.some.inj hrun
  exact mr_vret hx hb hr hlocks hR hz hS dX8_hashes_14
/-! X8_hashesDay -/
abbrev rm_X8_hashesDay : Room := { frames := 4, cells := 0, slots := 0, locals := 94 }
theorem yk_X8_hashesDay : m_K yX8_hashesDay cX8_hashesDay 4 (none) 2 := ⟨wm_4_79, wm_0_10, by decide +kernel⟩
theorem ys_X8_hashesDay : Cond.instanceMethod yX8_hashesDay ∈ wT ∧ Cond.selects RX8 yX8_hashesDay yX8_hashesDay ∈ wT := ⟨wm_4_78, wp_3_11⟩
set_option maxRecDepth 100000 in
set_option maxHeartbeats 4000000 in
theorem k_X8_hashesDay_L2 {p : Program} {l : Launch} {e : Env} {s : State} {m : MethodId} {args : Array Value} {below : List Frame} {meth : Method} {c : Code} {D : va_G} {ids : m_I3} {st : m_T} {A : Nat → Prop} {z : Nat} {hF : mH} (hx : p.tables.exec = Jvm.exec) (hb : c.code = cX8_hashesDay) (hr : meth.sig.returnType = none) (hml : c.maxLocals = 4) (hown : s.vm.findClass RX8 = some m.cls) (hts : ∀ w ∈ (m_ws yX8_hashesDay cX8_hashesDay 4 (none)), w.before args s = true) (hlocks : meth.locks = false) (hin : meth.name = yX8_hashesDay.name) (hE : m_EV st A s s.heap) (hA : ∀ q, s.heap.size ≤ q → A q) : ∀ (n : Nat) (h : mH) (v0 : Nat) (v1 : Int32) (v2 : Int32) (v3 : Int32) (H : Heap) (locs : List Loc) (ls : Array Slot), s_X8_hashesDay_L2 n h v0 v1 v2 v3 = some hF → Rl D ids A h s H → H.size = z → va_S A s.heap H locs → lv_has ls 4 [(0, .ref v0), (1, .int v1), (2, .int v2), (3, .int v3)] → W p l e rm_X8_hashesDay s m args below meth c H locs 0 0 (MQ below (mQv D ids A hF z) args s 0 0 A) (F0 m 2 ls []) := by
  intro n
  induction n with
  | zero => intro h v0 v1 v2 v3 H locs ls hrun; exact absurd hrun (by intro h9; cases h9)
  | succ n ih =>
    intro h v0 v1 v2 v3 H locs ls hrun hR hz hS hl
    rw [s_X8_hashesDay_L2] at hrun
    refine lv_iload_n hx hb dX8_hashesDay_2 rfl (lv_at hl 3 rfl) ?_
    refine lv_iconst (v := 4) hx hb dX8_hashesDay_3 (by decide) ?_
    refine lv_icmp_ge (tgt := 25) hx hb dX8_hashesDay_4 (by decide) (fun hc => ?_) (fun hc => ?_)
    · have hrun := mt_t hrun hc
      obtain rfl := Option.some.inj hrun
      exact mr_vret hx hb hr hlocks hR hz hS dX8_hashesDay_25
    · have hrun := mt_f hrun hc
      refine lv_aload_n hx hb dX8_hashesDay_7 rfl (lv_at hl 0 rfl) ?_
      refine lv_aload_n hx hb dX8_hashesDay_8 rfl (lv_at hl 0 rfl) ?_
      refine lv_iload_n hx hb dX8_hashesDay_9 rfl (lv_at hl 1 rfl) ?_
      refine lv_iload_n hx hb dX8_hashesDay_10 rfl (lv_at hl 2 rfl) ?_
      refine lv_iload_n hx hb dX8_hashesDay_11 rfl (lv_at hl 3 rfl) ?_
      obtain ⟨_, ho9, hrun⟩ := m_bind hrun
      obtain ⟨fs9, ho9⟩ := m_is_spec ho9
      obtain ⟨⟨x12, h12⟩, hc9, hrun⟩ := m_bind hrun
      refine mr_calli (mr_runV (As := [.int v1, .int v2, .int v3]) (rest := [.ref v0]) hx hb hml hown hts (c_X8_ofDay l D ids st z hc9) yk_X8_ofDay ys_X8_ofDay wm_3_154 ⟨(Nat.le_of_ble_eq_true rfl), (Nat.le_of_ble_eq_true rfl)⟩ (mr_recv (ci := 6) hR hE hz hS hA rfl ho9) hl.1 rfl (Nat.le_of_ble_eq_true rfl) dX8_hashesDay_12 ⟨(Nat.le_of_ble_eq_true rfl), (Nat.le_of_ble_eq_true rfl)⟩) hR hz hS hA (fun H locs hR hz hS => ?_)
      refine lv_i2l (v := x12.toInt64) hx hb dX8_hashesDay_15 rfl ?_
      obtain ⟨_, ho9, hrun⟩ := m_bind hrun
      obtain ⟨fs9, ho9⟩ := m_is_spec ho9
      obtain ⟨h16, hc9, hrun⟩ := m_bind hrun
      refine mr_callv (mr_runV (As := [.long x12.toInt64]) (rest := []) hx hb hml hown hts (c_X8_hashes l D ids st z hc9) yk_X8_hashes ys_X8_hashes wm_4_67 ⟨(Nat.le_of_ble_eq_true rfl), (Nat.le_of_ble_eq_true rfl)⟩ (mr_recv (ci := 6) hR hE hz hS hA rfl ho9) hl.1 rfl (Nat.le_of_ble_eq_true rfl) dX8_hashesDay_16 ⟨(Nat.le_of_ble_eq_true rfl), (Nat.le_of_ble_eq_true rfl)⟩) hR hz hS hA (fun H locs hR hz hS => ?_)
      refine lv_iinc (v := v3 + 1) (lv' := [(3, .int (v3 + 1)), (0, .ref v0), (1, .int v1), (2, .int v2)]) hx hb dX8_hashesDay_19 hl (k := 3) rfl rfl (by decide) rfl (fun ls hl => ?_)
      refine lv_goto (tgt := 2) hx hb dX8_hashesDay_22 (by decide) ?_
      exact ih _ _ _ _ _ _ _ _ hrun hR hz hS (lv_sub hl [1, 2, 3, 0] rfl)
set_option maxRecDepth 100000 in
set_option maxHeartbeats 4000000 in
theorem c_X8_hashesDay (l : Launch) (D : va_G) (ids : m_I3) (st : m_T) (z : Nat) {h : mH} {v0 : Nat} {v1 : Int32} {v2 : Int32} {hF : mH} (hrun : s_X8_hashesDay h v0 v1 v2 = some hF) : Met l yX8_hashesDay (m_ws yX8_hashesDay cX8_hashesDay 4 (none)) rm_X8_hashesDay (mPc D ids st [.ref v0, .int v1, .int v2] h z) (mQv D ids (m_A h z) hF z) rm_X8_hashesDay.cells rm_X8_hashesDay.slots (m_A h z) := by
  refine mr_of (cc := cX8_hashesDay) (maxL := 4) (ret := none) (by decide) rfl (Nat.le_of_ble_eq_true rfl) ?_
  intro p e s m below meth c ls hx hb hr hml hown hts hlocks hin hR hE hz hl
  have hA : ∀ q, s.heap.size ≤ q → m_A h z q := fun q hq => Or.inr (by rw [← hz]; exact hq)
  have hS : va_S (m_A h z) s.heap s.heap [] := va_S.rf
  have hl : lv_has ls 4 [(0, .ref v0), (1, .int v1), (2, .int v2)] := hl
  unfold s_X8_hashesDay at hrun
  refine lv_iconst (v := 0) hx hb dX8_hashesDay_0 (by decide) ?_
  refine lv_istore_n (lv' := [(3, .int 0), (0, .ref v0), (1, .int v1), (2, .int v2)]) hx hb dX8_hashesDay_1 rfl hl (by decide) rfl (fun ls hl => ?_)
  exact k_X8_hashesDay_L2 hx hb hr hml hown hts hlocks hin hE hA _ _ _ _ _ _ _ _ _ hrun hR hz hS (lv_sub hl [1, 2, 3, 0] rfl)
/-! X8_hashesWallet -/
abbrev rm_X8_hashesWallet : Room := { frames := 7, cells := 0, slots := 0, locals := 166 }
theorem yk_X8_hashesWallet : m_K yX8_hashesWallet cX8_hashesWallet 3 (none) 1 := ⟨wm_4_75, wm_0_10, by decide +kernel⟩
theorem ys_X8_hashesWallet : Cond.instanceMethod yX8_hashesWallet ∈ wT ∧ Cond.selects RX8 yX8_hashesWallet yX8_hashesWallet ∈ wT := ⟨wm_4_74, wp_3_10⟩
set_option maxRecDepth 100000 in
set_option maxHeartbeats 4000000 in
theorem k_X8_hashesWallet_L61 {p : Program} {l : Launch} {e : Env} {s : State} {m : MethodId} {args : Array Value} {below : List Frame} {meth : Method} {c : Code} {D : va_G} {ids : m_I3} {st : m_T} {A : Nat → Prop} {z : Nat} {hF : mH} (hx : p.tables.exec = Jvm.exec) (hb : c.code = cX8_hashesWallet) (hr : meth.sig.returnType = none) (hml : c.maxLocals = 3) (hown : s.vm.findClass RX8 = some m.cls) (hts : ∀ w ∈ (m_ws yX8_hashesWallet cX8_hashesWallet 3 (none)), w.before args s = true) (hlocks : meth.locks = false) (hin : meth.name = yX8_hashesWallet.name) (hE : m_EV st A s s.heap) (hA : ∀ q, s.heap.size ≤ q → A q) : ∀ (n : Nat) (h : mH) (v0 : Nat) (v1 : Int32) (v2 : Int32) (H : Heap) (locs : List Loc) (ls : Array Slot), s_X8_hashesWallet_L61 n h v0 v1 v2 = some hF → Rl D ids A h s H → H.size = z → va_S A s.heap H locs → lv_has ls 3 [(0, .ref v0), (1, .int v1), (2, .int v2)] → W p l e rm_X8_hashesWallet s m args below meth c H locs 0 0 (MQ below (mQv D ids A hF z) args s 0 0 A) (F0 m 61 ls []) := by
  intro n
  induction n with
  | zero => intro h v0 v1 v2 H locs ls hrun; exact absurd hrun (by intro h9; cases h9)
  | succ n ih =>
    intro h v0 v1 v2 H locs ls hrun hR hz hS hl
    rw [s_X8_hashesWallet_L61] at hrun
    refine lv_iload_n hx hb dX8_hashesWallet_61 rfl (lv_at hl 2 rfl) ?_
    refine lv_bipush (v := 16) hx hb dX8_hashesWallet_62 (by decide) ?_
    refine lv_icmp_ge (tgt := 89) hx hb dX8_hashesWallet_64 (by decide) (fun hc => ?_) (fun hc => ?_)
    · have hrun := mt_t hrun hc
      obtain rfl := Option.some.inj hrun
      exact mr_vret hx hb hr hlocks hR hz hS dX8_hashesWallet_89
    · have hrun := mt_f hrun hc
      refine lv_aload_n hx hb dX8_hashesWallet_67 rfl (lv_at hl 0 rfl) ?_
      refine lv_aload_n hx hb dX8_hashesWallet_68 rfl (lv_at hl 0 rfl) ?_
      refine lv_iload_n hx hb dX8_hashesWallet_69 rfl (lv_at hl 1 rfl) ?_
      refine lv_iload_n hx hb dX8_hashesWallet_70 rfl (lv_at hl 2 rfl) ?_
      refine lv_iconst (v := 2) hx hb dX8_hashesWallet_71 (by decide) ?_
      obtain ⟨x72, hc9, hrun⟩ := m_bind hrun
      obtain ⟨hn9, rfl⟩ := m_div_spec hc9
      refine lv_idiv hx hb dX8_hashesWallet_72 hn9 ?_
      refine lv_topi (fun x72 ex72 => ?_)
      try rw [← ex72] at hrun
      refine lv_iload_n hx hb dX8_hashesWallet_73 rfl (lv_at hl 2 rfl) ?_
      refine lv_iconst (v := 2) hx hb dX8_hashesWallet_74 (by decide) ?_
      obtain ⟨x75, hc9, hrun⟩ := m_bind hrun
      obtain ⟨hn9, rfl⟩ := m_rem_spec hc9
      refine lv_irem hx hb dX8_hashesWallet_75 hn9 ?_
      refine lv_topi (fun x75 ex75 => ?_)
      try rw [← ex75] at hrun
      obtain ⟨_, ho9, hrun⟩ := m_bind hrun
      obtain ⟨fs9, ho9⟩ := m_is_spec ho9
      obtain ⟨x76, hc9, hrun⟩ := m_bind hrun
      refine mr_calli (mr_runV (As := [.int v1, .int x72, .int x75]) (rest := [.ref v0]) hx hb hml hown hts (c_X8_entry l D ids st z hc9) yk_X8_entry ys_X8_entry wm_4_22 ⟨(Nat.le_of_ble_eq_true rfl), (Nat.le_of_ble_eq_true rfl)⟩ (mr_recv (ci := 6) hR hE hz hS hA rfl ho9) hl.1 rfl (Nat.le_of_ble_eq_true rfl) dX8_hashesWallet_76 ⟨(Nat.le_of_ble_eq_true rfl), (Nat.le_of_ble_eq_true rfl)⟩) hR hz hS hA (fun H locs hR hz hS => ?_)
      refine lv_i2l (v := x76.toInt64) hx hb dX8_hashesWallet_79 rfl ?_
      obtain ⟨_, ho9, hrun⟩ := m_bind hrun
      obtain ⟨fs9, ho9⟩ := m_is_spec ho9
      obtain ⟨h80, hc9, hrun⟩ := m_bind hrun
      refine mr_callv (mr_runV (As := [.long x76.toInt64]) (rest := []) hx hb hml hown hts (c_X8_hashes l D ids st z hc9) yk_X8_hashes ys_X8_hashes wm_4_67 ⟨(Nat.le_of_ble_eq_true rfl), (Nat.le_of_ble_eq_true rfl)⟩ (mr_recv (ci := 6) hR hE hz hS hA rfl ho9) hl.1 rfl (Nat.le_of_ble_eq_true rfl) dX8_hashesWallet_80 ⟨(Nat.le_of_ble_eq_true rfl), (Nat.le_of_ble_eq_true rfl)⟩) hR hz hS hA (fun H locs hR hz hS => ?_)
      refine lv_iinc (v := v2 + 1) (lv' := [(2, .int (v2 + 1)), (0, .ref v0), (1, .int v1)]) hx hb dX8_hashesWallet_83 hl (k := 2) rfl rfl (by decide) rfl (fun ls hl => ?_)
      refine lv_goto (tgt := 61) hx hb dX8_hashesWallet_86 (by decide) ?_
      exact ih _ _ _ _ _ _ _ hrun hR hz hS (lv_sub hl [1, 2, 0] rfl)
set_option maxRecDepth 100000 in
set_option maxHeartbeats 4000000 in
theorem k_X8_hashesWallet_L29 {p : Program} {l : Launch} {e : Env} {s : State} {m : MethodId} {args : Array Value} {below : List Frame} {meth : Method} {c : Code} {D : va_G} {ids : m_I3} {st : m_T} {A : Nat → Prop} {z : Nat} {hF : mH} (hx : p.tables.exec = Jvm.exec) (hb : c.code = cX8_hashesWallet) (hr : meth.sig.returnType = none) (hml : c.maxLocals = 3) (hown : s.vm.findClass RX8 = some m.cls) (hts : ∀ w ∈ (m_ws yX8_hashesWallet cX8_hashesWallet 3 (none)), w.before args s = true) (hlocks : meth.locks = false) (hin : meth.name = yX8_hashesWallet.name) (hE : m_EV st A s s.heap) (hA : ∀ q, s.heap.size ≤ q → A q) : ∀ (n : Nat) (h : mH) (v0 : Nat) (v1 : Int32) (v2 : Int32) (H : Heap) (locs : List Loc) (ls : Array Slot), s_X8_hashesWallet_L29 n h v0 v1 v2 = some hF → Rl D ids A h s H → H.size = z → va_S A s.heap H locs → lv_has ls 3 [(0, .ref v0), (1, .int v1), (2, .int v2)] → W p l e rm_X8_hashesWallet s m args below meth c H locs 0 0 (MQ below (mQv D ids A hF z) args s 0 0 A) (F0 m 29 ls []) := by
  intro n
  induction n with
  | zero => intro h v0 v1 v2 H locs ls hrun; exact absurd hrun (by intro h9; cases h9)
  | succ n ih =>
    intro h v0 v1 v2 H locs ls hrun hR hz hS hl
    rw [s_X8_hashesWallet_L29] at hrun
    refine lv_iload_n hx hb dX8_hashesWallet_29 rfl (lv_at hl 2 rfl) ?_
    refine lv_bipush (v := 28) hx hb dX8_hashesWallet_30 (by decide) ?_
    refine lv_icmp_ge (tgt := 59) hx hb dX8_hashesWallet_32 (by decide) (fun hc => ?_) (fun hc => ?_)
    · have hrun := mt_t hrun hc
      refine lv_iconst (v := 0) hx hb dX8_hashesWallet_59 (by decide) ?_
      refine lv_istore_n (lv' := [(2, .int 0), (0, .ref v0), (1, .int v1)]) hx hb dX8_hashesWallet_60 rfl hl (by decide) rfl (fun ls hl => ?_)
      exact k_X8_hashesWallet_L61 hx hb hr hml hown hts hlocks hin hE hA _ _ _ _ _ _ _ _ hrun hR hz hS (lv_sub hl [1, 2, 0] rfl)
    · have hrun := mt_f hrun hc
      refine lv_aload_n hx hb dX8_hashesWallet_35 rfl (lv_at hl 0 rfl) ?_
      refine lv_aload_n hx hb dX8_hashesWallet_36 rfl (lv_at hl 0 rfl) ?_
      refine lv_iload_n hx hb dX8_hashesWallet_37 rfl (lv_at hl 1 rfl) ?_
      refine lv_iload_n hx hb dX8_hashesWallet_38 rfl (lv_at hl 2 rfl) ?_
      refine lv_bipush (v := 7) hx hb dX8_hashesWallet_39 (by decide) ?_
      obtain ⟨x41, hc9, hrun⟩ := m_bind hrun
      obtain ⟨hn9, rfl⟩ := m_div_spec hc9
      refine lv_idiv hx hb dX8_hashesWallet_41 hn9 ?_
      refine lv_topi (fun x41 ex41 => ?_)
      try rw [← ex41] at hrun
      refine lv_iload_n hx hb dX8_hashesWallet_42 rfl (lv_at hl 2 rfl) ?_
      refine lv_bipush (v := 7) hx hb dX8_hashesWallet_43 (by decide) ?_
      obtain ⟨x45, hc9, hrun⟩ := m_bind hrun
      obtain ⟨hn9, rfl⟩ := m_rem_spec hc9
      refine lv_irem hx hb dX8_hashesWallet_45 hn9 ?_
      refine lv_topi (fun x45 ex45 => ?_)
      try rw [← ex45] at hrun
      obtain ⟨_, ho9, hrun⟩ := m_bind hrun
      obtain ⟨fs9, ho9⟩ := m_is_spec ho9
      obtain ⟨⟨x46, h46⟩, hc9, hrun⟩ := m_bind hrun
      refine mr_calli (mr_runV (As := [.int v1, .int x41, .int x45]) (rest := [.ref v0]) hx hb hml hown hts (c_X8_tellsWeek l D ids st z hc9) yk_X8_tellsWeek ys_X8_tellsWeek wm_3_234 ⟨(Nat.le_of_ble_eq_true rfl), (Nat.le_of_ble_eq_true rfl)⟩ (mr_recv (ci := 6) hR hE hz hS hA rfl ho9) hl.1 rfl (Nat.le_of_ble_eq_true rfl) dX8_hashesWallet_46 ⟨(Nat.le_of_ble_eq_true rfl), (Nat.le_of_ble_eq_true rfl)⟩) hR hz hS hA (fun H locs hR hz hS => ?_)
      refine lv_i2l (v := x46.toInt64) hx hb dX8_hashesWallet_49 rfl ?_
      obtain ⟨_, ho9, hrun⟩ := m_bind hrun
      obtain ⟨fs9, ho9⟩ := m_is_spec ho9
      obtain ⟨h50, hc9, hrun⟩ := m_bind hrun
      refine mr_callv (mr_runV (As := [.long x46.toInt64]) (rest := []) hx hb hml hown hts (c_X8_hashes l D ids st z hc9) yk_X8_hashes ys_X8_hashes wm_4_67 ⟨(Nat.le_of_ble_eq_true rfl), (Nat.le_of_ble_eq_true rfl)⟩ (mr_recv (ci := 6) hR hE hz hS hA rfl ho9) hl.1 rfl (Nat.le_of_ble_eq_true rfl) dX8_hashesWallet_50 ⟨(Nat.le_of_ble_eq_true rfl), (Nat.le_of_ble_eq_true rfl)⟩) hR hz hS hA (fun H locs hR hz hS => ?_)
      refine lv_iinc (v := v2 + 1) (lv' := [(2, .int (v2 + 1)), (0, .ref v0), (1, .int v1)]) hx hb dX8_hashesWallet_53 hl (k := 2) rfl rfl (by decide) rfl (fun ls hl => ?_)
      refine lv_goto (tgt := 29) hx hb dX8_hashesWallet_56 (by decide) ?_
      exact ih _ _ _ _ _ _ _ hrun hR hz hS (lv_sub hl [1, 2, 0] rfl)
set_option maxRecDepth 100000 in
set_option maxHeartbeats 4000000 in
theorem c_X8_hashesWallet (l : Launch) (D : va_G) (ids : m_I3) (st : m_T) (z : Nat) {h : mH} {v0 : Nat} {v1 : Int32} {hF : mH} (hrun : s_X8_hashesWallet h v0 v1 = some hF) : Met l yX8_hashesWallet (m_ws yX8_hashesWallet cX8_hashesWallet 3 (none)) rm_X8_hashesWallet (mPc D ids st [.ref v0, .int v1] h z) (mQv D ids (m_A h z) hF z) rm_X8_hashesWallet.cells rm_X8_hashesWallet.slots (m_A h z) := by
  refine mr_of (cc := cX8_hashesWallet) (maxL := 3) (ret := none) (by decide) rfl (Nat.le_of_ble_eq_true rfl) ?_
  intro p e s m below meth c ls hx hb hr hml hown hts hlocks hin hR hE hz hl
  have hA : ∀ q, s.heap.size ≤ q → m_A h z q := fun q hq => Or.inr (by rw [← hz]; exact hq)
  have hS : va_S (m_A h z) s.heap s.heap [] := va_S.rf
  have hl : lv_has ls 3 [(0, .ref v0), (1, .int v1)] := hl
  unfold s_X8_hashesWallet at hrun
  refine lv_aload_n hx hb dX8_hashesWallet_0 rfl (lv_at hl 0 rfl) ?_
  refine lv_iload_n hx hb dX8_hashesWallet_1 rfl (lv_at hl 1 rfl) ?_
  refine lv_iconst (v := 0) hx hb dX8_hashesWallet_2 (by decide) ?_
  obtain ⟨_, ho9, hrun⟩ := m_bind hrun
  obtain ⟨fs9, ho9⟩ := m_is_spec ho9
  obtain ⟨h3, hc9, hrun⟩ := m_bind hrun
  refine mr_callv (mr_runV (As := [.int v1, .int 0]) (rest := []) hx hb hml hown hts (c_X8_hashesDay l D ids st z hc9) yk_X8_hashesDay ys_X8_hashesDay wm_4_76 ⟨(Nat.le_of_ble_eq_true rfl), (Nat.le_of_ble_eq_true rfl)⟩ (mr_recv (ci := 6) hR hE hz hS hA rfl ho9) hl.1 rfl (Nat.le_of_ble_eq_true rfl) dX8_hashesWallet_3 ⟨(Nat.le_of_ble_eq_true rfl), (Nat.le_of_ble_eq_true rfl)⟩) hR hz hS hA (fun H locs hR hz hS => ?_)
  refine lv_aload_n hx hb dX8_hashesWallet_6 rfl (lv_at hl 0 rfl) ?_
  refine lv_iload_n hx hb dX8_hashesWallet_7 rfl (lv_at hl 1 rfl) ?_
  refine lv_bipush (v := 6) hx hb dX8_hashesWallet_8 (by decide) ?_
  obtain ⟨_, ho9, hrun⟩ := m_bind hrun
  obtain ⟨fs9, ho9⟩ := m_is_spec ho9
  obtain ⟨h10, hc9, hrun⟩ := m_bind hrun
  refine mr_callv (mr_runV (As := [.int v1, .int 6]) (rest := []) hx hb hml hown hts (c_X8_hashesDay l D ids st z hc9) yk_X8_hashesDay ys_X8_hashesDay wm_4_76 ⟨(Nat.le_of_ble_eq_true rfl), (Nat.le_of_ble_eq_true rfl)⟩ (mr_recv (ci := 6) hR hE hz hS hA rfl ho9) hl.1 rfl (Nat.le_of_ble_eq_true rfl) dX8_hashesWallet_10 ⟨(Nat.le_of_ble_eq_true rfl), (Nat.le_of_ble_eq_true rfl)⟩) hR hz hS hA (fun H locs hR hz hS => ?_)
  refine lv_aload_n hx hb dX8_hashesWallet_13 rfl (lv_at hl 0 rfl) ?_
  refine lv_iload_n hx hb dX8_hashesWallet_14 rfl (lv_at hl 1 rfl) ?_
  refine lv_bipush (v := 7) hx hb dX8_hashesWallet_15 (by decide) ?_
  obtain ⟨_, ho9, hrun⟩ := m_bind hrun
  obtain ⟨fs9, ho9⟩ := m_is_spec ho9
  obtain ⟨h17, hc9, hrun⟩ := m_bind hrun
  refine mr_callv (mr_runV (As := [.int v1, .int 7]) (rest := []) hx hb hml hown hts (c_X8_hashesDay l D ids st z hc9) yk_X8_hashesDay ys_X8_hashesDay wm_4_76 ⟨(Nat.le_of_ble_eq_true rfl), (Nat.le_of_ble_eq_true rfl)⟩ (mr_recv (ci := 6) hR hE hz hS hA rfl ho9) hl.1 rfl (Nat.le_of_ble_eq_true rfl) dX8_hashesWallet_17 ⟨(Nat.le_of_ble_eq_true rfl), (Nat.le_of_ble_eq_true rfl)⟩) hR hz hS hA (fun H locs hR hz hS => ?_)
  refine lv_aload_n hx hb dX8_hashesWallet_20 rfl (lv_at hl 0 rfl) ?_
  refine lv_iload_n hx hb dX8_hashesWallet_21 rfl (lv_at hl 1 rfl) ?_
  refine lv_bipush (v := 27) hx hb dX8_hashesWallet_22 (by decide) ?_
  obtain ⟨_, ho9, hrun⟩ := m_bind hrun
  obtain ⟨fs9, ho9⟩ := m_is_spec ho9
  obtain ⟨h24, hc9, hrun⟩ := m_bind hrun
  refine mr_callv (mr_runV (As := [.int v1, .int 27]) (rest := []) hx hb hml hown hts (c_X8_hashesDay l D ids st z hc9) yk_X8_hashesDay ys_X8_hashesDay wm_4_76 ⟨(Nat.le_of_ble_eq_true rfl), (Nat.le_of_ble_eq_true rfl)⟩ (mr_recv (ci := 6) hR hE hz hS hA rfl ho9) hl.1 rfl (Nat.le_of_ble_eq_true rfl) dX8_hashesWallet_24 ⟨(Nat.le_of_ble_eq_true rfl), (Nat.le_of_ble_eq_true rfl)⟩) hR hz hS hA (fun H locs hR hz hS => ?_)
  refine lv_iconst (v := 0) hx hb dX8_hashesWallet_27 (by decide) ?_
  refine lv_istore_n (lv' := [(2, .int 0), (0, .ref v0), (1, .int v1)]) hx hb dX8_hashesWallet_28 rfl hl (by decide) rfl (fun ls hl => ?_)
  exact k_X8_hashesWallet_L29 hx hb hr hml hown hts hlocks hin hE hA _ _ _ _ _ _ _ _ hrun hR hz hS (lv_sub hl [1, 2, 0] rfl)
/-! X8_init -/
abbrev rm_X8_init : Room := { frames := 1, cells := 6, slots := 4121, locals := 20 }
theorem yk_X8_init : m_K yX8_init cX8_init 1 (none) 0 := ⟨wm_3_31, wm_0_10, by decide +kernel⟩
theorem ys_X8_init : Cond.instanceMethod yX8_init ∈ wT := wm_3_30
set_option maxRecDepth 100000 in
set_option maxHeartbeats 4000000 in
theorem c_X8_init (l : Launch) (D : va_G) (ids : m_I3) (st : m_T) (z : Nat) {h : mH} {v0 : Nat} {hF : mH} {zF : Nat} (hrun : s_X8_init h z v0 = some (hF, zF)) : Met l yX8_init (m_ws yX8_init cX8_init 1 (none)) rm_X8_init (mPc D ids st [.ref v0] h z) (mQv D ids (m_A h z) hF zF) rm_X8_init.cells rm_X8_init.slots (m_A h z) := by
  refine mr_of (cc := cX8_init) (maxL := 1) (ret := none) (by decide) rfl (Nat.le_of_ble_eq_true rfl) ?_
  intro p e s m below meth c ls hx hb hr hml hown hts hlocks hin hR hE hz hl
  have hA : ∀ q, s.heap.size ≤ q → m_A h z q := fun q hq => Or.inr (by rw [← hz]; exact hq)
  have hS : va_S (m_A h z) s.heap s.heap [] := va_S.rf
  have hl : lv_has ls 1 [(0, .ref v0)] := hl
  unfold s_X8_init at hrun
  refine lv_aload_n hx hb dX8_init_0 rfl (lv_at hl 0 rfl) ?_
  refine W.objInit hx hb hown (hts _ (m_ws_in wm_3_32)) (hts _ (m_ws_in wm_0_24)) (hts _ (m_ws_in wm_0_25)) rfl (by rw [hml]; exact hl.1) rfl dX8_init_1 (Nat.le_of_ble_eq_true rfl) (Nat.le_of_ble_eq_true rfl) ?_
  refine W.eq (g2 := F0 m 4 ls []) rfl ?_
  refine lv_aload_n hx hb dX8_init_4 rfl (lv_at hl 0 rfl) ?_
  refine lv_sipush (v := 492) hx hb dX8_init_5 (by decide) ?_
  obtain ⟨h8, hc9, hrun⟩ := m_bind hrun
  refine mr_newi (N := 492) hx hb (hts _ (m_ws_in wm_0_47)) hR hz hS hA (by decide) (by decide) (Nat.le_of_ble_eq_true rfl) (Nat.le_of_ble_eq_true rfl) (Nat.le_of_ble_eq_true rfl) dX8_init_8 (fun H hR hz hS => ?_)
  rw [Option.some.inj hc9] at hR
  obtain ⟨h10, hc9, hrun⟩ := m_bind hrun
  refine mr_putF (C := RX8) (T := TX8) (N := 13) (ci := 6) hx hb hts (fun w q => m_ws_in (wi_X8 w q)) tyX8 tyX8_ok nmX8 hown hR hz hS rfl 1 (by decide) (hts _ (m_ws_in wm_3_34)) (fun _ h9 => h9) rfl hin rfl (tyX8_ok 1 (by decide)) rfl rfl hc9 dX8_init_10 (fun H locs hR hz hS => ?_)
  refine lv_aload_n hx hb dX8_init_13 rfl (lv_at hl 0 rfl) ?_
  refine lv_sipush (v := 492) hx hb dX8_init_14 (by decide) ?_
  obtain ⟨h17, hc9, hrun⟩ := m_bind hrun
  refine mr_newi (N := 492) hx hb (hts _ (m_ws_in wm_0_47)) hR hz hS hA (by decide) (by decide) (Nat.le_of_ble_eq_true rfl) (Nat.le_of_ble_eq_true rfl) (Nat.le_of_ble_eq_true rfl) dX8_init_17 (fun H hR hz hS => ?_)
  rw [Option.some.inj hc9] at hR
  obtain ⟨h19, hc9, hrun⟩ := m_bind hrun
  refine mr_putF (C := RX8) (T := TX8) (N := 13) (ci := 6) hx hb hts (fun w q => m_ws_in (wi_X8 w q)) tyX8 tyX8_ok nmX8 hown hR hz hS rfl 2 (by decide) (hts _ (m_ws_in wm_3_35)) (fun _ h9 => h9) rfl hin rfl (tyX8_ok 2 (by decide)) rfl rfl hc9 dX8_init_19 (fun H locs hR hz hS => ?_)
  refine lv_aload_n hx hb dX8_init_22 rfl (lv_at hl 0 rfl) ?_
  refine lv_sipush (v := 2952) hx hb dX8_init_23 (by decide) ?_
  obtain ⟨h26, hc9, hrun⟩ := m_bind hrun
  refine mr_newi (N := 2952) hx hb (hts _ (m_ws_in wm_0_47)) hR hz hS hA (by decide) (by decide) (Nat.le_of_ble_eq_true rfl) (Nat.le_of_ble_eq_true rfl) (Nat.le_of_ble_eq_true rfl) dX8_init_26 (fun H hR hz hS => ?_)
  rw [Option.some.inj hc9] at hR
  obtain ⟨h28, hc9, hrun⟩ := m_bind hrun
  refine mr_putF (C := RX8) (T := TX8) (N := 13) (ci := 6) hx hb hts (fun w q => m_ws_in (wi_X8 w q)) tyX8 tyX8_ok nmX8 hown hR hz hS rfl 3 (by decide) (hts _ (m_ws_in wm_3_36)) (fun _ h9 => h9) rfl hin rfl (tyX8_ok 3 (by decide)) rfl rfl hc9 dX8_init_28 (fun H locs hR hz hS => ?_)
  refine lv_aload_n hx hb dX8_init_31 rfl (lv_at hl 0 rfl) ?_
  refine lv_bipush (v := 60) hx hb dX8_init_32 (by decide) ?_
  obtain ⟨h34, hc9, hrun⟩ := m_bind hrun
  refine mr_newi (N := 60) hx hb (hts _ (m_ws_in wm_0_47)) hR hz hS hA (by decide) (by decide) (Nat.le_of_ble_eq_true rfl) (Nat.le_of_ble_eq_true rfl) (Nat.le_of_ble_eq_true rfl) dX8_init_34 (fun H hR hz hS => ?_)
  rw [Option.some.inj hc9] at hR
  obtain ⟨h36, hc9, hrun⟩ := m_bind hrun
  refine mr_putF (C := RX8) (T := TX8) (N := 13) (ci := 6) hx hb hts (fun w q => m_ws_in (wi_X8 w q)) tyX8 tyX8_ok nmX8 hown hR hz hS rfl 5 (by decide) (hts _ (m_ws_in wm_3_38)) (fun _ h9 => h9) rfl hin rfl (tyX8_ok 5 (by decide)) rfl rfl hc9 dX8_init_36 (fun H locs hR hz hS => ?_)
  refine lv_aload_n hx hb dX8_init_39 rfl (lv_at hl 0 rfl) ?_
  refine lv_bipush (v := 61) hx hb dX8_init_40 (by decide) ?_
  obtain ⟨h42, hc9, hrun⟩ := m_bind hrun
  refine mr_newi (N := 61) hx hb (hts _ (m_ws_in wm_0_47)) hR hz hS hA (by decide) (by decide) (Nat.le_of_ble_eq_true rfl) (Nat.le_of_ble_eq_true rfl) (Nat.le_of_ble_eq_true rfl) dX8_init_42 (fun H hR hz hS => ?_)
  rw [Option.some.inj hc9] at hR
  obtain ⟨h44, hc9, hrun⟩ := m_bind hrun
  refine mr_putF (C := RX8) (T := TX8) (N := 13) (ci := 6) hx hb hts (fun w q => m_ws_in (wi_X8 w q)) tyX8 tyX8_ok nmX8 hown hR hz hS rfl 7 (by decide) (hts _ (m_ws_in wm_3_40)) (fun _ h9 => h9) rfl hin rfl (tyX8_ok 7 (by decide)) rfl rfl hc9 dX8_init_44 (fun H locs hR hz hS => ?_)
  refine lv_aload_n hx hb dX8_init_47 rfl (lv_at hl 0 rfl) ?_
  refine lv_bipush (v := 64) hx hb dX8_init_48 (by decide) ?_
  obtain ⟨h50, hc9, hrun⟩ := m_bind hrun
  refine mr_newi (N := 64) hx hb (hts _ (m_ws_in wm_0_47)) hR hz hS hA (by decide) (by decide) (Nat.le_of_ble_eq_true rfl) (Nat.le_of_ble_eq_true rfl) (Nat.le_of_ble_eq_true rfl) dX8_init_50 (fun H hR hz hS => ?_)
  rw [Option.some.inj hc9] at hR
  obtain ⟨h52, hc9, hrun⟩ := m_bind hrun
  refine mr_putF (C := RX8) (T := TX8) (N := 13) (ci := 6) hx hb hts (fun w q => m_ws_in (wi_X8 w q)) tyX8 tyX8_ok nmX8 hown hR hz hS rfl 10 (by decide) (hts _ (m_ws_in wm_3_43)) (fun _ h9 => h9) rfl hin rfl (tyX8_ok 10 (by decide)) rfl rfl hc9 dX8_init_52 (fun H locs hR hz hS => ?_)
  refine lv_aload_n hx hb dX8_init_55 rfl (lv_at hl 0 rfl) ?_
  refine lv_iconst (v := 0) hx hb dX8_init_56 (by decide) ?_
  obtain ⟨h57, hc9, hrun⟩ := m_bind hrun
  refine mr_put (C := RX8) (T := TX8) (N := 13) (ci := 6) hx hb hts (fun w q => m_ws_in (wi_X8 w q)) tyX8 tyX8_ok nmX8 hown hR hz hS rfl 0 (by decide) (hts _ (m_ws_in wm_3_33)) (fun _ h9 => h9) rfl (tyX8_ok 0 (by decide)) rfl rfl hc9 dX8_init_57 (fun H locs hR hz hS => ?_)
  refine lv_aload_n hx hb dX8_init_60 rfl (lv_at hl 0 rfl) ?_
  obtain ⟨x61, hc9, hrun⟩ := m_bind hrun
  refine mr_get (C := RX8) (T := TX8) (N := 13) (ci := 6) hx hb hts (fun w q => m_ws_in (wi_X8 w q)) hown hR rfl 1 (by decide) (hts _ (m_ws_in wm_3_34)) (fun _ h9 => h9) (m_gr_spec hc9) dX8_init_61 ?_
  refine lv_iconst (v := 0) hx hb dX8_init_64 (by decide) ?_
  refine lv_sipush (v := 180) hx hb dX8_init_65 (by decide) ?_
  obtain ⟨h68, hc9, hrun⟩ := m_bind hrun
  refine mr_iast hx hb hR hz hS hc9 dX8_init_68 (fun H locs hR hz hS => ?_)
  refine lv_aload_n hx hb dX8_init_69 rfl (lv_at hl 0 rfl) ?_
  obtain ⟨x70, hc9, hrun⟩ := m_bind hrun
  refine mr_get (C := RX8) (T := TX8) (N := 13) (ci := 6) hx hb hts (fun w q => m_ws_in (wi_X8 w q)) hown hR rfl 1 (by decide) (hts _ (m_ws_in wm_3_34)) (fun _ h9 => h9) (m_gr_spec hc9) dX8_init_70 ?_
  refine lv_iconst (v := 1) hx hb dX8_init_73 (by decide) ?_
  refine lv_bipush (v := 60) hx hb dX8_init_74 (by decide) ?_
  obtain ⟨h76, hc9, hrun⟩ := m_bind hrun
  refine mr_iast hx hb hR hz hS hc9 dX8_init_76 (fun H locs hR hz hS => ?_)
  refine lv_aload_n hx hb dX8_init_77 rfl (lv_at hl 0 rfl) ?_
  obtain ⟨x78, hc9, hrun⟩ := m_bind hrun
  refine mr_get (C := RX8) (T := TX8) (N := 13) (ci := 6) hx hb hts (fun w q => m_ws_in (wi_X8 w q)) hown hR rfl 1 (by decide) (hts _ (m_ws_in wm_3_34)) (fun _ h9 => h9) (m_gr_spec hc9) dX8_init_78 ?_
  refine lv_iconst (v := 2) hx hb dX8_init_81 (by decide) ?_
  refine lv_sipush (v := 420) hx hb dX8_init_82 (by decide) ?_
  obtain ⟨h85, hc9, hrun⟩ := m_bind hrun
  refine mr_iast hx hb hR hz hS hc9 dX8_init_85 (fun H locs hR hz hS => ?_)
  refine lv_aload_n hx hb dX8_init_86 rfl (lv_at hl 0 rfl) ?_
  obtain ⟨x87, hc9, hrun⟩ := m_bind hrun
  refine mr_get (C := RX8) (T := TX8) (N := 13) (ci := 6) hx hb hts (fun w q => m_ws_in (wi_X8 w q)) hown hR rfl 1 (by decide) (hts _ (m_ws_in wm_3_34)) (fun _ h9 => h9) (m_gr_spec hc9) dX8_init_87 ?_
  refine lv_iconst (v := 3) hx hb dX8_init_90 (by decide) ?_
  refine lv_bipush (v := 120) hx hb dX8_init_91 (by decide) ?_
  obtain ⟨h93, hc9, hrun⟩ := m_bind hrun
  refine mr_iast hx hb hR hz hS hc9 dX8_init_93 (fun H locs hR hz hS => ?_)
  refine lv_aload_n hx hb dX8_init_94 rfl (lv_at hl 0 rfl) ?_
  obtain ⟨x95, hc9, hrun⟩ := m_bind hrun
  refine mr_get (C := RX8) (T := TX8) (N := 13) (ci := 6) hx hb hts (fun w q => m_ws_in (wi_X8 w q)) hown hR rfl 1 (by decide) (hts _ (m_ws_in wm_3_34)) (fun _ h9 => h9) (m_gr_spec hc9) dX8_init_95 ?_
  refine lv_iconst (v := 4) hx hb dX8_init_98 (by decide) ?_
  refine lv_sipush (v := 700) hx hb dX8_init_99 (by decide) ?_
  obtain ⟨h102, hc9, hrun⟩ := m_bind hrun
  refine mr_iast hx hb hR hz hS hc9 dX8_init_102 (fun H locs hR hz hS => ?_)
  refine lv_aload_n hx hb dX8_init_103 rfl (lv_at hl 0 rfl) ?_
  obtain ⟨x104, hc9, hrun⟩ := m_bind hrun
  refine mr_get (C := RX8) (T := TX8) (N := 13) (ci := 6) hx hb hts (fun w q => m_ws_in (wi_X8 w q)) hown hR rfl 1 (by decide) (hts _ (m_ws_in wm_3_34)) (fun _ h9 => h9) (m_gr_spec hc9) dX8_init_104 ?_
  refine lv_iconst (v := 5) hx hb dX8_init_107 (by decide) ?_
  refine lv_sipush (v := 2800) hx hb dX8_init_108 (by decide) ?_
  obtain ⟨h111, hc9, hrun⟩ := m_bind hrun
  refine mr_iast hx hb hR hz hS hc9 dX8_init_111 (fun H locs hR hz hS => ?_)
  obtain ⟨rfl, rfl⟩ := Prod.mk.inj (Option.some.inj hrun)
  refine W.widen (k := 6) (n := 4121) (Nat.le_of_ble_eq_true rfl) (Nat.le_of_ble_eq_true rfl) ?_
  exact mr_vret hx hb hr hlocks hR hz hS dX8_init_112
/-! X8_thrown -/
abbrev rm_X8_thrown : Room := { frames := 0, cells := 0, slots := 0, locals := 0 }
theorem yk_X8_thrown : m_K yX8_thrown cX8_thrown 1 (some .int) 0 := ⟨wm_3_76, wm_0_10, by decide +kernel⟩
theorem ys_X8_thrown : Cond.instanceMethod yX8_thrown ∈ wT ∧ Cond.selects RX8 yX8_thrown yX8_thrown ∈ wT := ⟨wm_3_74, wm_3_75⟩
set_option maxRecDepth 100000 in
set_option maxHeartbeats 4000000 in
theorem c_X8_thrown (l : Launch) (D : va_G) (ids : m_I3) (st : m_T) (z : Nat) {h : mH} {v0 : Nat} {r : Int32} (hrun : s_X8_thrown h v0 = some r) : Met l yX8_thrown (m_ws yX8_thrown cX8_thrown 1 (some .int)) rm_X8_thrown (mPc D ids st [.ref v0] h z) (mQi D ids (m_A h z) r h z) rm_X8_thrown.cells rm_X8_thrown.slots (m_A h z) := by
  refine mr_of (cc := cX8_thrown) (maxL := 1) (ret := some .int) (by decide) rfl (Nat.le_of_ble_eq_true rfl) ?_
  intro p e s m below meth c ls hx hb hr hml hown hts hlocks hin hR hE hz hl
  have hA : ∀ q, s.heap.size ≤ q → m_A h z q := fun q hq => Or.inr (by rw [← hz]; exact hq)
  have hS : va_S (m_A h z) s.heap s.heap [] := va_S.rf
  have hl : lv_has ls 1 [(0, .ref v0)] := hl
  unfold s_X8_thrown at hrun
  refine lv_aload_n hx hb dX8_thrown_0 rfl (lv_at hl 0 rfl) ?_
  obtain ⟨x1, hc9, hrun⟩ := m_bind hrun
  refine mr_get (C := RX8) (T := TX8) (N := 13) (ci := 6) hx hb hts (fun w q => m_ws_in (wi_X8 w q)) hown hR rfl 0 (by decide) (hts _ (m_ws_in wm_3_33)) (fun _ h9 => h9) (m_gi_spec hc9) dX8_thrown_1 ?_
  obtain rfl := Option.some.inj hrun
  exact mr_iret hx hb hr hlocks hR hz hS dX8_thrown_4
/-! X8_tap -/
abbrev rm_X8_tap : Room := { frames := 3, cells := 0, slots := 0, locals := 72 }
theorem yk_X8_tap : m_K yX8_tap cX8_tap 6 (some .int) 5 := ⟨wm_3_80, wm_0_10, by decide +kernel⟩
theorem ys_X8_tap : Cond.instanceMethod yX8_tap ∈ wT ∧ Cond.selects RX8 yX8_tap yX8_tap ∈ wT := ⟨wm_3_78, wm_3_79⟩
set_option maxRecDepth 100000 in
set_option maxHeartbeats 4000000 in
theorem k_X8_tap_b60 {p : Program} {l : Launch} {e : Env} {s : State} {m : MethodId} {args : Array Value} {below : List Frame} {meth : Method} {c : Code} {D : va_G} {ids : m_I3} {st : m_T} {A : Nat → Prop} {z : Nat} {r : Int32} {hF : mH} (hx : p.tables.exec = Jvm.exec) (hb : c.code = cX8_tap) (hr : meth.sig.returnType = some .int) (hml : c.maxLocals = 6) (hown : s.vm.findClass RX8 = some m.cls) (hts : ∀ w ∈ (m_ws yX8_tap cX8_tap 6 (some .int)), w.before args s = true) (hlocks : meth.locks = false) (hin : meth.name = yX8_tap.name) (hE : m_EV st A s s.heap) (hA : ∀ q, s.heap.size ≤ q → A q) (h : mH) (t0 : Nat) (t1 : Int32) (t2 : Int32) (t3 : Int32) (t4 : Int32) (t5 : Int32) (H : Heap) (locs : List Loc) (ls : Array Slot) (hrun : s_X8_tap_b60 h t0 t1 t2 t3 t4 t5 = some (r, hF)) (hR : Rl D ids A h s H) (hz : H.size = z) (hS : va_S A s.heap H locs) (hl : lv_has ls 6 []) : W p l e rm_X8_tap s m args below meth c H locs 0 0 (MQ below (mQi D ids A r hF z) args s 0 0 A) (F0 m 60 ls [.int t5, .int t4, .int t3, .int t2, .int t1, .ref t0]) := by
  unfold s_X8_tap_b60 at hrun
  refine lv_iconst (v := 0) hx hb dX8_tap_60 (by decide) ?_
  obtain ⟨_, ho9, hrun⟩ := m_bind hrun
  obtain ⟨fs9, ho9⟩ := m_is_spec ho9
  obtain ⟨⟨x61, h61⟩, hc9, hrun⟩ := m_bind hrun
  refine mr_calli (mr_runV (As := [.int t1, .int t2, .int t3, .int t4, .int t5, .int 0]) (rest := []) hx hb hml hown hts (c_X8_comes l D ids st z hc9) yk_X8_comes ys_X8_comes wm_3_98 ⟨(Nat.le_of_ble_eq_true rfl), (Nat.le_of_ble_eq_true rfl)⟩ (mr_recv (ci := 6) hR hE hz hS hA rfl ho9) hl.1 rfl (Nat.le_of_ble_eq_true rfl) dX8_tap_61 ⟨(Nat.le_of_ble_eq_true rfl), (Nat.le_of_ble_eq_true rfl)⟩) hR hz hS hA (fun H locs hR hz hS => ?_)
  obtain ⟨rfl, rfl⟩ := Prod.mk.inj (Option.some.inj hrun)
  exact mr_iret hx hb hr hlocks hR hz hS dX8_tap_64
set_option maxRecDepth 100000 in
set_option maxHeartbeats 4000000 in
theorem c_X8_tap (l : Launch) (D : va_G) (ids : m_I3) (st : m_T) (z : Nat) {h : mH} {v0 : Nat} {v1 : Int32} {v2 : Int32} {v3 : Int32} {v4 : Int32} {v5 : Int32} {r : Int32} {hF : mH} (hrun : s_X8_tap h v0 v1 v2 v3 v4 v5 = some (r, hF)) : Met l yX8_tap (m_ws yX8_tap cX8_tap 6 (some .int)) rm_X8_tap (mPc D ids st [.ref v0, .int v1, .int v2, .int v3, .int v4, .int v5] h z) (mQi D ids (m_A h z) r hF z) rm_X8_tap.cells rm_X8_tap.slots (m_A h z) := by
  refine mr_of (cc := cX8_tap) (maxL := 6) (ret := some .int) (by decide) rfl (Nat.le_of_ble_eq_true rfl) ?_
  intro p e s m below meth c ls hx hb hr hml hown hts hlocks hin hR hE hz hl
  have hA : ∀ q, s.heap.size ≤ q → m_A h z q := fun q hq => Or.inr (by rw [← hz]; exact hq)
  have hS : va_S (m_A h z) s.heap s.heap [] := va_S.rf
  have hl : lv_has ls 6 [(0, .ref v0), (1, .int v1), (2, .int v2), (3, .int v3), (4, .int v4), (5, .int v5)] := hl
  unfold s_X8_tap at hrun
  refine lv_aload_n hx hb dX8_tap_0 rfl (lv_at hl 0 rfl) ?_
  refine lv_iconst (v := 0) hx hb dX8_tap_1 (by decide) ?_
  obtain ⟨h2, hc9, hrun⟩ := m_bind hrun
  refine mr_put (C := RX8) (T := TX8) (N := 13) (ci := 6) hx hb hts (fun w q => m_ws_in (wi_X8 w q)) tyX8 tyX8_ok nmX8 hown hR hz hS rfl 0 (by decide) (hts _ (m_ws_in wm_3_33)) (fun _ h9 => h9) rfl (tyX8_ok 0 (by decide)) rfl rfl hc9 dX8_tap_2 (fun H locs hR hz hS => ?_)
  refine lv_iload_n hx hb dX8_tap_5 rfl (lv_at hl 1 rfl) ?_
  refine lv_iload_n hx hb dX8_tap_6 rfl (lv_at hl 2 rfl) ?_
  refine lv_iload_n hx hb dX8_tap_7 rfl (lv_at hl 3 rfl) ?_
  refine lv_iload hx hb dX8_tap_8 (lv_at hl 4 rfl) ?_
  obtain ⟨x10, hc9, hrun⟩ := m_bind hrun
  refine mr_calli (mr_runS (As := [.int v1, .int v2, .int v3, .int v4]) (rest := []) hx hb hml hown hts (c_X8_isTold l D ids st z hc9) yk_X8_isTold ys_X8_isTold wm_3_81 ⟨(Nat.le_of_ble_eq_true rfl), (Nat.le_of_ble_eq_true rfl)⟩ (mr_recvS hR hE hz hS hA) hl.1 rfl (Nat.le_of_ble_eq_true rfl) dX8_tap_10 ⟨(Nat.le_of_ble_eq_true rfl), (Nat.le_of_ble_eq_true rfl)⟩) hR hz hS hA (fun H locs hR hz hS => ?_)
  refine lv_if_ne (tgt := 22) hx hb dX8_tap_13 (by decide) (fun hc => ?_) (fun hc => ?_)
  · have hrun := mt_f hrun hc
    refine lv_aload_n hx hb dX8_tap_22 rfl (lv_at hl 0 rfl) ?_
    obtain ⟨x23, hc9, hrun⟩ := m_bind hrun
    refine mr_get (C := RX8) (T := TX8) (N := 13) (ci := 6) hx hb hts (fun w q => m_ws_in (wi_X8 w q)) hown hR rfl 1 (by decide) (hts _ (m_ws_in wm_3_34)) (fun _ h9 => h9) (m_gr_spec hc9) dX8_tap_23 ?_
    refine lv_bipush (v := 9) hx hb dX8_tap_26 (by decide) ?_
    obtain ⟨x28, hc9, hrun⟩ := m_bind hrun
    refine mr_iald hx hb hR hc9 dX8_tap_28 ?_
    refine lv_bipush (v := 60) hx hb dX8_tap_29 (by decide) ?_
    refine lv_icmp_ne (tgt := 40) hx hb dX8_tap_31 (by decide) (fun hc => ?_) (fun hc => ?_)
    · have hrun := mt_f hrun hc
      refine lv_aload_n hx hb dX8_tap_40 rfl (lv_at hl 0 rfl) ?_
      obtain ⟨_, ho9, hrun⟩ := m_bind hrun
      obtain ⟨fs9, ho9⟩ := m_is_spec ho9
      obtain ⟨h41, hc9, hrun⟩ := m_bind hrun
      refine mr_callv (mr_runV (As := []) (rest := []) hx hb hml hown hts (c_X8_saves l D ids st z hc9) yk_X8_saves ys_X8_saves wm_3_94 ⟨(Nat.le_of_ble_eq_true rfl), (Nat.le_of_ble_eq_true rfl)⟩ (mr_recv (ci := 6) hR hE hz hS hA rfl ho9) hl.1 rfl (Nat.le_of_ble_eq_true rfl) dX8_tap_41 ⟨(Nat.le_of_ble_eq_true rfl), (Nat.le_of_ble_eq_true rfl)⟩) hR hz hS hA (fun H locs hR hz hS => ?_)
      refine lv_aload_n hx hb dX8_tap_44 rfl (lv_at hl 0 rfl) ?_
      refine lv_iload_n hx hb dX8_tap_45 rfl (lv_at hl 1 rfl) ?_
      refine lv_iload_n hx hb dX8_tap_46 rfl (lv_at hl 2 rfl) ?_
      refine lv_iload_n hx hb dX8_tap_47 rfl (lv_at hl 3 rfl) ?_
      refine lv_iload hx hb dX8_tap_48 (lv_at hl 4 rfl) ?_
      refine lv_iload hx hb dX8_tap_50 (lv_at hl 5 rfl) ?_
      refine lv_if_eq (tgt := 59) hx hb dX8_tap_52 (by decide) (fun hc => ?_) (fun hc => ?_)
      · have hrun := mt_t hrun hc
        refine lv_iconst (v := 0) hx hb dX8_tap_59 (by decide) ?_
        exact k_X8_tap_b60 hx hb hr hml hown hts hlocks hin hE hA _ _ _ _ _ _ _ _ _ _ hrun hR hz hS (lv_sub hl [] rfl)
      · have hrun := mt_f hrun hc
        refine lv_iconst (v := 1) hx hb dX8_tap_55 (by decide) ?_
        refine lv_goto (tgt := 60) hx hb dX8_tap_56 (by decide) ?_
        exact k_X8_tap_b60 hx hb hr hml hown hts hlocks hin hE hA _ _ _ _ _ _ _ _ _ _ hrun hR hz hS (lv_sub hl [] rfl)
    · have hrun := mt_t hrun hc
      refine lv_aload_n hx hb dX8_tap_34 rfl (lv_at hl 0 rfl) ?_
      refine lv_iconst (v := 2) hx hb dX8_tap_35 (by decide) ?_
      obtain ⟨_, ho9, hrun⟩ := m_bind hrun
      obtain ⟨fs9, ho9⟩ := m_is_spec ho9
      obtain ⟨⟨x36, h36⟩, hc9, hrun⟩ := m_bind hrun
      refine mr_calli (mr_runV (As := [.int 2]) (rest := []) hx hb hml hown hts (c_X8_fails l D ids st z hc9) yk_X8_fails ys_X8_fails wm_3_90 ⟨(Nat.le_of_ble_eq_true rfl), (Nat.le_of_ble_eq_true rfl)⟩ (mr_recv (ci := 6) hR hE hz hS hA rfl ho9) hl.1 rfl (Nat.le_of_ble_eq_true rfl) dX8_tap_36 ⟨(Nat.le_of_ble_eq_true rfl), (Nat.le_of_ble_eq_true rfl)⟩) hR hz hS hA (fun H locs hR hz hS => ?_)
      obtain ⟨rfl, rfl⟩ := Prod.mk.inj (Option.some.inj hrun)
      exact mr_iret hx hb hr hlocks hR hz hS dX8_tap_39
  · have hrun := mt_t hrun hc
    refine lv_aload_n hx hb dX8_tap_16 rfl (lv_at hl 0 rfl) ?_
    refine lv_iconst (v := 1) hx hb dX8_tap_17 (by decide) ?_
    obtain ⟨_, ho9, hrun⟩ := m_bind hrun
    obtain ⟨fs9, ho9⟩ := m_is_spec ho9
    obtain ⟨⟨x18, h18⟩, hc9, hrun⟩ := m_bind hrun
    refine mr_calli (mr_runV (As := [.int 1]) (rest := []) hx hb hml hown hts (c_X8_fails l D ids st z hc9) yk_X8_fails ys_X8_fails wm_3_90 ⟨(Nat.le_of_ble_eq_true rfl), (Nat.le_of_ble_eq_true rfl)⟩ (mr_recv (ci := 6) hR hE hz hS hA rfl ho9) hl.1 rfl (Nat.le_of_ble_eq_true rfl) dX8_tap_18 ⟨(Nat.le_of_ble_eq_true rfl), (Nat.le_of_ble_eq_true rfl)⟩) hR hz hS hA (fun H locs hR hz hS => ?_)
    obtain ⟨rfl, rfl⟩ := Prod.mk.inj (Option.some.inj hrun)
    exact mr_iret hx hb hr hlocks hR hz hS dX8_tap_21
/-! X7_isBelow -/
abbrev rm_X7_isBelow : Room := { frames := 0, cells := 0, slots := 0, locals := 0 }
theorem yk_X7_isBelow : m_K yX7_isBelow cX7_isBelow 2 (some .boolean) 2 := ⟨wm_1_55, wm_0_1, by decide +kernel⟩
theorem ys_X7_isBelow : Cond.static yX7_isBelow ∈ wT := wm_1_54
set_option maxRecDepth 100000 in
set_option maxHeartbeats 4000000 in
theorem k_X7_isBelow_b14 {p : Program} {l : Launch} {e : Env} {s : State} {m : MethodId} {args : Array Value} {below : List Frame} {meth : Method} {c : Code} {D : va_G} {ids : m_I3} {st : m_T} {A : Nat → Prop} {z : Nat} {r : Int32} (hx : p.tables.exec = Jvm.exec) (hb : c.code = cX7_isBelow) (hr : meth.sig.returnType = some .boolean) (hml : c.maxLocals = 2) (hown : s.vm.findClass RX7 = some m.cls) (hts : ∀ w ∈ (m_ws yX7_isBelow cX7_isBelow 2 (some .boolean)), w.before args s = true) (hlocks : meth.locks = false) (hin : meth.name = yX7_isBelow.name) (hE : m_EV st A s s.heap) (hA : ∀ q, s.heap.size ≤ q → A q) {h : mH} (t0 : Int32) (H : Heap) (locs : List Loc) (ls : Array Slot) (hrun : s_X7_isBelow_b14 h t0 = some r) (hR : Rl D ids A h s H) (hz : H.size = z) (hS : va_S A s.heap H locs) (hl : lv_has ls 2 []) : W p l e rm_X7_isBelow s m args below meth c H locs 0 0 (MQ below (mQi D ids A r h z) args s 0 0 A) (F0 m 14 ls [.int t0]) := by
  unfold s_X7_isBelow_b14 at hrun
  obtain ⟨w9, hzr, hrun⟩ := m_bind hrun
  obtain rfl := Option.some.inj hrun
  exact mr_zret hzr hx hb hr hlocks hR hz hS dX7_isBelow_14
set_option maxRecDepth 100000 in
set_option maxHeartbeats 4000000 in
theorem k_X7_isBelow_b13 {p : Program} {l : Launch} {e : Env} {s : State} {m : MethodId} {args : Array Value} {below : List Frame} {meth : Method} {c : Code} {D : va_G} {ids : m_I3} {st : m_T} {A : Nat → Prop} {z : Nat} {r : Int32} (hx : p.tables.exec = Jvm.exec) (hb : c.code = cX7_isBelow) (hr : meth.sig.returnType = some .boolean) (hml : c.maxLocals = 2) (hown : s.vm.findClass RX7 = some m.cls) (hts : ∀ w ∈ (m_ws yX7_isBelow cX7_isBelow 2 (some .boolean)), w.before args s = true) (hlocks : meth.locks = false) (hin : meth.name = yX7_isBelow.name) (hE : m_EV st A s s.heap) (hA : ∀ q, s.heap.size ≤ q → A q) {h : mH} (H : Heap) (locs : List Loc) (ls : Array Slot) (hrun : s_X7_isBelow_b13 h  = some r) (hR : Rl D ids A h s H) (hz : H.size = z) (hS : va_S A s.heap H locs) (hl : lv_has ls 2 []) : W p l e rm_X7_isBelow s m args below meth c H locs 0 0 (MQ below (mQi D ids A r h z) args s 0 0 A) (F0 m 13 ls []) := by
  unfold s_X7_isBelow_b13 at hrun
  refine lv_iconst (v := 0) hx hb dX7_isBelow_13 (by decide) ?_
  exact k_X7_isBelow_b14 hx hb hr hml hown hts hlocks hin hE hA _ _ _ _ hrun hR hz hS (lv_sub hl [] rfl)
set_option maxRecDepth 100000 in
set_option maxHeartbeats 4000000 in
theorem c_X7_isBelow (l : Launch) (D : va_G) (ids : m_I3) (st : m_T) (z : Nat) {h : mH} {v0 : Int32} {v1 : Int32} {r : Int32} (hrun : s_X7_isBelow h v0 v1 = some r) : Met l yX7_isBelow (m_ws yX7_isBelow cX7_isBelow 2 (some .boolean)) rm_X7_isBelow (mPc D ids st [.int v0, .int v1] h z) (mQi D ids (m_A h z) r h z) rm_X7_isBelow.cells rm_X7_isBelow.slots (m_A h z) := by
  refine mr_of (cc := cX7_isBelow) (maxL := 2) (ret := some .boolean) (by decide) rfl (Nat.le_of_ble_eq_true rfl) ?_
  intro p e s m below meth c ls hx hb hr hml hown hts hlocks hin hR hE hz hl
  have hA : ∀ q, s.heap.size ≤ q → m_A h z q := fun q hq => Or.inr (by rw [← hz]; exact hq)
  have hS : va_S (m_A h z) s.heap s.heap [] := va_S.rf
  have hl : lv_has ls 2 [(0, .int v0), (1, .int v1)] := hl
  unfold s_X7_isBelow at hrun
  refine lv_iload_n hx hb dX7_isBelow_0 rfl (lv_at hl 0 rfl) ?_
  refine lv_if_lt (tgt := 13) hx hb dX7_isBelow_1 (by decide) (fun hc => ?_) (fun hc => ?_)
  · have hrun := mt_t hrun hc
    exact k_X7_isBelow_b13 hx hb hr hml hown hts hlocks hin hE hA _ _ _ hrun hR hz hS (lv_sub hl [] rfl)
  · have hrun := mt_f hrun hc
    refine lv_iload_n hx hb dX7_isBelow_4 rfl (lv_at hl 0 rfl) ?_
    refine lv_iload_n hx hb dX7_isBelow_5 rfl (lv_at hl 1 rfl) ?_
    refine lv_icmp_ge (tgt := 13) hx hb dX7_isBelow_6 (by decide) (fun hc => ?_) (fun hc => ?_)
    · have hrun := mt_t hrun hc
      exact k_X7_isBelow_b13 hx hb hr hml hown hts hlocks hin hE hA _ _ _ hrun hR hz hS (lv_sub hl [] rfl)
    · have hrun := mt_f hrun hc
      refine lv_iconst (v := 1) hx hb dX7_isBelow_9 (by decide) ?_
      refine lv_goto (tgt := 14) hx hb dX7_isBelow_10 (by decide) ?_
      exact k_X7_isBelow_b14 hx hb hr hml hown hts hlocks hin hE hA _ _ _ _ hrun hR hz hS (lv_sub hl [] rfl)
/-! X7_dayCell -/
abbrev rm_X7_dayCell : Room := { frames := 0, cells := 0, slots := 0, locals := 0 }
theorem yk_X7_dayCell : m_K yX7_dayCell cX7_dayCell 2 (some .int) 2 := ⟨wm_1_4, wm_0_1, by decide +kernel⟩
theorem ys_X7_dayCell : Cond.static yX7_dayCell ∈ wT := wm_1_3
set_option maxRecDepth 100000 in
set_option maxHeartbeats 4000000 in
theorem c_X7_dayCell (l : Launch) (D : va_G) (ids : m_I3) (st : m_T) (z : Nat) {h : mH} {v0 : Int32} {v1 : Int32} {r : Int32} (hrun : s_X7_dayCell h v0 v1 = some r) : Met l yX7_dayCell (m_ws yX7_dayCell cX7_dayCell 2 (some .int)) rm_X7_dayCell (mPc D ids st [.int v0, .int v1] h z) (mQi D ids (m_A h z) r h z) rm_X7_dayCell.cells rm_X7_dayCell.slots (m_A h z) := by
  refine mr_of (cc := cX7_dayCell) (maxL := 2) (ret := some .int) (by decide) rfl (Nat.le_of_ble_eq_true rfl) ?_
  intro p e s m below meth c ls hx hb hr hml hown hts hlocks hin hR hE hz hl
  have hA : ∀ q, s.heap.size ≤ q → m_A h z q := fun q hq => Or.inr (by rw [← hz]; exact hq)
  have hS : va_S (m_A h z) s.heap s.heap [] := va_S.rf
  have hl : lv_has ls 2 [(0, .int v0), (1, .int v1)] := hl
  unfold s_X7_dayCell at hrun
  refine lv_iload_n hx hb dX7_dayCell_0 rfl (lv_at hl 0 rfl) ?_
  refine lv_bipush (v := 28) hx hb dX7_dayCell_1 (by decide) ?_
  refine lv_imul hx hb dX7_dayCell_3 ?_
  refine lv_iload_n hx hb dX7_dayCell_4 rfl (lv_at hl 1 rfl) ?_
  refine lv_iadd hx hb dX7_dayCell_5 ?_
  obtain rfl := Option.some.inj hrun
  exact mr_iret hx hb hr hlocks hR hz hS dX7_dayCell_6
/-! X1_at -/
abbrev rm_X1_at : Room := { frames := 0, cells := 0, slots := 0, locals := 0 }
theorem yk_X1_at : m_K yX1_at cX1_at 2 (some .int) 2 := ⟨wm_0_196, wm_0_4, by decide +kernel⟩
theorem ys_X1_at : Cond.static yX1_at ∈ wT := wm_0_195
set_option maxRecDepth 100000 in
set_option maxHeartbeats 4000000 in
theorem k_X1_at_b17 {p : Program} {l : Launch} {e : Env} {s : State} {m : MethodId} {args : Array Value} {below : List Frame} {meth : Method} {c : Code} {D : va_G} {ids : m_I3} {st : m_T} {A : Nat → Prop} {z : Nat} {r : Int32} (hx : p.tables.exec = Jvm.exec) (hb : c.code = cX1_at) (hr : meth.sig.returnType = some .int) (hml : c.maxLocals = 2) (hown : s.vm.findClass RX1 = some m.cls) (hts : ∀ w ∈ (m_ws yX1_at cX1_at 2 (some .int)), w.before args s = true) (hlocks : meth.locks = false) (hin : meth.name = yX1_at.name) (hE : m_EV st A s s.heap) (hA : ∀ q, s.heap.size ≤ q → A q) {h : mH} (t0 : Int32) (H : Heap) (locs : List Loc) (ls : Array Slot) (hrun : s_X1_at_b17 h t0 = some r) (hR : Rl D ids A h s H) (hz : H.size = z) (hS : va_S A s.heap H locs) (hl : lv_has ls 2 []) : W p l e rm_X1_at s m args below meth c H locs 0 0 (MQ below (mQi D ids A r h z) args s 0 0 A) (F0 m 17 ls [.int t0]) := by
  unfold s_X1_at_b17 at hrun
  obtain rfl := Option.some.inj hrun
  exact mr_iret hx hb hr hlocks hR hz hS dX1_at_17
set_option maxRecDepth 100000 in
set_option maxHeartbeats 4000000 in
theorem k_X1_at_b16 {p : Program} {l : Launch} {e : Env} {s : State} {m : MethodId} {args : Array Value} {below : List Frame} {meth : Method} {c : Code} {D : va_G} {ids : m_I3} {st : m_T} {A : Nat → Prop} {z : Nat} {r : Int32} (hx : p.tables.exec = Jvm.exec) (hb : c.code = cX1_at) (hr : meth.sig.returnType = some .int) (hml : c.maxLocals = 2) (hown : s.vm.findClass RX1 = some m.cls) (hts : ∀ w ∈ (m_ws yX1_at cX1_at 2 (some .int)), w.before args s = true) (hlocks : meth.locks = false) (hin : meth.name = yX1_at.name) (hE : m_EV st A s s.heap) (hA : ∀ q, s.heap.size ≤ q → A q) {h : mH} (H : Heap) (locs : List Loc) (ls : Array Slot) (hrun : s_X1_at_b16 h  = some r) (hR : Rl D ids A h s H) (hz : H.size = z) (hS : va_S A s.heap H locs) (hl : lv_has ls 2 []) : W p l e rm_X1_at s m args below meth c H locs 0 0 (MQ below (mQi D ids A r h z) args s 0 0 A) (F0 m 16 ls []) := by
  unfold s_X1_at_b16 at hrun
  refine lv_iconst (v := 0) hx hb dX1_at_16 (by decide) ?_
  exact k_X1_at_b17 hx hb hr hml hown hts hlocks hin hE hA _ _ _ _ hrun hR hz hS (lv_sub hl [] rfl)
set_option maxRecDepth 100000 in
set_option maxHeartbeats 4000000 in
theorem c_X1_at (l : Launch) (D : va_G) (ids : m_I3) (st : m_T) (z : Nat) {h : mH} {v0 : Nat} {v1 : Int32} {r : Int32} (hrun : s_X1_at h v0 v1 = some r) : Met l yX1_at (m_ws yX1_at cX1_at 2 (some .int)) rm_X1_at (mPc D ids st [.ref v0, .int v1] h z) (mQi D ids (m_A h z) r h z) rm_X1_at.cells rm_X1_at.slots (m_A h z) := by
  refine mr_of (cc := cX1_at) (maxL := 2) (ret := some .int) (by decide) rfl (Nat.le_of_ble_eq_true rfl) ?_
  intro p e s m below meth c ls hx hb hr hml hown hts hlocks hin hR hE hz hl
  have hA : ∀ q, s.heap.size ≤ q → m_A h z q := fun q hq => Or.inr (by rw [← hz]; exact hq)
  have hS : va_S (m_A h z) s.heap s.heap [] := va_S.rf
  have hl : lv_has ls 2 [(0, .ref v0), (1, .int v1)] := hl
  unfold s_X1_at at hrun
  refine lv_iload_n hx hb dX1_at_0 rfl (lv_at hl 1 rfl) ?_
  refine lv_if_lt (tgt := 16) hx hb dX1_at_1 (by decide) (fun hc => ?_) (fun hc => ?_)
  · have hrun := mt_t hrun hc
    exact k_X1_at_b16 hx hb hr hml hown hts hlocks hin hE hA _ _ _ hrun hR hz hS (lv_sub hl [] rfl)
  · have hrun := mt_f hrun hc
    refine lv_iload_n hx hb dX1_at_4 rfl (lv_at hl 1 rfl) ?_
    refine lv_aload_n hx hb dX1_at_5 rfl (lv_at hl 0 rfl) ?_
    obtain ⟨x6, hc9, hrun⟩ := m_bind hrun
    refine mr_ilen hx hb hR hc9 dX1_at_6 ?_
    refine lv_icmp_ge (tgt := 16) hx hb dX1_at_7 (by decide) (fun hc => ?_) (fun hc => ?_)
    · have hrun := mt_t hrun hc
      exact k_X1_at_b16 hx hb hr hml hown hts hlocks hin hE hA _ _ _ hrun hR hz hS (lv_sub hl [] rfl)
    · have hrun := mt_f hrun hc
      refine lv_aload_n hx hb dX1_at_10 rfl (lv_at hl 0 rfl) ?_
      refine lv_iload_n hx hb dX1_at_11 rfl (lv_at hl 1 rfl) ?_
      obtain ⟨x12, hc9, hrun⟩ := m_bind hrun
      refine mr_iald hx hb hR hc9 dX1_at_12 ?_
      refine lv_goto (tgt := 17) hx hb dX1_at_13 (by decide) ?_
      exact k_X1_at_b17 hx hb hr hml hown hts hlocks hin hE hA _ _ _ _ hrun hR hz hS (lv_sub hl [] rfl)
/-! X0_weekSum -/
abbrev rm_X0_weekSum : Room := { frames := 1, cells := 0, slots := 0, locals := 21 }
theorem yk_X0_weekSum : m_K yX0_weekSum cX0_weekSum 5 (some .int) 3 := ⟨wm_1_169, wm_0_5, by decide +kernel⟩
theorem ys_X0_weekSum : Cond.static yX0_weekSum ∈ wT := wm_1_168
set_option maxRecDepth 100000 in
set_option maxHeartbeats 4000000 in
theorem k_X0_weekSum_L5 {p : Program} {l : Launch} {e : Env} {s : State} {m : MethodId} {args : Array Value} {below : List Frame} {meth : Method} {c : Code} {D : va_G} {ids : m_I3} {st : m_T} {A : Nat → Prop} {z : Nat} {r : Int32} (hx : p.tables.exec = Jvm.exec) (hb : c.code = cX0_weekSum) (hr : meth.sig.returnType = some .int) (hml : c.maxLocals = 5) (hown : s.vm.findClass RX0 = some m.cls) (hts : ∀ w ∈ (m_ws yX0_weekSum cX0_weekSum 5 (some .int)), w.before args s = true) (hlocks : meth.locks = false) (hin : meth.name = yX0_weekSum.name) (hE : m_EV st A s s.heap) (hA : ∀ q, s.heap.size ≤ q → A q) {h : mH} : ∀ (n : Nat) (v0 : Nat) (v1 : Int32) (v2 : Int32) (v3 : Int32) (v4 : Int32) (H : Heap) (locs : List Loc) (ls : Array Slot), s_X0_weekSum_L5 h n v0 v1 v2 v3 v4 = some r → Rl D ids A h s H → H.size = z → va_S A s.heap H locs → lv_has ls 5 [(0, .ref v0), (1, .int v1), (2, .int v2), (3, .int v3), (4, .int v4)] → W p l e rm_X0_weekSum s m args below meth c H locs 0 0 (MQ below (mQi D ids A r h z) args s 0 0 A) (F0 m 5 ls []) := by
  intro n
  induction n with
  | zero => intro v0 v1 v2 v3 v4 H locs ls hrun; exact absurd hrun (by intro h9; cases h9)
  | succ n ih =>
    intro v0 v1 v2 v3 v4 H locs ls hrun hR hz hS hl
    rw [s_X0_weekSum_L5] at hrun
    refine lv_iload hx hb dX0_weekSum_5 (lv_at hl 4 rfl) ?_
    refine lv_bipush (v := 7) hx hb dX0_weekSum_7 (by decide) ?_
    refine lv_icmp_ge (tgt := 36) hx hb dX0_weekSum_9 (by decide) (fun hc => ?_) (fun hc => ?_)
    · have hrun := mt_t hrun hc
      refine lv_iload_n hx hb dX0_weekSum_36 rfl (lv_at hl 3 rfl) ?_
      obtain rfl := Option.some.inj hrun
      exact mr_iret hx hb hr hlocks hR hz hS dX0_weekSum_37
    · have hrun := mt_f hrun hc
      refine lv_iload_n hx hb dX0_weekSum_12 rfl (lv_at hl 3 rfl) ?_
      refine lv_aload_n hx hb dX0_weekSum_13 rfl (lv_at hl 0 rfl) ?_
      refine lv_iload_n hx hb dX0_weekSum_14 rfl (lv_at hl 1 rfl) ?_
      refine lv_iload_n hx hb dX0_weekSum_15 rfl (lv_at hl 2 rfl) ?_
      refine lv_bipush (v := 7) hx hb dX0_weekSum_16 (by decide) ?_
      refine lv_imul hx hb dX0_weekSum_18 ?_
      refine lv_iload hx hb dX0_weekSum_19 (lv_at hl 4 rfl) ?_
      refine lv_iadd hx hb dX0_weekSum_21 ?_
      obtain ⟨x22, hc9, hrun⟩ := m_bind hrun
      refine mr_calli (mr_runSN (As := [.int v1, .int ((v2 * 7) + v4)]) (rest := [.ref v0, .int v3]) hx hb hml hown hts (c_X7_dayCell l D ids st z hc9) yk_X7_dayCell ys_X7_dayCell (hE.nm (i := 0) rfl) ⟨(Nat.le_of_ble_eq_true rfl), (Nat.le_of_ble_eq_true rfl)⟩ (mr_recvS hR hE hz hS hA) hl.1 rfl (Nat.le_of_ble_eq_true rfl) dX0_weekSum_22 ⟨(Nat.le_of_ble_eq_true rfl), (Nat.le_of_ble_eq_true rfl)⟩) hR hz hS hA (fun H locs hR hz hS => ?_)
      obtain ⟨x25, hc9, hrun⟩ := m_bind hrun
      refine mr_calli (mr_runS (As := [.ref v0, .int x22]) (rest := [.int v3]) hx hb hml hown hts (c_X1_at l D ids st z hc9) yk_X1_at ys_X1_at wm_0_194 ⟨(Nat.le_of_ble_eq_true rfl), (Nat.le_of_ble_eq_true rfl)⟩ (mr_recvS hR hE hz hS hA) hl.1 rfl (Nat.le_of_ble_eq_true rfl) dX0_weekSum_25 ⟨(Nat.le_of_ble_eq_true rfl), (Nat.le_of_ble_eq_true rfl)⟩) hR hz hS hA (fun H locs hR hz hS => ?_)
      refine lv_iadd hx hb dX0_weekSum_28 ?_
      refine lv_istore_n (lv' := [(3, .int (v3 + x25)), (0, .ref v0), (1, .int v1), (2, .int v2), (4, .int v4)]) hx hb dX0_weekSum_29 rfl hl (by decide) rfl (fun ls hl => ?_)
      refine lv_iinc (v := v4 + 1) (lv' := [(4, .int (v4 + 1)), (3, .int (v3 + x25)), (0, .ref v0), (1, .int v1), (2, .int v2)]) hx hb dX0_weekSum_30 hl (k := 4) rfl rfl (by decide) rfl (fun ls hl => ?_)
      refine lv_goto (tgt := 5) hx hb dX0_weekSum_33 (by decide) ?_
      exact ih _ _ _ _ _ _ _ _ hrun hR hz hS (lv_sub hl [2, 3, 4, 1, 0] rfl)
set_option maxRecDepth 100000 in
set_option maxHeartbeats 4000000 in
theorem c_X0_weekSum (l : Launch) (D : va_G) (ids : m_I3) (st : m_T) (z : Nat) {h : mH} {v0 : Nat} {v1 : Int32} {v2 : Int32} {r : Int32} (hrun : s_X0_weekSum h v0 v1 v2 = some r) : Met l yX0_weekSum (m_ws yX0_weekSum cX0_weekSum 5 (some .int)) rm_X0_weekSum (mPc D ids st [.ref v0, .int v1, .int v2] h z) (mQi D ids (m_A h z) r h z) rm_X0_weekSum.cells rm_X0_weekSum.slots (m_A h z) := by
  refine mr_of (cc := cX0_weekSum) (maxL := 5) (ret := some .int) (by decide) rfl (Nat.le_of_ble_eq_true rfl) ?_
  intro p e s m below meth c ls hx hb hr hml hown hts hlocks hin hR hE hz hl
  have hA : ∀ q, s.heap.size ≤ q → m_A h z q := fun q hq => Or.inr (by rw [← hz]; exact hq)
  have hS : va_S (m_A h z) s.heap s.heap [] := va_S.rf
  have hl : lv_has ls 5 [(0, .ref v0), (1, .int v1), (2, .int v2)] := hl
  unfold s_X0_weekSum at hrun
  refine lv_iconst (v := 0) hx hb dX0_weekSum_0 (by decide) ?_
  refine lv_istore_n (lv' := [(3, .int 0), (0, .ref v0), (1, .int v1), (2, .int v2)]) hx hb dX0_weekSum_1 rfl hl (by decide) rfl (fun ls hl => ?_)
  refine lv_iconst (v := 0) hx hb dX0_weekSum_2 (by decide) ?_
  refine lv_istore (lv' := [(4, .int 0), (3, .int 0), (0, .ref v0), (1, .int v1), (2, .int v2)]) hx hb dX0_weekSum_3 hl (by decide) rfl (fun ls hl => ?_)
  exact k_X0_weekSum_L5 hx hb hr hml hown hts hlocks hin hE hA _ _ _ _ _ _ _ _ _ hrun hR hz hS (lv_sub hl [2, 3, 4, 1, 0] rfl)
/-! X0_dayCost -/
abbrev rm_X0_dayCost : Room := { frames := 1, cells := 0, slots := 0, locals := 21 }
theorem yk_X0_dayCost : m_K yX0_dayCost cX0_dayCost 3 (some .int) 2 := ⟨wm_1_96, wm_0_5, by decide +kernel⟩
theorem ys_X0_dayCost : Cond.instanceMethod yX0_dayCost ∈ wT ∧ Cond.selects RX0 yX0_dayCost yX0_dayCost ∈ wT := ⟨wm_1_94, wm_1_95⟩
set_option maxRecDepth 100000 in
set_option maxHeartbeats 4000000 in
theorem c_X0_dayCost (l : Launch) (D : va_G) (ids : m_I3) (st : m_T) (z : Nat) {h : mH} {v0 : Nat} {v1 : Int32} {v2 : Int32} {r : Int32} (hrun : s_X0_dayCost h v0 v1 v2 = some r) : Met l yX0_dayCost (m_ws yX0_dayCost cX0_dayCost 3 (some .int)) rm_X0_dayCost (mPc D ids st [.ref v0, .int v1, .int v2] h z) (mQi D ids (m_A h z) r h z) rm_X0_dayCost.cells rm_X0_dayCost.slots (m_A h z) := by
  refine mr_of (cc := cX0_dayCost) (maxL := 3) (ret := some .int) (by decide) rfl (Nat.le_of_ble_eq_true rfl) ?_
  intro p e s m below meth c ls hx hb hr hml hown hts hlocks hin hR hE hz hl
  have hA : ∀ q, s.heap.size ≤ q → m_A h z q := fun q hq => Or.inr (by rw [← hz]; exact hq)
  have hS : va_S (m_A h z) s.heap s.heap [] := va_S.rf
  have hl : lv_has ls 3 [(0, .ref v0), (1, .int v1), (2, .int v2)] := hl
  unfold s_X0_dayCost at hrun
  refine lv_aload_n hx hb dX0_dayCost_0 rfl (lv_at hl 0 rfl) ?_
  obtain ⟨x1, hc9, hrun⟩ := m_bind hrun
  refine mr_get (C := RX0) (T := TX0) (N := 9) (ci := 0) hx hb hts (fun w q => m_ws_in (wi_X0 w q)) hown hR rfl 4 (by decide) (hts _ (m_ws_in wm_0_109)) (fun _ h9 => h9) (m_gr_spec hc9) dX0_dayCost_1 ?_
  refine lv_iload_n hx hb dX0_dayCost_4 rfl (lv_at hl 1 rfl) ?_
  refine lv_iload_n hx hb dX0_dayCost_5 rfl (lv_at hl 2 rfl) ?_
  obtain ⟨x6, hc9, hrun⟩ := m_bind hrun
  refine mr_calli (mr_runSN (As := [.int v1, .int v2]) (rest := [.ref x1]) hx hb hml hown hts (c_X7_dayCell l D ids st z hc9) yk_X7_dayCell ys_X7_dayCell (hE.nm (i := 0) rfl) ⟨(Nat.le_of_ble_eq_true rfl), (Nat.le_of_ble_eq_true rfl)⟩ (mr_recvS hR hE hz hS hA) hl.1 rfl (Nat.le_of_ble_eq_true rfl) dX0_dayCost_6 ⟨(Nat.le_of_ble_eq_true rfl), (Nat.le_of_ble_eq_true rfl)⟩) hR hz hS hA (fun H locs hR hz hS => ?_)
  obtain ⟨x9, hc9, hrun⟩ := m_bind hrun
  refine mr_calli (mr_runS (As := [.ref x1, .int x6]) (rest := []) hx hb hml hown hts (c_X1_at l D ids st z hc9) yk_X1_at ys_X1_at wm_0_194 ⟨(Nat.le_of_ble_eq_true rfl), (Nat.le_of_ble_eq_true rfl)⟩ (mr_recvS hR hE hz hS hA) hl.1 rfl (Nat.le_of_ble_eq_true rfl) dX0_dayCost_9 ⟨(Nat.le_of_ble_eq_true rfl), (Nat.le_of_ble_eq_true rfl)⟩) hR hz hS hA (fun H locs hR hz hS => ?_)
  refine lv_aload_n hx hb dX0_dayCost_12 rfl (lv_at hl 0 rfl) ?_
  obtain ⟨x13, hc9, hrun⟩ := m_bind hrun
  refine mr_get (C := RX0) (T := TX0) (N := 9) (ci := 0) hx hb hts (fun w q => m_ws_in (wi_X0 w q)) hown hR rfl 7 (by decide) (hts _ (m_ws_in wm_0_114)) (fun _ h9 => h9) (m_gi_spec hc9) dX0_dayCost_13 ?_
  refine va_mmin hx hb (hml.trans hl.1.symm) hown (hts _ (m_ws_in wm_1_97)) (hts _ (m_ws_in wm_1_98)) (hts _ (m_ws_in wm_0_9)) (hts _ (m_ws_in wm_1_99)) (Nat.le_of_ble_eq_true rfl) (Nat.le_of_ble_eq_true rfl) (Nat.le_of_ble_eq_true rfl) (Nat.le_of_ble_eq_true rfl) dX0_dayCost_16 ?_
  obtain rfl := Option.some.inj hrun
  exact mr_iret hx hb hr hlocks hR hz hS dX0_dayCost_19
/-! X0_weekDaysCost -/
abbrev rm_X0_weekDaysCost : Room := { frames := 2, cells := 0, slots := 0, locals := 43 }
theorem yk_X0_weekDaysCost : m_K yX0_weekDaysCost cX0_weekDaysCost 5 (some .int) 2 := ⟨wm_1_92, wm_0_5, by decide +kernel⟩
theorem ys_X0_weekDaysCost : Cond.instanceMethod yX0_weekDaysCost ∈ wT ∧ Cond.selects RX0 yX0_weekDaysCost yX0_weekDaysCost ∈ wT := ⟨wm_1_90, wm_1_91⟩
set_option maxRecDepth 100000 in
set_option maxHeartbeats 4000000 in
theorem k_X0_weekDaysCost_L5 {p : Program} {l : Launch} {e : Env} {s : State} {m : MethodId} {args : Array Value} {below : List Frame} {meth : Method} {c : Code} {D : va_G} {ids : m_I3} {st : m_T} {A : Nat → Prop} {z : Nat} {r : Int32} (hx : p.tables.exec = Jvm.exec) (hb : c.code = cX0_weekDaysCost) (hr : meth.sig.returnType = some .int) (hml : c.maxLocals = 5) (hown : s.vm.findClass RX0 = some m.cls) (hts : ∀ w ∈ (m_ws yX0_weekDaysCost cX0_weekDaysCost 5 (some .int)), w.before args s = true) (hlocks : meth.locks = false) (hin : meth.name = yX0_weekDaysCost.name) (hE : m_EV st A s s.heap) (hA : ∀ q, s.heap.size ≤ q → A q) {h : mH} : ∀ (n : Nat) (v0 : Nat) (v1 : Int32) (v2 : Int32) (v3 : Int32) (v4 : Int32) (H : Heap) (locs : List Loc) (ls : Array Slot), s_X0_weekDaysCost_L5 h n v0 v1 v2 v3 v4 = some r → Rl D ids A h s H → H.size = z → va_S A s.heap H locs → lv_has ls 5 [(0, .ref v0), (1, .int v1), (2, .int v2), (3, .int v3), (4, .int v4)] → W p l e rm_X0_weekDaysCost s m args below meth c H locs 0 0 (MQ below (mQi D ids A r h z) args s 0 0 A) (F0 m 5 ls []) := by
  intro n
  induction n with
  | zero => intro v0 v1 v2 v3 v4 H locs ls hrun; exact absurd hrun (by intro h9; cases h9)
  | succ n ih =>
    intro v0 v1 v2 v3 v4 H locs ls hrun hR hz hS hl
    rw [s_X0_weekDaysCost_L5] at hrun
    refine lv_iload hx hb dX0_weekDaysCost_5 (lv_at hl 4 rfl) ?_
    refine lv_bipush (v := 7) hx hb dX0_weekDaysCost_7 (by decide) ?_
    refine lv_icmp_ge (tgt := 33) hx hb dX0_weekDaysCost_9 (by decide) (fun hc => ?_) (fun hc => ?_)
    · have hrun := mt_t hrun hc
      refine lv_iload_n hx hb dX0_weekDaysCost_33 rfl (lv_at hl 3 rfl) ?_
      obtain rfl := Option.some.inj hrun
      exact mr_iret hx hb hr hlocks hR hz hS dX0_weekDaysCost_34
    · have hrun := mt_f hrun hc
      refine lv_iload_n hx hb dX0_weekDaysCost_12 rfl (lv_at hl 3 rfl) ?_
      refine lv_aload_n hx hb dX0_weekDaysCost_13 rfl (lv_at hl 0 rfl) ?_
      refine lv_iload_n hx hb dX0_weekDaysCost_14 rfl (lv_at hl 1 rfl) ?_
      refine lv_iload_n hx hb dX0_weekDaysCost_15 rfl (lv_at hl 2 rfl) ?_
      refine lv_bipush (v := 7) hx hb dX0_weekDaysCost_16 (by decide) ?_
      refine lv_imul hx hb dX0_weekDaysCost_18 ?_
      refine lv_iload hx hb dX0_weekDaysCost_19 (lv_at hl 4 rfl) ?_
      refine lv_iadd hx hb dX0_weekDaysCost_21 ?_
      obtain ⟨_, ho9, hrun⟩ := m_bind hrun
      obtain ⟨fs9, ho9⟩ := m_is_spec ho9
      obtain ⟨x22, hc9, hrun⟩ := m_bind hrun
      refine mr_calli (mr_runV (As := [.int v1, .int ((v2 * 7) + v4)]) (rest := [.int v3]) hx hb hml hown hts (c_X0_dayCost l D ids st z hc9) yk_X0_dayCost ys_X0_dayCost wm_1_93 ⟨(Nat.le_of_ble_eq_true rfl), (Nat.le_of_ble_eq_true rfl)⟩ (mr_recv (ci := 0) hR hE hz hS hA rfl ho9) hl.1 rfl (Nat.le_of_ble_eq_true rfl) dX0_weekDaysCost_22 ⟨(Nat.le_of_ble_eq_true rfl), (Nat.le_of_ble_eq_true rfl)⟩) hR hz hS hA (fun H locs hR hz hS => ?_)
      refine lv_iadd hx hb dX0_weekDaysCost_25 ?_
      refine lv_istore_n (lv' := [(3, .int (v3 + x22)), (0, .ref v0), (1, .int v1), (2, .int v2), (4, .int v4)]) hx hb dX0_weekDaysCost_26 rfl hl (by decide) rfl (fun ls hl => ?_)
      refine lv_iinc (v := v4 + 1) (lv' := [(4, .int (v4 + 1)), (3, .int (v3 + x22)), (0, .ref v0), (1, .int v1), (2, .int v2)]) hx hb dX0_weekDaysCost_27 hl (k := 4) rfl rfl (by decide) rfl (fun ls hl => ?_)
      refine lv_goto (tgt := 5) hx hb dX0_weekDaysCost_30 (by decide) ?_
      exact ih _ _ _ _ _ _ _ _ hrun hR hz hS (lv_sub hl [2, 3, 4, 1, 0] rfl)
set_option maxRecDepth 100000 in
set_option maxHeartbeats 4000000 in
theorem c_X0_weekDaysCost (l : Launch) (D : va_G) (ids : m_I3) (st : m_T) (z : Nat) {h : mH} {v0 : Nat} {v1 : Int32} {v2 : Int32} {r : Int32} (hrun : s_X0_weekDaysCost h v0 v1 v2 = some r) : Met l yX0_weekDaysCost (m_ws yX0_weekDaysCost cX0_weekDaysCost 5 (some .int)) rm_X0_weekDaysCost (mPc D ids st [.ref v0, .int v1, .int v2] h z) (mQi D ids (m_A h z) r h z) rm_X0_weekDaysCost.cells rm_X0_weekDaysCost.slots (m_A h z) := by
  refine mr_of (cc := cX0_weekDaysCost) (maxL := 5) (ret := some .int) (by decide) rfl (Nat.le_of_ble_eq_true rfl) ?_
  intro p e s m below meth c ls hx hb hr hml hown hts hlocks hin hR hE hz hl
  have hA : ∀ q, s.heap.size ≤ q → m_A h z q := fun q hq => Or.inr (by rw [← hz]; exact hq)
  have hS : va_S (m_A h z) s.heap s.heap [] := va_S.rf
  have hl : lv_has ls 5 [(0, .ref v0), (1, .int v1), (2, .int v2)] := hl
  unfold s_X0_weekDaysCost at hrun
  refine lv_iconst (v := 0) hx hb dX0_weekDaysCost_0 (by decide) ?_
  refine lv_istore_n (lv' := [(3, .int 0), (0, .ref v0), (1, .int v1), (2, .int v2)]) hx hb dX0_weekDaysCost_1 rfl hl (by decide) rfl (fun ls hl => ?_)
  refine lv_iconst (v := 0) hx hb dX0_weekDaysCost_2 (by decide) ?_
  refine lv_istore (lv' := [(4, .int 0), (3, .int 0), (0, .ref v0), (1, .int v1), (2, .int v2)]) hx hb dX0_weekDaysCost_3 hl (by decide) rfl (fun ls hl => ?_)
  exact k_X0_weekDaysCost_L5 hx hb hr hml hown hts hlocks hin hE hA _ _ _ _ _ _ _ _ _ hrun hR hz hS (lv_sub hl [2, 3, 4, 1, 0] rfl)
/-! X0_weekCost -/
abbrev rm_X0_weekCost : Room := { frames := 3, cells := 0, slots := 0, locals := 67 }
theorem yk_X0_weekCost : m_K yX0_weekCost cX0_weekCost 3 (some .int) 2 := ⟨wm_1_88, wm_0_5, by decide +kernel⟩
theorem ys_X0_weekCost : Cond.instanceMethod yX0_weekCost ∈ wT ∧ Cond.selects RX0 yX0_weekCost yX0_weekCost ∈ wT := ⟨wm_1_86, wm_1_87⟩
set_option maxRecDepth 100000 in
set_option maxHeartbeats 4000000 in
theorem c_X0_weekCost (l : Launch) (D : va_G) (ids : m_I3) (st : m_T) (z : Nat) {h : mH} {v0 : Nat} {v1 : Int32} {v2 : Int32} {r : Int32} (hrun : s_X0_weekCost h v0 v1 v2 = some r) : Met l yX0_weekCost (m_ws yX0_weekCost cX0_weekCost 3 (some .int)) rm_X0_weekCost (mPc D ids st [.ref v0, .int v1, .int v2] h z) (mQi D ids (m_A h z) r h z) rm_X0_weekCost.cells rm_X0_weekCost.slots (m_A h z) := by
  refine mr_of (cc := cX0_weekCost) (maxL := 3) (ret := some .int) (by decide) rfl (Nat.le_of_ble_eq_true rfl) ?_
  intro p e s m below meth c ls hx hb hr hml hown hts hlocks hin hR hE hz hl
  have hA : ∀ q, s.heap.size ≤ q → m_A h z q := fun q hq => Or.inr (by rw [← hz]; exact hq)
  have hS : va_S (m_A h z) s.heap s.heap [] := va_S.rf
  have hl : lv_has ls 3 [(0, .ref v0), (1, .int v1), (2, .int v2)] := hl
  unfold s_X0_weekCost at hrun
  refine lv_aload_n hx hb dX0_weekCost_0 rfl (lv_at hl 0 rfl) ?_
  refine lv_iload_n hx hb dX0_weekCost_1 rfl (lv_at hl 1 rfl) ?_
  refine lv_iload_n hx hb dX0_weekCost_2 rfl (lv_at hl 2 rfl) ?_
  obtain ⟨_, ho9, hrun⟩ := m_bind hrun
  obtain ⟨fs9, ho9⟩ := m_is_spec ho9
  obtain ⟨x3, hc9, hrun⟩ := m_bind hrun
  refine mr_calli (mr_runV (As := [.int v1, .int v2]) (rest := []) hx hb hml hown hts (c_X0_weekDaysCost l D ids st z hc9) yk_X0_weekDaysCost ys_X0_weekDaysCost wm_1_89 ⟨(Nat.le_of_ble_eq_true rfl), (Nat.le_of_ble_eq_true rfl)⟩ (mr_recv (ci := 0) hR hE hz hS hA rfl ho9) hl.1 rfl (Nat.le_of_ble_eq_true rfl) dX0_weekCost_3 ⟨(Nat.le_of_ble_eq_true rfl), (Nat.le_of_ble_eq_true rfl)⟩) hR hz hS hA (fun H locs hR hz hS => ?_)
  refine lv_aload_n hx hb dX0_weekCost_6 rfl (lv_at hl 0 rfl) ?_
  obtain ⟨x7, hc9, hrun⟩ := m_bind hrun
  refine mr_get (C := RX0) (T := TX0) (N := 9) (ci := 0) hx hb hts (fun w q => m_ws_in (wi_X0 w q)) hown hR rfl 8 (by decide) (hts _ (m_ws_in wm_0_115)) (fun _ h9 => h9) (m_gi_spec hc9) dX0_weekCost_7 ?_
  refine va_mmin hx hb (hml.trans hl.1.symm) hown (hts _ (m_ws_in wm_1_97)) (hts _ (m_ws_in wm_1_98)) (hts _ (m_ws_in wm_0_9)) (hts _ (m_ws_in wm_1_99)) (Nat.le_of_ble_eq_true rfl) (Nat.le_of_ble_eq_true rfl) (Nat.le_of_ble_eq_true rfl) (Nat.le_of_ble_eq_true rfl) dX0_weekCost_10 ?_
  obtain rfl := Option.some.inj hrun
  exact mr_iret hx hb hr hlocks hR hz hS dX0_weekCost_13
/-! X7_weekCell -/
abbrev rm_X7_weekCell : Room := { frames := 0, cells := 0, slots := 0, locals := 0 }
theorem yk_X7_weekCell : m_K yX7_weekCell cX7_weekCell 2 (some .int) 2 := ⟨wm_1_129, wm_0_1, by decide +kernel⟩
theorem ys_X7_weekCell : Cond.static yX7_weekCell ∈ wT := wm_1_128
set_option maxRecDepth 100000 in
set_option maxHeartbeats 4000000 in
theorem c_X7_weekCell (l : Launch) (D : va_G) (ids : m_I3) (st : m_T) (z : Nat) {h : mH} {v0 : Int32} {v1 : Int32} {r : Int32} (hrun : s_X7_weekCell h v0 v1 = some r) : Met l yX7_weekCell (m_ws yX7_weekCell cX7_weekCell 2 (some .int)) rm_X7_weekCell (mPc D ids st [.int v0, .int v1] h z) (mQi D ids (m_A h z) r h z) rm_X7_weekCell.cells rm_X7_weekCell.slots (m_A h z) := by
  refine mr_of (cc := cX7_weekCell) (maxL := 2) (ret := some .int) (by decide) rfl (Nat.le_of_ble_eq_true rfl) ?_
  intro p e s m below meth c ls hx hb hr hml hown hts hlocks hin hR hE hz hl
  have hA : ∀ q, s.heap.size ≤ q → m_A h z q := fun q hq => Or.inr (by rw [← hz]; exact hq)
  have hS : va_S (m_A h z) s.heap s.heap [] := va_S.rf
  have hl : lv_has ls 2 [(0, .int v0), (1, .int v1)] := hl
  unfold s_X7_weekCell at hrun
  refine lv_iload_n hx hb dX7_weekCell_0 rfl (lv_at hl 0 rfl) ?_
  refine lv_iconst (v := 4) hx hb dX7_weekCell_1 (by decide) ?_
  refine lv_imul hx hb dX7_weekCell_2 ?_
  refine lv_iload_n hx hb dX7_weekCell_3 rfl (lv_at hl 1 rfl) ?_
  refine lv_iadd hx hb dX7_weekCell_4 ?_
  obtain rfl := Option.some.inj hrun
  exact mr_iret hx hb hr hlocks hR hz hS dX7_weekCell_5
