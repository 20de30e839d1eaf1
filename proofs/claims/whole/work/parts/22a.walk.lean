/-! the machine does it: laid by program -/
/-! X8_in -/
abbrev rm_X8_in : Room := { frames := 0, cells := 0, slots := 0, locals := 0 }
theorem yk_X8_in : m_K yX8_in cX8_in 3 (some .boolean) 3 := ⟨wm_3_89, wm_0_10, by decide +kernel⟩
theorem ys_X8_in : Cond.static yX8_in ∈ wT := wm_3_88
set_option maxRecDepth 100000 in
set_option maxHeartbeats 4000000 in
theorem k_X8_in_b15 {p : Program} {l : Launch} {e : Env} {s : State} {m : MethodId} {args : Array Value} {below : List Frame} {meth : Method} {c : Code} {D : va_G} {ids : m_I3} {st : m_T} {A : Nat → Prop} {z : Nat} {r : Int32} (hx : p.tables.exec = Jvm.exec) (hb : c.code = cX8_in) (hr : meth.sig.returnType = some .boolean) (hml : c.maxLocals = 3) (hown : s.vm.findClass RX8 = some m.cls) (hts : ∀ w ∈ (m_ws yX8_in cX8_in 3 (some .boolean)), w.before args s = true) (hlocks : meth.locks = false) (hin : meth.name = yX8_in.name) (hE : m_EV st A s s.heap) (hA : ∀ q, s.heap.size ≤ q → A q) {h : mH} (t0 : Int32) (H : Heap) (locs : List Loc) (ls : Array Slot) (hrun : s_X8_in_b15 h t0 = some r) (hR : Rl D ids A h s H) (hz : H.size = z) (hS : va_S A s.heap H locs) (hl : lv_has ls 3 []) : W p l e rm_X8_in s m args below meth c H locs 0 0 (MQ below (mQi D ids A r h z) args s 0 0 A) (F0 m 15 ls [.int t0]) := by
  unfold s_X8_in_b15 at hrun
  obtain ⟨w9, hzr, hrun⟩ := m_bind hrun
  obtain rfl := Option.some.inj hrun
  exact mr_zret hzr hx hb hr hlocks hR hz hS dX8_in_15
set_option maxRecDepth 100000 in
set_option maxHeartbeats 4000000 in
theorem k_X8_in_b14 {p : Program} {l : Launch} {e : Env} {s : State} {m : MethodId} {args : Array Value} {below : List Frame} {meth : Method} {c : Code} {D : va_G} {ids : m_I3} {st : m_T} {A : Nat → Prop} {z : Nat} {r : Int32} (hx : p.tables.exec = Jvm.exec) (hb : c.code = cX8_in) (hr : meth.sig.returnType = some .boolean) (hml : c.maxLocals = 3) (hown : s.vm.findClass RX8 = some m.cls) (hts : ∀ w ∈ (m_ws yX8_in cX8_in 3 (some .boolean)), w.before args s = true) (hlocks : meth.locks = false) (hin : meth.name = yX8_in.name) (hE : m_EV st A s s.heap) (hA : ∀ q, s.heap.size ≤ q → A q) {h : mH} (H : Heap) (locs : List Loc) (ls : Array Slot) (hrun : s_X8_in_b14 h  = some r) (hR : Rl D ids A h s H) (hz : H.size = z) (hS : va_S A s.heap H locs) (hl : lv_has ls 3 []) : W p l e rm_X8_in s m args below meth c H locs 0 0 (MQ below (mQi D ids A r h z) args s 0 0 A) (F0 m 14 ls []) := by
  unfold s_X8_in_b14 at hrun
  refine lv_iconst (v := 0) hx hb dX8_in_14 (by decide) ?_
  exact k_X8_in_b15 hx hb hr hml hown hts hlocks hin hE hA _ _ _ _ hrun hR hz hS (lv_sub hl [] rfl)
set_option maxRecDepth 100000 in
set_option maxHeartbeats 4000000 in
theorem c_X8_in (l : Launch) (D : va_G) (ids : m_I3) (st : m_T) (z : Nat) {h : mH} {v0 : Int32} {v1 : Int32} {v2 : Int32} {r : Int32} (hrun : s_X8_in h v0 v1 v2 = some r) : Met l yX8_in (m_ws yX8_in cX8_in 3 (some .boolean)) rm_X8_in (mPc D ids st [.int v0, .int v1, .int v2] h z) (mQi D ids (m_A h z) r h z) rm_X8_in.cells rm_X8_in.slots (m_A h z) := by
  refine mr_of (cc := cX8_in) (maxL := 3) (ret := some .boolean) (by decide) rfl (Nat.le_of_ble_eq_true rfl) ?_
  intro p e s m below meth c ls hx hb hr hml hown hts hlocks hin hR hE hz hl
  have hA : ∀ q, s.heap.size ≤ q → m_A h z q := fun q hq => Or.inr (by rw [← hz]; exact hq)
  have hS : va_S (m_A h z) s.heap s.heap [] := va_S.rf
  have hl : lv_has ls 3 [(0, .int v0), (1, .int v1), (2, .int v2)] := hl
  unfold s_X8_in at hrun
  refine lv_iload_n hx hb dX8_in_0 rfl (lv_at hl 0 rfl) ?_
  refine lv_iload_n hx hb dX8_in_1 rfl (lv_at hl 1 rfl) ?_
  refine lv_icmp_lt (tgt := 14) hx hb dX8_in_2 (by decide) (fun hc => ?_) (fun hc => ?_)
  · have hrun := mt_t hrun hc
    exact k_X8_in_b14 hx hb hr hml hown hts hlocks hin hE hA _ _ _ hrun hR hz hS (lv_sub hl [] rfl)
  · have hrun := mt_f hrun hc
    refine lv_iload_n hx hb dX8_in_5 rfl (lv_at hl 0 rfl) ?_
    refine lv_iload_n hx hb dX8_in_6 rfl (lv_at hl 2 rfl) ?_
    refine lv_icmp_gt (tgt := 14) hx hb dX8_in_7 (by decide) (fun hc => ?_) (fun hc => ?_)
    · have hrun := mt_t hrun hc
      exact k_X8_in_b14 hx hb hr hml hown hts hlocks hin hE hA _ _ _ hrun hR hz hS (lv_sub hl [] rfl)
    · have hrun := mt_f hrun hc
      refine lv_iconst (v := 1) hx hb dX8_in_10 (by decide) ?_
      refine lv_goto (tgt := 15) hx hb dX8_in_11 (by decide) ?_
      exact k_X8_in_b15 hx hb hr hml hown hts hlocks hin hE hA _ _ _ _ hrun hR hz hS (lv_sub hl [] rfl)
/-! X8_isTap -/
abbrev rm_X8_isTap : Room := { frames := 1, cells := 0, slots := 0, locals := 22 }
theorem yk_X8_isTap : m_K yX8_isTap cX8_isTap 2 (some .boolean) 1 := ⟨wm_3_117, wm_0_10, by decide +kernel⟩
theorem ys_X8_isTap : Cond.instanceMethod yX8_isTap ∈ wT ∧ Cond.selects RX8 yX8_isTap yX8_isTap ∈ wT := ⟨wm_3_116, wp_1_13⟩
set_option maxRecDepth 100000 in
set_option maxHeartbeats 4000000 in
theorem c_X8_isTap (l : Launch) (D : va_G) (ids : m_I3) (st : m_T) (z : Nat) {h : mH} {v0 : Nat} {v1 : Int32} {r : Int32} (hrun : s_X8_isTap h v0 v1 = some r) : Met l yX8_isTap (m_ws yX8_isTap cX8_isTap 2 (some .boolean)) rm_X8_isTap (mPc D ids st [.ref v0, .int v1] h z) (mQi D ids (m_A h z) r h z) rm_X8_isTap.cells rm_X8_isTap.slots (m_A h z) := by
  refine mr_of (cc := cX8_isTap) (maxL := 2) (ret := some .boolean) (by decide) rfl (Nat.le_of_ble_eq_true rfl) ?_
  intro p e s m below meth c ls hx hb hr hml hown hts hlocks hin hR hE hz hl
  have hA : ∀ q, s.heap.size ≤ q → m_A h z q := fun q hq => Or.inr (by rw [← hz]; exact hq)
  have hS : va_S (m_A h z) s.heap s.heap [] := va_S.rf
  have hl : lv_has ls 2 [(0, .ref v0), (1, .int v1)] := hl
  unfold s_X8_isTap at hrun
  refine lv_iload_n hx hb dX8_isTap_0 rfl (lv_at hl 1 rfl) ?_
  refine lv_iconst (v := 0) hx hb dX8_isTap_1 (by decide) ?_
  refine lv_aload_n hx hb dX8_isTap_2 rfl (lv_at hl 0 rfl) ?_
  obtain ⟨x3, hc9, hrun⟩ := m_bind hrun
  refine mr_get (C := RX8) (T := TX8) (N := 13) (ci := 6) hx hb hts (fun w q => m_ws_in (wi_X8 w q)) hown hR rfl 1 (by decide) (hts _ (m_ws_in wm_3_34)) (fun _ h9 => h9) (m_gr_spec hc9) dX8_isTap_3 ?_
  refine lv_bipush (v := 9) hx hb dX8_isTap_6 (by decide) ?_
  obtain ⟨x8, hc9, hrun⟩ := m_bind hrun
  refine mr_iald hx hb hR hc9 dX8_isTap_8 ?_
  refine lv_iconst (v := 1) hx hb dX8_isTap_9 (by decide) ?_
  refine lv_isub hx hb dX8_isTap_10 ?_
  obtain ⟨x11, hc9, hrun⟩ := m_bind hrun
  refine mr_calli (mr_runS (As := [.int v1, .int 0, .int (x8 - 1)]) (rest := []) hx hb hml hown hts (c_X8_in l D ids st z hc9) yk_X8_in ys_X8_in wm_3_87 ⟨(Nat.le_of_ble_eq_true rfl), (Nat.le_of_ble_eq_true rfl)⟩ (mr_recvS hR hE hz hS hA) hl.1 rfl (Nat.le_of_ble_eq_true rfl) dX8_isTap_11 ⟨(Nat.le_of_ble_eq_true rfl), (Nat.le_of_ble_eq_true rfl)⟩) hR hz hS hA (fun H locs hR hz hS => ?_)
  obtain ⟨w9, hzr, hrun⟩ := m_bind hrun
  obtain rfl := Option.some.inj hrun
  exact mr_zret hzr hx hb hr hlocks hR hz hS dX8_isTap_14
/-! X8_fails -/
abbrev rm_X8_fails : Room := { frames := 0, cells := 0, slots := 0, locals := 0 }
theorem yk_X8_fails : m_K yX8_fails cX8_fails 2 (some .int) 1 := ⟨wm_3_93, wm_0_10, by decide +kernel⟩
theorem ys_X8_fails : Cond.instanceMethod yX8_fails ∈ wT ∧ Cond.selects RX8 yX8_fails yX8_fails ∈ wT := ⟨wm_3_92, wp_1_8⟩
set_option maxRecDepth 100000 in
set_option maxHeartbeats 4000000 in
theorem c_X8_fails (l : Launch) (D : va_G) (ids : m_I3) (st : m_T) (z : Nat) {h : mH} {v0 : Nat} {v1 : Int32} {r : Int32} {hF : mH} (hrun : s_X8_fails h v0 v1 = some (r, hF)) : Met l yX8_fails (m_ws yX8_fails cX8_fails 2 (some .int)) rm_X8_fails (mPc D ids st [.ref v0, .int v1] h z) (mQi D ids (m_A h z) r hF z) rm_X8_fails.cells rm_X8_fails.slots (m_A h z) := by
  refine mr_of (cc := cX8_fails) (maxL := 2) (ret := some .int) (by decide) rfl (Nat.le_of_ble_eq_true rfl) ?_
  intro p e s m below meth c ls hx hb hr hml hown hts hlocks hin hR hE hz hl
  have hA : ∀ q, s.heap.size ≤ q → m_A h z q := fun q hq => Or.inr (by rw [← hz]; exact hq)
  have hS : va_S (m_A h z) s.heap s.heap [] := va_S.rf
  have hl : lv_has ls 2 [(0, .ref v0), (1, .int v1)] := hl
  unfold s_X8_fails at hrun
  refine lv_aload_n hx hb dX8_fails_0 rfl (lv_at hl 0 rfl) ?_
  refine lv_iload_n hx hb dX8_fails_1 rfl (lv_at hl 1 rfl) ?_
  obtain ⟨h2, hc9, hrun⟩ := m_bind hrun
  refine mr_put (C := RX8) (T := TX8) (N := 13) (ci := 6) hx hb hts (fun w q => m_ws_in (wi_X8 w q)) tyX8 tyX8_ok nmX8 hown hR hz hS rfl 0 (by decide) (hts _ (m_ws_in wm_3_33)) (fun _ h9 => h9) rfl (tyX8_ok 0 (by decide)) rfl rfl hc9 dX8_fails_2 (fun H locs hR hz hS => ?_)
  refine lv_iconst (v := 0) hx hb dX8_fails_5 (by decide) ?_
  obtain ⟨rfl, rfl⟩ := Prod.mk.inj (Option.some.inj hrun)
  exact mr_iret hx hb hr hlocks hR hz hS dX8_fails_6
/-! X8_saves -/
abbrev rm_X8_saves : Room := { frames := 0, cells := 0, slots := 0, locals := 0 }
theorem yk_X8_saves : m_K yX8_saves cX8_saves 2 (none) 0 := ⟨wm_3_97, wm_0_10, by decide +kernel⟩
theorem ys_X8_saves : Cond.instanceMethod yX8_saves ∈ wT ∧ Cond.selects RX8 yX8_saves yX8_saves ∈ wT := ⟨wm_3_96, wp_1_9⟩
set_option maxRecDepth 100000 in
set_option maxHeartbeats 4000000 in
theorem k_X8_saves_L52 {p : Program} {l : Launch} {e : Env} {s : State} {m : MethodId} {args : Array Value} {below : List Frame} {meth : Method} {c : Code} {D : va_G} {ids : m_I3} {st : m_T} {A : Nat → Prop} {z : Nat} {hF : mH} (hx : p.tables.exec = Jvm.exec) (hb : c.code = cX8_saves) (hr : meth.sig.returnType = none) (hml : c.maxLocals = 2) (hown : s.vm.findClass RX8 = some m.cls) (hts : ∀ w ∈ (m_ws yX8_saves cX8_saves 2 (none)), w.before args s = true) (hlocks : meth.locks = false) (hin : meth.name = yX8_saves.name) (hE : m_EV st A s s.heap) (hA : ∀ q, s.heap.size ≤ q → A q) : ∀ (n : Nat) (h : mH) (v0 : Nat) (v1 : Int32) (H : Heap) (locs : List Loc) (ls : Array Slot), s_X8_saves_L52 n h v0 v1 = some hF → Rl D ids A h s H → H.size = z → va_S A s.heap H locs → lv_has ls 2 [(0, .ref v0), (1, .int v1)] → W p l e rm_X8_saves s m args below meth c H locs 0 0 (MQ below (mQv D ids A hF z) args s 0 0 A) (F0 m 52 ls []) := by
  intro n
  induction n with
  | zero => intro h v0 v1 H locs ls hrun; exact absurd hrun (by intro h9; cases h9)
  | succ n ih =>
    intro h v0 v1 H locs ls hrun hR hz hS hl
    rw [s_X8_saves_L52] at hrun
    refine lv_iload_n hx hb dX8_saves_52 rfl (lv_at hl 1 rfl) ?_
    refine lv_sipush (v := 492) hx hb dX8_saves_53 (by decide) ?_
    refine lv_icmp_ge (tgt := 86) hx hb dX8_saves_56 (by decide) (fun hc => ?_) (fun hc => ?_)
    · have hrun := mt_t hrun hc
      refine lv_aload_n hx hb dX8_saves_86 rfl (lv_at hl 0 rfl) ?_
      refine lv_dup hx hb dX8_saves_87 rfl ?_
      obtain ⟨x88, hc9, hrun⟩ := m_bind hrun
      refine mr_get (C := RX8) (T := TX8) (N := 13) (ci := 6) hx hb hts (fun w q => m_ws_in (wi_X8 w q)) hown hR rfl 4 (by decide) (hts _ (m_ws_in wm_3_37)) (fun _ h9 => h9) (m_gi_spec hc9) dX8_saves_88 ?_
      refine lv_iconst (v := 1) hx hb dX8_saves_91 (by decide) ?_
      refine lv_iadd hx hb dX8_saves_92 ?_
      obtain ⟨h93, hc9, hrun⟩ := m_bind hrun
      refine mr_put (C := RX8) (T := TX8) (N := 13) (ci := 6) hx hb hts (fun w q => m_ws_in (wi_X8 w q)) tyX8 tyX8_ok nmX8 hown hR hz hS rfl 4 (by decide) (hts _ (m_ws_in wm_3_37)) (fun _ h9 => h9) rfl (tyX8_ok 4 (by decide)) rfl rfl hc9 dX8_saves_93 (fun H locs hR hz hS => ?_)
      obtain rfl := Option.some.inj hrun
      exact mr_vret hx hb hr hlocks hR hz hS dX8_saves_96
    · have hrun := mt_f hrun hc
      refine lv_aload_n hx hb dX8_saves_59 rfl (lv_at hl 0 rfl) ?_
      obtain ⟨x60, hc9, hrun⟩ := m_bind hrun
      refine mr_get (C := RX8) (T := TX8) (N := 13) (ci := 6) hx hb hts (fun w q => m_ws_in (wi_X8 w q)) hown hR rfl 3 (by decide) (hts _ (m_ws_in wm_3_36)) (fun _ h9 => h9) (m_gr_spec hc9) dX8_saves_60 ?_
      refine lv_sipush (v := 492) hx hb dX8_saves_63 (by decide) ?_
      refine lv_aload_n hx hb dX8_saves_66 rfl (lv_at hl 0 rfl) ?_
      obtain ⟨x67, hc9, hrun⟩ := m_bind hrun
      refine mr_get (C := RX8) (T := TX8) (N := 13) (ci := 6) hx hb hts (fun w q => m_ws_in (wi_X8 w q)) hown hR rfl 4 (by decide) (hts _ (m_ws_in wm_3_37)) (fun _ h9 => h9) (m_gi_spec hc9) dX8_saves_67 ?_
      refine lv_imul hx hb dX8_saves_70 ?_
      refine lv_iload_n hx hb dX8_saves_71 rfl (lv_at hl 1 rfl) ?_
      refine lv_iadd hx hb dX8_saves_72 ?_
      refine lv_aload_n hx hb dX8_saves_73 rfl (lv_at hl 0 rfl) ?_
      obtain ⟨x74, hc9, hrun⟩ := m_bind hrun
      refine mr_get (C := RX8) (T := TX8) (N := 13) (ci := 6) hx hb hts (fun w q => m_ws_in (wi_X8 w q)) hown hR rfl 1 (by decide) (hts _ (m_ws_in wm_3_34)) (fun _ h9 => h9) (m_gr_spec hc9) dX8_saves_74 ?_
      refine lv_iload_n hx hb dX8_saves_77 rfl (lv_at hl 1 rfl) ?_
      obtain ⟨x78, hc9, hrun⟩ := m_bind hrun
      refine mr_iald hx hb hR hc9 dX8_saves_78 ?_
      obtain ⟨h79, hc9, hrun⟩ := m_bind hrun
      refine mr_iast hx hb hR hz hS hc9 dX8_saves_79 (fun H locs hR hz hS => ?_)
      refine lv_iinc (v := v1 + 1) (lv' := [(1, .int (v1 + 1)), (0, .ref v0)]) hx hb dX8_saves_80 hl (k := 1) rfl rfl (by decide) rfl (fun ls hl => ?_)
      refine lv_goto (tgt := 52) hx hb dX8_saves_83 (by decide) ?_
      exact ih _ _ _ _ _ _ hrun hR hz hS (lv_sub hl [1, 0] rfl)
set_option maxRecDepth 100000 in
set_option maxHeartbeats 4000000 in
theorem k_X8_saves_b50 {p : Program} {l : Launch} {e : Env} {s : State} {m : MethodId} {args : Array Value} {below : List Frame} {meth : Method} {c : Code} {D : va_G} {ids : m_I3} {st : m_T} {A : Nat → Prop} {z : Nat} {hF : mH} (hx : p.tables.exec = Jvm.exec) (hb : c.code = cX8_saves) (hr : meth.sig.returnType = none) (hml : c.maxLocals = 2) (hown : s.vm.findClass RX8 = some m.cls) (hts : ∀ w ∈ (m_ws yX8_saves cX8_saves 2 (none)), w.before args s = true) (hlocks : meth.locks = false) (hin : meth.name = yX8_saves.name) (hE : m_EV st A s s.heap) (hA : ∀ q, s.heap.size ≤ q → A q) (h : mH) (v0 : Nat) (H : Heap) (locs : List Loc) (ls : Array Slot) (hrun : s_X8_saves_b50 h v0 = some hF) (hR : Rl D ids A h s H) (hz : H.size = z) (hS : va_S A s.heap H locs) (hl : lv_has ls 2 [(0, .ref v0)]) : W p l e rm_X8_saves s m args below meth c H locs 0 0 (MQ below (mQv D ids A hF z) args s 0 0 A) (F0 m 50 ls []) := by
  unfold s_X8_saves_b50 at hrun
  refine lv_iconst (v := 0) hx hb dX8_saves_50 (by decide) ?_
  refine lv_istore_n (lv' := [(1, .int 0), (0, .ref v0)]) hx hb dX8_saves_51 rfl hl (by decide) rfl (fun ls hl => ?_)
  exact k_X8_saves_L52 hx hb hr hml hown hts hlocks hin hE hA _ _ _ _ _ _ _ hrun hR hz hS (lv_sub hl [1, 0] rfl)
set_option maxRecDepth 100000 in
set_option maxHeartbeats 4000000 in
theorem k_X8_saves_L11 {p : Program} {l : Launch} {e : Env} {s : State} {m : MethodId} {args : Array Value} {below : List Frame} {meth : Method} {c : Code} {D : va_G} {ids : m_I3} {st : m_T} {A : Nat → Prop} {z : Nat} {hF : mH} (hx : p.tables.exec = Jvm.exec) (hb : c.code = cX8_saves) (hr : meth.sig.returnType = none) (hml : c.maxLocals = 2) (hown : s.vm.findClass RX8 = some m.cls) (hts : ∀ w ∈ (m_ws yX8_saves cX8_saves 2 (none)), w.before args s = true) (hlocks : meth.locks = false) (hin : meth.name = yX8_saves.name) (hE : m_EV st A s s.heap) (hA : ∀ q, s.heap.size ≤ q → A q) : ∀ (n : Nat) (h : mH) (v0 : Nat) (v1 : Int32) (H : Heap) (locs : List Loc) (ls : Array Slot), s_X8_saves_L11 n h v0 v1 = some hF → Rl D ids A h s H → H.size = z → va_S A s.heap H locs → lv_has ls 2 [(0, .ref v0), (1, .int v1)] → W p l e rm_X8_saves s m args below meth c H locs 0 0 (MQ below (mQv D ids A hF z) args s 0 0 A) (F0 m 11 ls []) := by
  intro n
  induction n with
  | zero => intro h v0 v1 H locs ls hrun; exact absurd hrun (by intro h9; cases h9)
  | succ n ih =>
    intro h v0 v1 H locs ls hrun hR hz hS hl
    rw [s_X8_saves_L11] at hrun
    refine lv_iload_n hx hb dX8_saves_11 rfl (lv_at hl 1 rfl) ?_
    refine lv_sipush (v := 2460) hx hb dX8_saves_12 (by decide) ?_
    refine lv_icmp_ge (tgt := 40) hx hb dX8_saves_15 (by decide) (fun hc => ?_) (fun hc => ?_)
    · have hrun := mt_t hrun hc
      refine lv_aload_n hx hb dX8_saves_40 rfl (lv_at hl 0 rfl) ?_
      refine lv_dup hx hb dX8_saves_41 rfl ?_
      obtain ⟨x42, hc9, hrun⟩ := m_bind hrun
      refine mr_get (C := RX8) (T := TX8) (N := 13) (ci := 6) hx hb hts (fun w q => m_ws_in (wi_X8 w q)) hown hR rfl 4 (by decide) (hts _ (m_ws_in wm_3_37)) (fun _ h9 => h9) (m_gi_spec hc9) dX8_saves_42 ?_
      refine lv_iconst (v := 1) hx hb dX8_saves_45 (by decide) ?_
      refine lv_isub hx hb dX8_saves_46 ?_
      obtain ⟨h47, hc9, hrun⟩ := m_bind hrun
      refine mr_put (C := RX8) (T := TX8) (N := 13) (ci := 6) hx hb hts (fun w q => m_ws_in (wi_X8 w q)) tyX8 tyX8_ok nmX8 hown hR hz hS rfl 4 (by decide) (hts _ (m_ws_in wm_3_37)) (fun _ h9 => h9) rfl (tyX8_ok 4 (by decide)) rfl rfl hc9 dX8_saves_47 (fun H locs hR hz hS => ?_)
      exact k_X8_saves_b50 hx hb hr hml hown hts hlocks hin hE hA _ _ _ _ _ hrun hR hz hS (lv_sub hl [0] rfl)
    · have hrun := mt_f hrun hc
      refine lv_aload_n hx hb dX8_saves_18 rfl (lv_at hl 0 rfl) ?_
      obtain ⟨x19, hc9, hrun⟩ := m_bind hrun
      refine mr_get (C := RX8) (T := TX8) (N := 13) (ci := 6) hx hb hts (fun w q => m_ws_in (wi_X8 w q)) hown hR rfl 3 (by decide) (hts _ (m_ws_in wm_3_36)) (fun _ h9 => h9) (m_gr_spec hc9) dX8_saves_19 ?_
      refine lv_iload_n hx hb dX8_saves_22 rfl (lv_at hl 1 rfl) ?_
      refine lv_aload_n hx hb dX8_saves_23 rfl (lv_at hl 0 rfl) ?_
      obtain ⟨x24, hc9, hrun⟩ := m_bind hrun
      refine mr_get (C := RX8) (T := TX8) (N := 13) (ci := 6) hx hb hts (fun w q => m_ws_in (wi_X8 w q)) hown hR rfl 3 (by decide) (hts _ (m_ws_in wm_3_36)) (fun _ h9 => h9) (m_gr_spec hc9) dX8_saves_24 ?_
      refine lv_iload_n hx hb dX8_saves_27 rfl (lv_at hl 1 rfl) ?_
      refine lv_sipush (v := 492) hx hb dX8_saves_28 (by decide) ?_
      refine lv_iadd hx hb dX8_saves_31 ?_
      obtain ⟨x32, hc9, hrun⟩ := m_bind hrun
      refine mr_iald hx hb hR hc9 dX8_saves_32 ?_
      obtain ⟨h33, hc9, hrun⟩ := m_bind hrun
      refine mr_iast hx hb hR hz hS hc9 dX8_saves_33 (fun H locs hR hz hS => ?_)
      refine lv_iinc (v := v1 + 1) (lv' := [(1, .int (v1 + 1)), (0, .ref v0)]) hx hb dX8_saves_34 hl (k := 1) rfl rfl (by decide) rfl (fun ls hl => ?_)
      refine lv_goto (tgt := 11) hx hb dX8_saves_37 (by decide) ?_
      exact ih _ _ _ _ _ _ hrun hR hz hS (lv_sub hl [1, 0] rfl)
set_option maxRecDepth 100000 in
set_option maxHeartbeats 4000000 in
theorem c_X8_saves (l : Launch) (D : va_G) (ids : m_I3) (st : m_T) (z : Nat) {h : mH} {v0 : Nat} {hF : mH} (hrun : s_X8_saves h v0 = some hF) : Met l yX8_saves (m_ws yX8_saves cX8_saves 2 (none)) rm_X8_saves (mPc D ids st [.ref v0] h z) (mQv D ids (m_A h z) hF z) rm_X8_saves.cells rm_X8_saves.slots (m_A h z) := by
  refine mr_of (cc := cX8_saves) (maxL := 2) (ret := none) (by decide) rfl (Nat.le_of_ble_eq_true rfl) ?_
  intro p e s m below meth c ls hx hb hr hml hown hts hlocks hin hR hE hz hl
  have hA : ∀ q, s.heap.size ≤ q → m_A h z q := fun q hq => Or.inr (by rw [← hz]; exact hq)
  have hS : va_S (m_A h z) s.heap s.heap [] := va_S.rf
  have hl : lv_has ls 2 [(0, .ref v0)] := hl
  unfold s_X8_saves at hrun
  refine lv_aload_n hx hb dX8_saves_0 rfl (lv_at hl 0 rfl) ?_
  obtain ⟨x1, hc9, hrun⟩ := m_bind hrun
  refine mr_get (C := RX8) (T := TX8) (N := 13) (ci := 6) hx hb hts (fun w q => m_ws_in (wi_X8 w q)) hown hR rfl 4 (by decide) (hts _ (m_ws_in wm_3_37)) (fun _ h9 => h9) (m_gi_spec hc9) dX8_saves_1 ?_
  refine lv_bipush (v := 6) hx hb dX8_saves_4 (by decide) ?_
  refine lv_icmp_ne (tgt := 50) hx hb dX8_saves_6 (by decide) (fun hc => ?_) (fun hc => ?_)
  · have hrun := mt_f hrun hc
    exact k_X8_saves_b50 hx hb hr hml hown hts hlocks hin hE hA _ _ _ _ _ hrun hR hz hS (lv_sub hl [0] rfl)
  · have hrun := mt_t hrun hc
    refine lv_iconst (v := 0) hx hb dX8_saves_9 (by decide) ?_
    refine lv_istore_n (lv' := [(1, .int 0), (0, .ref v0)]) hx hb dX8_saves_10 rfl hl (by decide) rfl (fun ls hl => ?_)
    exact k_X8_saves_L11 hx hb hr hml hown hts hlocks hin hE hA _ _ _ _ _ _ _ hrun hR hz hS (lv_sub hl [1, 0] rfl)
/-! X8_remove -/
abbrev rm_X8_remove : Room := { frames := 2, cells := 0, slots := 0, locals := 43 }
theorem yk_X8_remove : m_K yX8_remove cX8_remove 3 (some .int) 1 := ⟨wm_3_113, wm_0_10, by decide +kernel⟩
theorem ys_X8_remove : Cond.instanceMethod yX8_remove ∈ wT ∧ Cond.selects RX8 yX8_remove yX8_remove ∈ wT := ⟨wm_3_111, wm_3_112⟩
set_option maxRecDepth 100000 in
set_option maxHeartbeats 4000000 in
theorem k_X8_remove_L39 {p : Program} {l : Launch} {e : Env} {s : State} {m : MethodId} {args : Array Value} {below : List Frame} {meth : Method} {c : Code} {D : va_G} {ids : m_I3} {st : m_T} {A : Nat → Prop} {z : Nat} {r : Int32} {hF : mH} (hx : p.tables.exec = Jvm.exec) (hb : c.code = cX8_remove) (hr : meth.sig.returnType = some .int) (hml : c.maxLocals = 3) (hown : s.vm.findClass RX8 = some m.cls) (hts : ∀ w ∈ (m_ws yX8_remove cX8_remove 3 (some .int)), w.before args s = true) (hlocks : meth.locks = false) (hin : meth.name = yX8_remove.name) (hE : m_EV st A s s.heap) (hA : ∀ q, s.heap.size ≤ q → A q) : ∀ (n : Nat) (h : mH) (v0 : Nat) (v2 : Int32) (H : Heap) (locs : List Loc) (ls : Array Slot), s_X8_remove_L39 n h v0 v2 = some (r, hF) → Rl D ids A h s H → H.size = z → va_S A s.heap H locs → lv_has ls 3 [(0, .ref v0), (2, .int v2)] → W p l e rm_X8_remove s m args below meth c H locs 0 0 (MQ below (mQi D ids A r hF z) args s 0 0 A) (F0 m 39 ls []) := by
  intro n
  induction n with
  | zero => intro h v0 v2 H locs ls hrun; exact absurd hrun (by intro h9; cases h9)
  | succ n ih =>
    intro h v0 v2 H locs ls hrun hR hz hS hl
    rw [s_X8_remove_L39] at hrun
    refine lv_iload_n hx hb dX8_remove_39 rfl (lv_at hl 1 rfl) ?_
    refine lv_bipush (v := 6) hx hb dX8_remove_40 (by decide) ?_
    refine lv_aload_n hx hb dX8_remove_42 rfl (lv_at hl 0 rfl) ?_
    obtain ⟨x43, hc9, hrun⟩ := m_bind hrun
    refine mr_get (C := RX8) (T := TX8) (N := 13) (ci := 6) hx hb hts (fun w q => m_ws_in (wi_X8 w q)) hown hR rfl 1 (by decide) (hts _ (m_ws_in wm_3_34)) (fun _ h9 => h9) (m_gr_spec hc9) dX8_remove_43 ?_
    refine lv_bipush (v := 9) hx hb dX8_remove_46 (by decide) ?_
    obtain ⟨x48, hc9, hrun⟩ := m_bind hrun
    refine mr_iald hx hb hR hc9 dX8_remove_48 ?_
    refine lv_imul hx hb dX8_remove_49 ?_
    refine lv_icmp_ge (tgt := 80) hx hb dX8_remove_50 (by decide) (fun hc => ?_) (fun hc => ?_)
    · have hrun := mt_t hrun hc
      refine lv_aload_n hx hb dX8_remove_80 rfl (lv_at hl 0 rfl) ?_
      obtain ⟨x81, hc9, hrun⟩ := m_bind hrun
      refine mr_get (C := RX8) (T := TX8) (N := 13) (ci := 6) hx hb hts (fun w q => m_ws_in (wi_X8 w q)) hown hR rfl 1 (by decide) (hts _ (m_ws_in wm_3_34)) (fun _ h9 => h9) (m_gr_spec hc9) dX8_remove_81 ?_
      refine lv_bipush (v := 9) hx hb dX8_remove_84 (by decide) ?_
      obtain ⟨x86, hc9, hrun⟩ := m_bind hrun
      refine mr_iald hx hb hR hc9 dX8_remove_86 ?_
      obtain ⟨rfl, rfl⟩ := Prod.mk.inj (Option.some.inj hrun)
      exact mr_iret hx hb hr hlocks hR hz hS dX8_remove_87
    · have hrun := mt_f hrun hc
      refine lv_aload_n hx hb dX8_remove_53 rfl (lv_at hl 0 rfl) ?_
      obtain ⟨x54, hc9, hrun⟩ := m_bind hrun
      refine mr_get (C := RX8) (T := TX8) (N := 13) (ci := 6) hx hb hts (fun w q => m_ws_in (wi_X8 w q)) hown hR rfl 1 (by decide) (hts _ (m_ws_in wm_3_34)) (fun _ h9 => h9) (m_gr_spec hc9) dX8_remove_54 ?_
      refine lv_bipush (v := 10) hx hb dX8_remove_57 (by decide) ?_
      refine lv_iload_n hx hb dX8_remove_59 rfl (lv_at hl 1 rfl) ?_
      refine lv_iadd hx hb dX8_remove_60 ?_
      refine lv_aload_n hx hb dX8_remove_61 rfl (lv_at hl 0 rfl) ?_
      obtain ⟨x62, hc9, hrun⟩ := m_bind hrun
      refine mr_get (C := RX8) (T := TX8) (N := 13) (ci := 6) hx hb hts (fun w q => m_ws_in (wi_X8 w q)) hown hR rfl 1 (by decide) (hts _ (m_ws_in wm_3_34)) (fun _ h9 => h9) (m_gr_spec hc9) dX8_remove_62 ?_
      refine lv_bipush (v := 10) hx hb dX8_remove_65 (by decide) ?_
      refine lv_iload_n hx hb dX8_remove_67 rfl (lv_at hl 1 rfl) ?_
      refine lv_iadd hx hb dX8_remove_68 ?_
      refine lv_bipush (v := 6) hx hb dX8_remove_69 (by decide) ?_
      refine lv_iadd hx hb dX8_remove_71 ?_
      obtain ⟨x72, hc9, hrun⟩ := m_bind hrun
      refine mr_iald hx hb hR hc9 dX8_remove_72 ?_
      obtain ⟨h73, hc9, hrun⟩ := m_bind hrun
      refine mr_iast hx hb hR hz hS hc9 dX8_remove_73 (fun H locs hR hz hS => ?_)
      refine lv_iinc (v := v2 + 1) (lv' := [(2, .int (v2 + 1)), (0, .ref v0)]) hx hb dX8_remove_74 hl (k := 1) rfl rfl (by decide) rfl (fun ls hl => ?_)
      refine lv_goto (tgt := 39) hx hb dX8_remove_77 (by decide) ?_
      exact ih _ _ _ _ _ _ hrun hR hz hS (lv_sub hl [1, 0] rfl)
set_option maxRecDepth 100000 in
set_option maxHeartbeats 4000000 in
theorem c_X8_remove (l : Launch) (D : va_G) (ids : m_I3) (st : m_T) (z : Nat) {h : mH} {v0 : Nat} {v1 : Int32} {r : Int32} {hF : mH} (hrun : s_X8_remove h v0 v1 = some (r, hF)) : Met l yX8_remove (m_ws yX8_remove cX8_remove 3 (some .int)) rm_X8_remove (mPc D ids st [.ref v0, .int v1] h z) (mQi D ids (m_A h z) r hF z) rm_X8_remove.cells rm_X8_remove.slots (m_A h z) := by
  refine mr_of (cc := cX8_remove) (maxL := 3) (ret := some .int) (by decide) rfl (Nat.le_of_ble_eq_true rfl) ?_
  intro p e s m below meth c ls hx hb hr hml hown hts hlocks hin hR hE hz hl
  have hA : ∀ q, s.heap.size ≤ q → m_A h z q := fun q hq => Or.inr (by rw [← hz]; exact hq)
  have hS : va_S (m_A h z) s.heap s.heap [] := va_S.rf
  have hl : lv_has ls 3 [(0, .ref v0), (1, .int v1)] := hl
  unfold s_X8_remove at hrun
  refine lv_aload_n hx hb dX8_remove_0 rfl (lv_at hl 0 rfl) ?_
  refine lv_iconst (v := 0) hx hb dX8_remove_1 (by decide) ?_
  obtain ⟨h2, hc9, hrun⟩ := m_bind hrun
  refine mr_put (C := RX8) (T := TX8) (N := 13) (ci := 6) hx hb hts (fun w q => m_ws_in (wi_X8 w q)) tyX8 tyX8_ok nmX8 hown hR hz hS rfl 0 (by decide) (hts _ (m_ws_in wm_3_33)) (fun _ h9 => h9) rfl (tyX8_ok 0 (by decide)) rfl rfl hc9 dX8_remove_2 (fun H locs hR hz hS => ?_)
  refine lv_aload_n hx hb dX8_remove_5 rfl (lv_at hl 0 rfl) ?_
  refine lv_iload_n hx hb dX8_remove_6 rfl (lv_at hl 1 rfl) ?_
  obtain ⟨_, ho9, hrun⟩ := m_bind hrun
  obtain ⟨fs9, ho9⟩ := m_is_spec ho9
  obtain ⟨x7, hc9, hrun⟩ := m_bind hrun
  refine mr_calli (mr_runV (As := [.int v1]) (rest := []) hx hb hml hown hts (c_X8_isTap l D ids st z hc9) yk_X8_isTap ys_X8_isTap wm_3_114 ⟨(Nat.le_of_ble_eq_true rfl), (Nat.le_of_ble_eq_true rfl)⟩ (mr_recv (ci := 6) hR hE hz hS hA rfl ho9) hl.1 rfl (Nat.le_of_ble_eq_true rfl) dX8_remove_7 ⟨(Nat.le_of_ble_eq_true rfl), (Nat.le_of_ble_eq_true rfl)⟩) hR hz hS hA (fun H locs hR hz hS => ?_)
  refine lv_if_ne (tgt := 19) hx hb dX8_remove_10 (by decide) (fun hc => ?_) (fun hc => ?_)
  · have hrun := mt_f hrun hc
    refine lv_aload_n hx hb dX8_remove_19 rfl (lv_at hl 0 rfl) ?_
    obtain ⟨_, ho9, hrun⟩ := m_bind hrun
    obtain ⟨fs9, ho9⟩ := m_is_spec ho9
    obtain ⟨h20, hc9, hrun⟩ := m_bind hrun
    refine mr_callv (mr_runV (As := []) (rest := []) hx hb hml hown hts (c_X8_saves l D ids st z hc9) yk_X8_saves ys_X8_saves wm_3_94 ⟨(Nat.le_of_ble_eq_true rfl), (Nat.le_of_ble_eq_true rfl)⟩ (mr_recv (ci := 6) hR hE hz hS hA rfl ho9) hl.1 rfl (Nat.le_of_ble_eq_true rfl) dX8_remove_20 ⟨(Nat.le_of_ble_eq_true rfl), (Nat.le_of_ble_eq_true rfl)⟩) hR hz hS hA (fun H locs hR hz hS => ?_)
    refine lv_aload_n hx hb dX8_remove_23 rfl (lv_at hl 0 rfl) ?_
    obtain ⟨x24, hc9, hrun⟩ := m_bind hrun
    refine mr_get (C := RX8) (T := TX8) (N := 13) (ci := 6) hx hb hts (fun w q => m_ws_in (wi_X8 w q)) hown hR rfl 1 (by decide) (hts _ (m_ws_in wm_3_34)) (fun _ h9 => h9) (m_gr_spec hc9) dX8_remove_24 ?_
    refine lv_bipush (v := 9) hx hb dX8_remove_27 (by decide) ?_
    refine lv_dup2_11 hx hb dX8_remove_29 rfl rfl ?_
    obtain ⟨x30, hc9, hrun⟩ := m_bind hrun
    refine mr_iald hx hb hR hc9 dX8_remove_30 ?_
    refine lv_iconst (v := 1) hx hb dX8_remove_31 (by decide) ?_
    refine lv_isub hx hb dX8_remove_32 ?_
    obtain ⟨h33, hc9, hrun⟩ := m_bind hrun
    refine mr_iast hx hb hR hz hS hc9 dX8_remove_33 (fun H locs hR hz hS => ?_)
    refine lv_bipush (v := 6) hx hb dX8_remove_34 (by decide) ?_
    refine lv_iload_n hx hb dX8_remove_36 rfl (lv_at hl 1 rfl) ?_
    refine lv_imul hx hb dX8_remove_37 ?_
    refine lv_istore_n (lv' := [(2, .int (6 * v1)), (0, .ref v0), (1, .int v1)]) hx hb dX8_remove_38 rfl hl (by decide) rfl (fun ls hl => ?_)
    exact k_X8_remove_L39 hx hb hr hml hown hts hlocks hin hE hA _ _ _ _ _ _ _ hrun hR hz hS (lv_sub hl [1, 0] rfl)
  · have hrun := mt_t hrun hc
    refine lv_aload_n hx hb dX8_remove_13 rfl (lv_at hl 0 rfl) ?_
    refine lv_iconst (v := 1) hx hb dX8_remove_14 (by decide) ?_
    obtain ⟨_, ho9, hrun⟩ := m_bind hrun
    obtain ⟨fs9, ho9⟩ := m_is_spec ho9
    obtain ⟨⟨x15, h15⟩, hc9, hrun⟩ := m_bind hrun
    refine mr_calli (mr_runV (As := [.int 1]) (rest := []) hx hb hml hown hts (c_X8_fails l D ids st z hc9) yk_X8_fails ys_X8_fails wm_3_90 ⟨(Nat.le_of_ble_eq_true rfl), (Nat.le_of_ble_eq_true rfl)⟩ (mr_recv (ci := 6) hR hE hz hS hA rfl ho9) hl.1 rfl (Nat.le_of_ble_eq_true rfl) dX8_remove_15 ⟨(Nat.le_of_ble_eq_true rfl), (Nat.le_of_ble_eq_true rfl)⟩) hR hz hS hA (fun H locs hR hz hS => ?_)
    obtain ⟨rfl, rfl⟩ := Prod.mk.inj (Option.some.inj hrun)
    exact mr_iret hx hb hr hlocks hR hz hS dX8_remove_18
/-! X8_of -/
abbrev rm_X8_of : Room := { frames := 0, cells := 0, slots := 0, locals := 0 }
theorem yk_X8_of : m_K yX8_of cX8_of 3 (some .int) 2 := ⟨wm_3_109, wm_0_10, by decide +kernel⟩
theorem ys_X8_of : Cond.instanceMethod yX8_of ∈ wT ∧ Cond.selects RX8 yX8_of yX8_of ∈ wT := ⟨wm_3_108, wp_1_12⟩
set_option maxRecDepth 100000 in
set_option maxHeartbeats 4000000 in
theorem c_X8_of (l : Launch) (D : va_G) (ids : m_I3) (st : m_T) (z : Nat) {h : mH} {v0 : Nat} {v1 : Int32} {v2 : Int32} {r : Int32} (hrun : s_X8_of h v0 v1 v2 = some r) : Met l yX8_of (m_ws yX8_of cX8_of 3 (some .int)) rm_X8_of (mPc D ids st [.ref v0, .int v1, .int v2] h z) (mQi D ids (m_A h z) r h z) rm_X8_of.cells rm_X8_of.slots (m_A h z) := by
  refine mr_of (cc := cX8_of) (maxL := 3) (ret := some .int) (by decide) rfl (Nat.le_of_ble_eq_true rfl) ?_
  intro p e s m below meth c ls hx hb hr hml hown hts hlocks hin hR hE hz hl
  have hA : ∀ q, s.heap.size ≤ q → m_A h z q := fun q hq => Or.inr (by rw [← hz]; exact hq)
  have hS : va_S (m_A h z) s.heap s.heap [] := va_S.rf
  have hl : lv_has ls 3 [(0, .ref v0), (1, .int v1), (2, .int v2)] := hl
  unfold s_X8_of at hrun
  refine lv_aload_n hx hb dX8_of_0 rfl (lv_at hl 0 rfl) ?_
  obtain ⟨x1, hc9, hrun⟩ := m_bind hrun
  refine mr_get (C := RX8) (T := TX8) (N := 13) (ci := 6) hx hb hts (fun w q => m_ws_in (wi_X8 w q)) hown hR rfl 1 (by decide) (hts _ (m_ws_in wm_3_34)) (fun _ h9 => h9) (m_gr_spec hc9) dX8_of_1 ?_
  refine lv_bipush (v := 10) hx hb dX8_of_4 (by decide) ?_
  refine lv_bipush (v := 6) hx hb dX8_of_6 (by decide) ?_
  refine lv_iload_n hx hb dX8_of_8 rfl (lv_at hl 1 rfl) ?_
  refine lv_imul hx hb dX8_of_9 ?_
  refine lv_iadd hx hb dX8_of_10 ?_
  refine lv_iload_n hx hb dX8_of_11 rfl (lv_at hl 2 rfl) ?_
  refine lv_iadd hx hb dX8_of_12 ?_
  obtain ⟨x13, hc9, hrun⟩ := m_bind hrun
  refine mr_iald hx hb hR hc9 dX8_of_13 ?_
  obtain rfl := Option.some.inj hrun
  exact mr_iret hx hb hr hlocks hR hz hS dX8_of_14
/-! X8_nextOf -/
abbrev rm_X8_nextOf : Room := { frames := 1, cells := 0, slots := 0, locals := 22 }
theorem yk_X8_nextOf : m_K yX8_nextOf cX8_nextOf 3 (some .int) 1 := ⟨wm_3_137, wm_0_10, by decide +kernel⟩
theorem ys_X8_nextOf : Cond.instanceMethod yX8_nextOf ∈ wT ∧ Cond.selects RX8 yX8_nextOf yX8_nextOf ∈ wT := ⟨wm_3_136, wp_2_1⟩
set_option maxRecDepth 100000 in
set_option maxHeartbeats 4000000 in
theorem k_X8_nextOf_b36 {p : Program} {l : Launch} {e : Env} {s : State} {m : MethodId} {args : Array Value} {below : List Frame} {meth : Method} {c : Code} {D : va_G} {ids : m_I3} {st : m_T} {A : Nat → Prop} {z : Nat} {r : Int32} (hx : p.tables.exec = Jvm.exec) (hb : c.code = cX8_nextOf) (hr : meth.sig.returnType = some .int) (hml : c.maxLocals = 3) (hown : s.vm.findClass RX8 = some m.cls) (hts : ∀ w ∈ (m_ws yX8_nextOf cX8_nextOf 3 (some .int)), w.before args s = true) (hlocks : meth.locks = false) (hin : meth.name = yX8_nextOf.name) (hE : m_EV st A s s.heap) (hA : ∀ q, s.heap.size ≤ q → A q) {h : mH} (v2 : Int32) (H : Heap) (locs : List Loc) (ls : Array Slot) (hrun : s_X8_nextOf_b36 h v2 = some r) (hR : Rl D ids A h s H) (hz : H.size = z) (hS : va_S A s.heap H locs) (hl : lv_has ls 3 [(2, .int v2)]) : W p l e rm_X8_nextOf s m args below meth c H locs 0 0 (MQ below (mQi D ids A r h z) args s 0 0 A) (F0 m 36 ls []) := by
  unfold s_X8_nextOf_b36 at hrun
  refine lv_iload_n hx hb dX8_nextOf_36 rfl (lv_at hl 0 rfl) ?_
  obtain rfl := Option.some.inj hrun
  exact mr_iret hx hb hr hlocks hR hz hS dX8_nextOf_37
set_option maxRecDepth 100000 in
set_option maxHeartbeats 4000000 in
theorem k_X8_nextOf_L4 {p : Program} {l : Launch} {e : Env} {s : State} {m : MethodId} {args : Array Value} {below : List Frame} {meth : Method} {c : Code} {D : va_G} {ids : m_I3} {st : m_T} {A : Nat → Prop} {z : Nat} {r : Int32} (hx : p.tables.exec = Jvm.exec) (hb : c.code = cX8_nextOf) (hr : meth.sig.returnType = some .int) (hml : c.maxLocals = 3) (hown : s.vm.findClass RX8 = some m.cls) (hts : ∀ w ∈ (m_ws yX8_nextOf cX8_nextOf 3 (some .int)), w.before args s = true) (hlocks : meth.locks = false) (hin : meth.name = yX8_nextOf.name) (hE : m_EV st A s s.heap) (hA : ∀ q, s.heap.size ≤ q → A q) {h : mH} : ∀ (n : Nat) (v0 : Nat) (v1 : Int32) (v2 : Int32) (H : Heap) (locs : List Loc) (ls : Array Slot), s_X8_nextOf_L4 h n v0 v1 v2 = some r → Rl D ids A h s H → H.size = z → va_S A s.heap H locs → lv_has ls 3 [(0, .ref v0), (1, .int v1), (2, .int v2)] → W p l e rm_X8_nextOf s m args below meth c H locs 0 0 (MQ below (mQi D ids A r h z) args s 0 0 A) (F0 m 4 ls []) := by
  intro n
  induction n with
  | zero => intro v0 v1 v2 H locs ls hrun; exact absurd hrun (by intro h9; cases h9)
  | succ n ih =>
    intro v0 v1 v2 H locs ls hrun hR hz hS hl
    rw [s_X8_nextOf_L4] at hrun
    refine lv_iload_n hx hb dX8_nextOf_4 rfl (lv_at hl 2 rfl) ?_
    refine lv_aload_n hx hb dX8_nextOf_5 rfl (lv_at hl 0 rfl) ?_
    obtain ⟨x6, hc9, hrun⟩ := m_bind hrun
    refine mr_get (C := RX8) (T := TX8) (N := 13) (ci := 6) hx hb hts (fun w q => m_ws_in (wi_X8 w q)) hown hR rfl 1 (by decide) (hts _ (m_ws_in wm_3_34)) (fun _ h9 => h9) (m_gr_spec hc9) dX8_nextOf_6 ?_
    refine lv_bipush (v := 9) hx hb dX8_nextOf_9 (by decide) ?_
    obtain ⟨x11, hc9, hrun⟩ := m_bind hrun
    refine mr_iald hx hb hR hc9 dX8_nextOf_11 ?_
    refine lv_icmp_ge (tgt := 36) hx hb dX8_nextOf_12 (by decide) (fun hc => ?_) (fun hc => ?_)
    · have hrun := mt_t hrun hc
      exact k_X8_nextOf_b36 hx hb hr hml hown hts hlocks hin hE hA _ _ _ _ hrun hR hz hS (lv_sub hl [2] rfl)
    · have hrun := mt_f hrun hc
      refine lv_aload_n hx hb dX8_nextOf_15 rfl (lv_at hl 0 rfl) ?_
      refine lv_iload_n hx hb dX8_nextOf_16 rfl (lv_at hl 2 rfl) ?_
      refine lv_iconst (v := 0) hx hb dX8_nextOf_17 (by decide) ?_
      obtain ⟨_, ho9, hrun⟩ := m_bind hrun
      obtain ⟨fs9, ho9⟩ := m_is_spec ho9
      obtain ⟨x18, hc9, hrun⟩ := m_bind hrun
      refine mr_calli (mr_runV (As := [.int v2, .int 0]) (rest := []) hx hb hml hown hts (c_X8_of l D ids st z hc9) yk_X8_of ys_X8_of wm_3_106 ⟨(Nat.le_of_ble_eq_true rfl), (Nat.le_of_ble_eq_true rfl)⟩ (mr_recv (ci := 6) hR hE hz hS hA rfl ho9) hl.1 rfl (Nat.le_of_ble_eq_true rfl) dX8_nextOf_18 ⟨(Nat.le_of_ble_eq_true rfl), (Nat.le_of_ble_eq_true rfl)⟩) hR hz hS hA (fun H locs hR hz hS => ?_)
      refine lv_aload_n hx hb dX8_nextOf_21 rfl (lv_at hl 0 rfl) ?_
      refine lv_iload_n hx hb dX8_nextOf_22 rfl (lv_at hl 1 rfl) ?_
      refine lv_iconst (v := 0) hx hb dX8_nextOf_23 (by decide) ?_
      obtain ⟨_, ho9, hrun⟩ := m_bind hrun
      obtain ⟨fs9, ho9⟩ := m_is_spec ho9
      obtain ⟨x24, hc9, hrun⟩ := m_bind hrun
      refine mr_calli (mr_runV (As := [.int v1, .int 0]) (rest := [.int x18]) hx hb hml hown hts (c_X8_of l D ids st z hc9) yk_X8_of ys_X8_of wm_3_106 ⟨(Nat.le_of_ble_eq_true rfl), (Nat.le_of_ble_eq_true rfl)⟩ (mr_recv (ci := 6) hR hE hz hS hA rfl ho9) hl.1 rfl (Nat.le_of_ble_eq_true rfl) dX8_nextOf_24 ⟨(Nat.le_of_ble_eq_true rfl), (Nat.le_of_ble_eq_true rfl)⟩) hR hz hS hA (fun H locs hR hz hS => ?_)
      refine lv_icmp_eq (tgt := 36) hx hb dX8_nextOf_27 (by decide) (fun hc => ?_) (fun hc => ?_)
      · have hrun := mt_t hrun hc
        exact k_X8_nextOf_b36 hx hb hr hml hown hts hlocks hin hE hA _ _ _ _ hrun hR hz hS (lv_sub hl [2] rfl)
      · have hrun := mt_f hrun hc
        refine lv_iinc (v := v2 + 1) (lv' := [(2, .int (v2 + 1)), (0, .ref v0), (1, .int v1)]) hx hb dX8_nextOf_30 hl (k := 2) rfl rfl (by decide) rfl (fun ls hl => ?_)
        refine lv_goto (tgt := 4) hx hb dX8_nextOf_33 (by decide) ?_
        exact ih _ _ _ _ _ _ hrun hR hz hS (lv_sub hl [1, 2, 0] rfl)
set_option maxRecDepth 100000 in
set_option maxHeartbeats 4000000 in
theorem c_X8_nextOf (l : Launch) (D : va_G) (ids : m_I3) (st : m_T) (z : Nat) {h : mH} {v0 : Nat} {v1 : Int32} {r : Int32} (hrun : s_X8_nextOf h v0 v1 = some r) : Met l yX8_nextOf (m_ws yX8_nextOf cX8_nextOf 3 (some .int)) rm_X8_nextOf (mPc D ids st [.ref v0, .int v1] h z) (mQi D ids (m_A h z) r h z) rm_X8_nextOf.cells rm_X8_nextOf.slots (m_A h z) := by
  refine mr_of (cc := cX8_nextOf) (maxL := 3) (ret := some .int) (by decide) rfl (Nat.le_of_ble_eq_true rfl) ?_
  intro p e s m below meth c ls hx hb hr hml hown hts hlocks hin hR hE hz hl
  have hA : ∀ q, s.heap.size ≤ q → m_A h z q := fun q hq => Or.inr (by rw [← hz]; exact hq)
  have hS : va_S (m_A h z) s.heap s.heap [] := va_S.rf
  have hl : lv_has ls 3 [(0, .ref v0), (1, .int v1)] := hl
  unfold s_X8_nextOf at hrun
  refine lv_iload_n hx hb dX8_nextOf_0 rfl (lv_at hl 1 rfl) ?_
  refine lv_iconst (v := 1) hx hb dX8_nextOf_1 (by decide) ?_
  refine lv_iadd hx hb dX8_nextOf_2 ?_
  refine lv_istore_n (lv' := [(2, .int (v1 + 1)), (0, .ref v0), (1, .int v1)]) hx hb dX8_nextOf_3 rfl hl (by decide) rfl (fun ls hl => ?_)
  exact k_X8_nextOf_L4 hx hb hr hml hown hts hlocks hin hE hA _ _ _ _ _ _ _ hrun hR hz hS (lv_sub hl [1, 2, 0] rfl)
/-! X8_laysRides -/
abbrev rm_X8_laysRides : Room := { frames := 2, cells := 0, slots := 0, locals := 44 }
theorem yk_X8_laysRides : m_K yX8_laysRides cX8_laysRides 4 (none) 0 := ⟨wm_3_133, wm_0_10, by decide +kernel⟩
theorem ys_X8_laysRides : Cond.instanceMethod yX8_laysRides ∈ wT ∧ Cond.selects RX8 yX8_laysRides yX8_laysRides ∈ wT := ⟨wm_3_132, wp_2_0⟩
set_option maxRecDepth 100000 in
set_option maxHeartbeats 4000000 in
theorem k_X8_laysRides_b136 {p : Program} {l : Launch} {e : Env} {s : State} {m : MethodId} {args : Array Value} {below : List Frame} {meth : Method} {c : Code} {D : va_G} {ids : m_I3} {st : m_T} {A : Nat → Prop} {z : Nat} {hF : mH} (hx : p.tables.exec = Jvm.exec) (hb : c.code = cX8_laysRides) (hr : meth.sig.returnType = none) (hml : c.maxLocals = 4) (hown : s.vm.findClass RX8 = some m.cls) (hts : ∀ w ∈ (m_ws yX8_laysRides cX8_laysRides 4 (none)), w.before args s = true) (hlocks : meth.locks = false) (hin : meth.name = yX8_laysRides.name) (hE : m_EV st A s s.heap) (hA : ∀ q, s.heap.size ≤ q → A q) {k28 : mH → Nat → Int32 → Option (mH)} (hk28 : ∀ (h : mH) (v0 : Nat) (v1 : Int32) (H : Heap) (locs : List Loc) (ls : Array Slot), k28 h v0 v1 = some hF → Rl D ids A h s H → H.size = z → va_S A s.heap H locs → lv_has ls 4 [(0, .ref v0), (1, .int v1)] → W p l e rm_X8_laysRides s m args below meth c H locs 0 0 (MQ below (mQv D ids A hF z) args s 0 0 A) (F0 m 28 ls [])) (h : mH) (v0 : Nat) (v1 : Int32) (H : Heap) (locs : List Loc) (ls : Array Slot) (hrun : s_X8_laysRides_b136 k28 h v0 v1 = some hF) (hR : Rl D ids A h s H) (hz : H.size = z) (hS : va_S A s.heap H locs) (hl : lv_has ls 4 [(0, .ref v0), (1, .int v1)]) : W p l e rm_X8_laysRides s m args below meth c H locs 0 0 (MQ below (mQv D ids A hF z) args s 0 0 A) (F0 m 136 ls []) := by
  unfold s_X8_laysRides_b136 at hrun
  refine lv_iinc (v := v1 + 1) (lv' := [(1, .int (v1 + 1)), (0, .ref v0)]) hx hb dX8_laysRides_136 hl (k := 1) rfl rfl (by decide) rfl (fun ls hl => ?_)
  refine lv_goto (tgt := 28) hx hb dX8_laysRides_139 (by decide) ?_
  exact hk28 _ _ _ _ _ _ hrun hR hz hS (lv_sub hl [1, 0] rfl)
set_option maxRecDepth 100000 in
set_option maxHeartbeats 4000000 in
theorem k_X8_laysRides_b95 {p : Program} {l : Launch} {e : Env} {s : State} {m : MethodId} {args : Array Value} {below : List Frame} {meth : Method} {c : Code} {D : va_G} {ids : m_I3} {st : m_T} {A : Nat → Prop} {z : Nat} {hF : mH} (hx : p.tables.exec = Jvm.exec) (hb : c.code = cX8_laysRides) (hr : meth.sig.returnType = none) (hml : c.maxLocals = 4) (hown : s.vm.findClass RX8 = some m.cls) (hts : ∀ w ∈ (m_ws yX8_laysRides cX8_laysRides 4 (none)), w.before args s = true) (hlocks : meth.locks = false) (hin : meth.name = yX8_laysRides.name) (hE : m_EV st A s s.heap) (hA : ∀ q, s.heap.size ≤ q → A q) {k28 : mH → Nat → Int32 → Option (mH)} (hk28 : ∀ (h : mH) (v0 : Nat) (v1 : Int32) (H : Heap) (locs : List Loc) (ls : Array Slot), k28 h v0 v1 = some hF → Rl D ids A h s H → H.size = z → va_S A s.heap H locs → lv_has ls 4 [(0, .ref v0), (1, .int v1)] → W p l e rm_X8_laysRides s m args below meth c H locs 0 0 (MQ below (mQv D ids A hF z) args s 0 0 A) (F0 m 28 ls [])) (h : mH) (v0 : Nat) (v1 : Int32) (v2 : Int32) (t0 : Int32) (H : Heap) (locs : List Loc) (ls : Array Slot) (hrun : s_X8_laysRides_b95 k28 h v0 v1 v2 t0 = some hF) (hR : Rl D ids A h s H) (hz : H.size = z) (hS : va_S A s.heap H locs) (hl : lv_has ls 4 [(0, .ref v0), (1, .int v1), (2, .int v2)]) : W p l e rm_X8_laysRides s m args below meth c H locs 0 0 (MQ below (mQv D ids A hF z) args s 0 0 A) (F0 m 95 ls [.int t0]) := by
  unfold s_X8_laysRides_b95 at hrun
  refine lv_istore_n (lv' := [(3, .int t0), (0, .ref v0), (1, .int v1), (2, .int v2)]) hx hb dX8_laysRides_95 rfl hl (by decide) rfl (fun ls hl => ?_)
  refine lv_iload_n hx hb dX8_laysRides_96 rfl (lv_at hl 0 rfl) ?_
  refine lv_if_eq (tgt := 136) hx hb dX8_laysRides_97 (by decide) (fun hc => ?_) (fun hc => ?_)
  · have hrun := mt_t hrun hc
    exact k_X8_laysRides_b136 hx hb hr hml hown hts hlocks hin hE hA hk28 _ _ _ _ _ _ hrun hR hz hS (lv_sub hl [1, 2] rfl)
  · have hrun := mt_f hrun hc
    refine lv_aload_n hx hb dX8_laysRides_100 rfl (lv_at hl 1 rfl) ?_
    refine lv_iload_n hx hb dX8_laysRides_101 rfl (lv_at hl 3 rfl) ?_
    refine lv_iconst (v := 2) hx hb dX8_laysRides_102 (by decide) ?_
    obtain ⟨_, ho9, hrun⟩ := m_bind hrun
    obtain ⟨fs9, ho9⟩ := m_is_spec ho9
    obtain ⟨x103, hc9, hrun⟩ := m_bind hrun
    refine mr_calli (mr_runV (As := [.int v2, .int 2]) (rest := []) hx hb hml hown hts (c_X8_of l D ids st z hc9) yk_X8_of ys_X8_of wm_3_106 ⟨(Nat.le_of_ble_eq_true rfl), (Nat.le_of_ble_eq_true rfl)⟩ (mr_recv (ci := 6) hR hE hz hS hA rfl ho9) hl.1 rfl (Nat.le_of_ble_eq_true rfl) dX8_laysRides_103 ⟨(Nat.le_of_ble_eq_true rfl), (Nat.le_of_ble_eq_true rfl)⟩) hR hz hS hA (fun H locs hR hz hS => ?_)
    refine lv_aload_n hx hb dX8_laysRides_106 rfl (lv_at hl 1 rfl) ?_
    refine lv_iload_n hx hb dX8_laysRides_107 rfl (lv_at hl 2 rfl) ?_
    refine lv_iconst (v := 2) hx hb dX8_laysRides_108 (by decide) ?_
    obtain ⟨_, ho9, hrun⟩ := m_bind hrun
    obtain ⟨fs9, ho9⟩ := m_is_spec ho9
    obtain ⟨x109, hc9, hrun⟩ := m_bind hrun
    refine mr_calli (mr_runV (As := [.int v1, .int 2]) (rest := [.int x103]) hx hb hml hown hts (c_X8_of l D ids st z hc9) yk_X8_of ys_X8_of wm_3_106 ⟨(Nat.le_of_ble_eq_true rfl), (Nat.le_of_ble_eq_true rfl)⟩ (mr_recv (ci := 6) hR hE hz hS hA rfl ho9) hl.1 rfl (Nat.le_of_ble_eq_true rfl) dX8_laysRides_109 ⟨(Nat.le_of_ble_eq_true rfl), (Nat.le_of_ble_eq_true rfl)⟩) hR hz hS hA (fun H locs hR hz hS => ?_)
    refine lv_isub hx hb dX8_laysRides_112 ?_
    refine lv_aload_n hx hb dX8_laysRides_113 rfl (lv_at hl 1 rfl) ?_
    obtain ⟨x114, hc9, hrun⟩ := m_bind hrun
    refine mr_get (C := RX8) (T := TX8) (N := 13) (ci := 6) hx hb hts (fun w q => m_ws_in (wi_X8 w q)) hown hR rfl 1 (by decide) (hts _ (m_ws_in wm_3_34)) (fun _ h9 => h9) (m_gr_spec hc9) dX8_laysRides_114 ?_
    refine lv_iconst (v := 3) hx hb dX8_laysRides_117 (by decide) ?_
    obtain ⟨x118, hc9, hrun⟩ := m_bind hrun
    refine mr_iald hx hb hR hc9 dX8_laysRides_118 ?_
    refine lv_icmp_gt (tgt := 136) hx hb dX8_laysRides_119 (by decide) (fun hc => ?_) (fun hc => ?_)
    · have hrun := mt_t hrun hc
      exact k_X8_laysRides_b136 hx hb hr hml hown hts hlocks hin hE hA hk28 _ _ _ _ _ _ hrun hR hz hS (lv_sub hl [1, 2] rfl)
    · have hrun := mt_f hrun hc
      refine lv_aload_n hx hb dX8_laysRides_122 rfl (lv_at hl 1 rfl) ?_
      obtain ⟨x123, hc9, hrun⟩ := m_bind hrun
      refine mr_get (C := RX8) (T := TX8) (N := 13) (ci := 6) hx hb hts (fun w q => m_ws_in (wi_X8 w q)) hown hR rfl 7 (by decide) (hts _ (m_ws_in wm_3_40)) (fun _ h9 => h9) (m_gr_spec hc9) dX8_laysRides_123 ?_
      refine lv_iload_n hx hb dX8_laysRides_126 rfl (lv_at hl 2 rfl) ?_
      refine lv_iload_n hx hb dX8_laysRides_127 rfl (lv_at hl 3 rfl) ?_
      obtain ⟨h128, hc9, hrun⟩ := m_bind hrun
      refine mr_iast hx hb hR hz hS hc9 dX8_laysRides_128 (fun H locs hR hz hS => ?_)
      refine lv_aload_n hx hb dX8_laysRides_129 rfl (lv_at hl 1 rfl) ?_
      obtain ⟨x130, hc9, hrun⟩ := m_bind hrun
      refine mr_get (C := RX8) (T := TX8) (N := 13) (ci := 6) hx hb hts (fun w q => m_ws_in (wi_X8 w q)) hown hR rfl 7 (by decide) (hts _ (m_ws_in wm_3_40)) (fun _ h9 => h9) (m_gr_spec hc9) dX8_laysRides_130 ?_
      refine lv_iload_n hx hb dX8_laysRides_133 rfl (lv_at hl 3 rfl) ?_
      refine lv_iload_n hx hb dX8_laysRides_134 rfl (lv_at hl 2 rfl) ?_
      obtain ⟨h135, hc9, hrun⟩ := m_bind hrun
      refine mr_iast hx hb hR hz hS hc9 dX8_laysRides_135 (fun H locs hR hz hS => ?_)
      exact k_X8_laysRides_b136 hx hb hr hml hown hts hlocks hin hE hA hk28 _ _ _ _ _ _ hrun hR hz hS (lv_sub hl [1, 2] rfl)
set_option maxRecDepth 100000 in
set_option maxHeartbeats 4000000 in
theorem k_X8_laysRides_b94 {p : Program} {l : Launch} {e : Env} {s : State} {m : MethodId} {args : Array Value} {below : List Frame} {meth : Method} {c : Code} {D : va_G} {ids : m_I3} {st : m_T} {A : Nat → Prop} {z : Nat} {hF : mH} (hx : p.tables.exec = Jvm.exec) (hb : c.code = cX8_laysRides) (hr : meth.sig.returnType = none) (hml : c.maxLocals = 4) (hown : s.vm.findClass RX8 = some m.cls) (hts : ∀ w ∈ (m_ws yX8_laysRides cX8_laysRides 4 (none)), w.before args s = true) (hlocks : meth.locks = false) (hin : meth.name = yX8_laysRides.name) (hE : m_EV st A s s.heap) (hA : ∀ q, s.heap.size ≤ q → A q) {k28 : mH → Nat → Int32 → Option (mH)} (hk28 : ∀ (h : mH) (v0 : Nat) (v1 : Int32) (H : Heap) (locs : List Loc) (ls : Array Slot), k28 h v0 v1 = some hF → Rl D ids A h s H → H.size = z → va_S A s.heap H locs → lv_has ls 4 [(0, .ref v0), (1, .int v1)] → W p l e rm_X8_laysRides s m args below meth c H locs 0 0 (MQ below (mQv D ids A hF z) args s 0 0 A) (F0 m 28 ls [])) (h : mH) (v0 : Nat) (v1 : Int32) (v2 : Int32) (H : Heap) (locs : List Loc) (ls : Array Slot) (hrun : s_X8_laysRides_b94 k28 h v0 v1 v2 = some hF) (hR : Rl D ids A h s H) (hz : H.size = z) (hS : va_S A s.heap H locs) (hl : lv_has ls 4 [(0, .ref v0), (1, .int v1), (2, .int v2)]) : W p l e rm_X8_laysRides s m args below meth c H locs 0 0 (MQ below (mQv D ids A hF z) args s 0 0 A) (F0 m 94 ls []) := by
  unfold s_X8_laysRides_b94 at hrun
  refine lv_iconst (v := 0) hx hb dX8_laysRides_94 (by decide) ?_
  exact k_X8_laysRides_b95 hx hb hr hml hown hts hlocks hin hE hA hk28 _ _ _ _ _ _ _ _ hrun hR hz hS (lv_sub hl [0, 1, 2] rfl)
set_option maxRecDepth 100000 in
set_option maxHeartbeats 4000000 in
theorem k_X8_laysRides_L28 {p : Program} {l : Launch} {e : Env} {s : State} {m : MethodId} {args : Array Value} {below : List Frame} {meth : Method} {c : Code} {D : va_G} {ids : m_I3} {st : m_T} {A : Nat → Prop} {z : Nat} {hF : mH} (hx : p.tables.exec = Jvm.exec) (hb : c.code = cX8_laysRides) (hr : meth.sig.returnType = none) (hml : c.maxLocals = 4) (hown : s.vm.findClass RX8 = some m.cls) (hts : ∀ w ∈ (m_ws yX8_laysRides cX8_laysRides 4 (none)), w.before args s = true) (hlocks : meth.locks = false) (hin : meth.name = yX8_laysRides.name) (hE : m_EV st A s s.heap) (hA : ∀ q, s.heap.size ≤ q → A q) : ∀ (n : Nat) (h : mH) (v0 : Nat) (v1 : Int32) (H : Heap) (locs : List Loc) (ls : Array Slot), s_X8_laysRides_L28 n h v0 v1 = some hF → Rl D ids A h s H → H.size = z → va_S A s.heap H locs → lv_has ls 4 [(0, .ref v0), (1, .int v1)] → W p l e rm_X8_laysRides s m args below meth c H locs 0 0 (MQ below (mQv D ids A hF z) args s 0 0 A) (F0 m 28 ls []) := by
  intro n
  induction n with
  | zero => intro h v0 v1 H locs ls hrun; exact absurd hrun (by intro h9; cases h9)
  | succ n ih =>
    intro h v0 v1 H locs ls hrun hR hz hS hl
    rw [s_X8_laysRides_L28] at hrun
    refine lv_iload_n hx hb dX8_laysRides_28 rfl (lv_at hl 1 rfl) ?_
    refine lv_aload_n hx hb dX8_laysRides_29 rfl (lv_at hl 0 rfl) ?_
    obtain ⟨x30, hc9, hrun⟩ := m_bind hrun
    refine mr_get (C := RX8) (T := TX8) (N := 13) (ci := 6) hx hb hts (fun w q => m_ws_in (wi_X8 w q)) hown hR rfl 1 (by decide) (hts _ (m_ws_in wm_3_34)) (fun _ h9 => h9) (m_gr_spec hc9) dX8_laysRides_30 ?_
    refine lv_bipush (v := 9) hx hb dX8_laysRides_33 (by decide) ?_
    obtain ⟨x35, hc9, hrun⟩ := m_bind hrun
    refine mr_iald hx hb hR hc9 dX8_laysRides_35 ?_
    refine lv_icmp_ge (tgt := 142) hx hb dX8_laysRides_36 (by decide) (fun hc => ?_) (fun hc => ?_)
    · have hrun := mt_t hrun hc
      obtain rfl := Option.some.inj hrun
      exact mr_vret hx hb hr hlocks hR hz hS dX8_laysRides_142
    · have hrun := mt_f hrun hc
      refine lv_aload_n hx hb dX8_laysRides_39 rfl (lv_at hl 0 rfl) ?_
      refine lv_iload_n hx hb dX8_laysRides_40 rfl (lv_at hl 1 rfl) ?_
      obtain ⟨_, ho9, hrun⟩ := m_bind hrun
      obtain ⟨fs9, ho9⟩ := m_is_spec ho9
      obtain ⟨x41, hc9, hrun⟩ := m_bind hrun
      refine mr_calli (mr_runV (As := [.int v1]) (rest := []) hx hb hml hown hts (c_X8_nextOf l D ids st z hc9) yk_X8_nextOf ys_X8_nextOf wm_3_134 ⟨(Nat.le_of_ble_eq_true rfl), (Nat.le_of_ble_eq_true rfl)⟩ (mr_recv (ci := 6) hR hE hz hS hA rfl ho9) hl.1 rfl (Nat.le_of_ble_eq_true rfl) dX8_laysRides_41 ⟨(Nat.le_of_ble_eq_true rfl), (Nat.le_of_ble_eq_true rfl)⟩) hR hz hS hA (fun H locs hR hz hS => ?_)
      refine lv_istore_n (lv' := [(2, .int x41), (0, .ref v0), (1, .int v1)]) hx hb dX8_laysRides_44 rfl hl (by decide) rfl (fun ls hl => ?_)
      refine lv_iload_n hx hb dX8_laysRides_45 rfl (lv_at hl 0 rfl) ?_
      refine lv_aload_n hx hb dX8_laysRides_46 rfl (lv_at hl 1 rfl) ?_
      obtain ⟨x47, hc9, hrun⟩ := m_bind hrun
      refine mr_get (C := RX8) (T := TX8) (N := 13) (ci := 6) hx hb hts (fun w q => m_ws_in (wi_X8 w q)) hown hR rfl 1 (by decide) (hts _ (m_ws_in wm_3_34)) (fun _ h9 => h9) (m_gr_spec hc9) dX8_laysRides_47 ?_
      refine lv_bipush (v := 9) hx hb dX8_laysRides_50 (by decide) ?_
      obtain ⟨x52, hc9, hrun⟩ := m_bind hrun
      refine mr_iald hx hb hR hc9 dX8_laysRides_52 ?_
      refine lv_icmp_ge (tgt := 94) hx hb dX8_laysRides_53 (by decide) (fun hc => ?_) (fun hc => ?_)
      · have hrun := mt_t hrun hc
        exact k_X8_laysRides_b94 hx hb hr hml hown hts hlocks hin hE hA ih _ _ _ _ _ _ _ hrun hR hz hS (lv_sub hl [1, 2, 0] rfl)
      · have hrun := mt_f hrun hc
        refine lv_aload_n hx hb dX8_laysRides_56 rfl (lv_at hl 1 rfl) ?_
        refine lv_iload_n hx hb dX8_laysRides_57 rfl (lv_at hl 2 rfl) ?_
        refine lv_iconst (v := 4) hx hb dX8_laysRides_58 (by decide) ?_
        obtain ⟨_, ho9, hrun⟩ := m_bind hrun
        obtain ⟨fs9, ho9⟩ := m_is_spec ho9
        obtain ⟨x59, hc9, hrun⟩ := m_bind hrun
        refine mr_calli (mr_runV (As := [.int v1, .int 4]) (rest := []) hx hb hml hown hts (c_X8_of l D ids st z hc9) yk_X8_of ys_X8_of wm_3_106 ⟨(Nat.le_of_ble_eq_true rfl), (Nat.le_of_ble_eq_true rfl)⟩ (mr_recv (ci := 6) hR hE hz hS hA rfl ho9) hl.1 rfl (Nat.le_of_ble_eq_true rfl) dX8_laysRides_59 ⟨(Nat.le_of_ble_eq_true rfl), (Nat.le_of_ble_eq_true rfl)⟩) hR hz hS hA (fun H locs hR hz hS => ?_)
        refine lv_iconst (v := 1) hx hb dX8_laysRides_62 (by decide) ?_
        refine lv_icmp_ne (tgt := 94) hx hb dX8_laysRides_63 (by decide) (fun hc => ?_) (fun hc => ?_)
        · have hrun := mt_f hrun hc
          exact k_X8_laysRides_b94 hx hb hr hml hown hts hlocks hin hE hA ih _ _ _ _ _ _ _ hrun hR hz hS (lv_sub hl [1, 2, 0] rfl)
        · have hrun := mt_t hrun hc
          refine lv_aload_n hx hb dX8_laysRides_66 rfl (lv_at hl 1 rfl) ?_
          refine lv_iload_n hx hb dX8_laysRides_67 rfl (lv_at hl 0 rfl) ?_
          refine lv_iconst (v := 4) hx hb dX8_laysRides_68 (by decide) ?_
          obtain ⟨_, ho9, hrun⟩ := m_bind hrun
          obtain ⟨fs9, ho9⟩ := m_is_spec ho9
          obtain ⟨x69, hc9, hrun⟩ := m_bind hrun
          refine mr_calli (mr_runV (As := [.int x41, .int 4]) (rest := []) hx hb hml hown hts (c_X8_of l D ids st z hc9) yk_X8_of ys_X8_of wm_3_106 ⟨(Nat.le_of_ble_eq_true rfl), (Nat.le_of_ble_eq_true rfl)⟩ (mr_recv (ci := 6) hR hE hz hS hA rfl ho9) hl.1 rfl (Nat.le_of_ble_eq_true rfl) dX8_laysRides_69 ⟨(Nat.le_of_ble_eq_true rfl), (Nat.le_of_ble_eq_true rfl)⟩) hR hz hS hA (fun H locs hR hz hS => ?_)
          refine lv_if_ne (tgt := 94) hx hb dX8_laysRides_72 (by decide) (fun hc => ?_) (fun hc => ?_)
          · have hrun := mt_f hrun hc
            exact k_X8_laysRides_b94 hx hb hr hml hown hts hlocks hin hE hA ih _ _ _ _ _ _ _ hrun hR hz hS (lv_sub hl [1, 2, 0] rfl)
          · have hrun := mt_t hrun hc
            refine lv_aload_n hx hb dX8_laysRides_75 rfl (lv_at hl 1 rfl) ?_
            refine lv_iload_n hx hb dX8_laysRides_76 rfl (lv_at hl 2 rfl) ?_
            refine lv_iconst (v := 1) hx hb dX8_laysRides_77 (by decide) ?_
            obtain ⟨_, ho9, hrun⟩ := m_bind hrun
            obtain ⟨fs9, ho9⟩ := m_is_spec ho9
            obtain ⟨x78, hc9, hrun⟩ := m_bind hrun
            refine mr_calli (mr_runV (As := [.int v1, .int 1]) (rest := []) hx hb hml hown hts (c_X8_of l D ids st z hc9) yk_X8_of ys_X8_of wm_3_106 ⟨(Nat.le_of_ble_eq_true rfl), (Nat.le_of_ble_eq_true rfl)⟩ (mr_recv (ci := 6) hR hE hz hS hA rfl ho9) hl.1 rfl (Nat.le_of_ble_eq_true rfl) dX8_laysRides_78 ⟨(Nat.le_of_ble_eq_true rfl), (Nat.le_of_ble_eq_true rfl)⟩) hR hz hS hA (fun H locs hR hz hS => ?_)
            refine lv_aload_n hx hb dX8_laysRides_81 rfl (lv_at hl 1 rfl) ?_
            refine lv_iload_n hx hb dX8_laysRides_82 rfl (lv_at hl 0 rfl) ?_
            refine lv_iconst (v := 1) hx hb dX8_laysRides_83 (by decide) ?_
            obtain ⟨_, ho9, hrun⟩ := m_bind hrun
            obtain ⟨fs9, ho9⟩ := m_is_spec ho9
            obtain ⟨x84, hc9, hrun⟩ := m_bind hrun
            refine mr_calli (mr_runV (As := [.int x41, .int 1]) (rest := [.int x78]) hx hb hml hown hts (c_X8_of l D ids st z hc9) yk_X8_of ys_X8_of wm_3_106 ⟨(Nat.le_of_ble_eq_true rfl), (Nat.le_of_ble_eq_true rfl)⟩ (mr_recv (ci := 6) hR hE hz hS hA rfl ho9) hl.1 rfl (Nat.le_of_ble_eq_true rfl) dX8_laysRides_84 ⟨(Nat.le_of_ble_eq_true rfl), (Nat.le_of_ble_eq_true rfl)⟩) hR hz hS hA (fun H locs hR hz hS => ?_)
            refine lv_icmp_ne (tgt := 94) hx hb dX8_laysRides_87 (by decide) (fun hc => ?_) (fun hc => ?_)
            · have hrun := mt_f hrun hc
              exact k_X8_laysRides_b94 hx hb hr hml hown hts hlocks hin hE hA ih _ _ _ _ _ _ _ hrun hR hz hS (lv_sub hl [1, 2, 0] rfl)
            · have hrun := mt_t hrun hc
              refine lv_iconst (v := 1) hx hb dX8_laysRides_90 (by decide) ?_
              refine lv_goto (tgt := 95) hx hb dX8_laysRides_91 (by decide) ?_
              exact k_X8_laysRides_b95 hx hb hr hml hown hts hlocks hin hE hA ih _ _ _ _ _ _ _ _ hrun hR hz hS (lv_sub hl [1, 2, 0] rfl)
set_option maxRecDepth 100000 in
set_option maxHeartbeats 4000000 in
theorem k_X8_laysRides_L2 {p : Program} {l : Launch} {e : Env} {s : State} {m : MethodId} {args : Array Value} {below : List Frame} {meth : Method} {c : Code} {D : va_G} {ids : m_I3} {st : m_T} {A : Nat → Prop} {z : Nat} {hF : mH} (hx : p.tables.exec = Jvm.exec) (hb : c.code = cX8_laysRides) (hr : meth.sig.returnType = none) (hml : c.maxLocals = 4) (hown : s.vm.findClass RX8 = some m.cls) (hts : ∀ w ∈ (m_ws yX8_laysRides cX8_laysRides 4 (none)), w.before args s = true) (hlocks : meth.locks = false) (hin : meth.name = yX8_laysRides.name) (hE : m_EV st A s s.heap) (hA : ∀ q, s.heap.size ≤ q → A q) : ∀ (n : Nat) (h : mH) (v0 : Nat) (v1 : Int32) (H : Heap) (locs : List Loc) (ls : Array Slot), s_X8_laysRides_L2 n h v0 v1 = some hF → Rl D ids A h s H → H.size = z → va_S A s.heap H locs → lv_has ls 4 [(0, .ref v0), (1, .int v1)] → W p l e rm_X8_laysRides s m args below meth c H locs 0 0 (MQ below (mQv D ids A hF z) args s 0 0 A) (F0 m 2 ls []) := by
  intro n
  induction n with
  | zero => intro h v0 v1 H locs ls hrun; exact absurd hrun (by intro h9; cases h9)
  | succ n ih =>
    intro h v0 v1 H locs ls hrun hR hz hS hl
    rw [s_X8_laysRides_L2] at hrun
    refine lv_iload_n hx hb dX8_laysRides_2 rfl (lv_at hl 1 rfl) ?_
    refine lv_aload_n hx hb dX8_laysRides_3 rfl (lv_at hl 0 rfl) ?_
    obtain ⟨x4, hc9, hrun⟩ := m_bind hrun
    refine mr_get (C := RX8) (T := TX8) (N := 13) (ci := 6) hx hb hts (fun w q => m_ws_in (wi_X8 w q)) hown hR rfl 1 (by decide) (hts _ (m_ws_in wm_3_34)) (fun _ h9 => h9) (m_gr_spec hc9) dX8_laysRides_4 ?_
    refine lv_bipush (v := 9) hx hb dX8_laysRides_7 (by decide) ?_
    obtain ⟨x9, hc9, hrun⟩ := m_bind hrun
    refine mr_iald hx hb hR hc9 dX8_laysRides_9 ?_
    refine lv_icmp_ge (tgt := 26) hx hb dX8_laysRides_10 (by decide) (fun hc => ?_) (fun hc => ?_)
    · have hrun := mt_t hrun hc
      refine lv_iconst (v := 0) hx hb dX8_laysRides_26 (by decide) ?_
      refine lv_istore_n (lv' := [(1, .int 0), (0, .ref v0)]) hx hb dX8_laysRides_27 rfl hl (by decide) rfl (fun ls hl => ?_)
      exact k_X8_laysRides_L28 hx hb hr hml hown hts hlocks hin hE hA _ _ _ _ _ _ _ hrun hR hz hS (lv_sub hl [1, 0] rfl)
    · have hrun := mt_f hrun hc
      refine lv_aload_n hx hb dX8_laysRides_13 rfl (lv_at hl 0 rfl) ?_
      obtain ⟨x14, hc9, hrun⟩ := m_bind hrun
      refine mr_get (C := RX8) (T := TX8) (N := 13) (ci := 6) hx hb hts (fun w q => m_ws_in (wi_X8 w q)) hown hR rfl 7 (by decide) (hts _ (m_ws_in wm_3_40)) (fun _ h9 => h9) (m_gr_spec hc9) dX8_laysRides_14 ?_
      refine lv_iload_n hx hb dX8_laysRides_17 rfl (lv_at hl 1 rfl) ?_
      refine lv_iconst (v := (-1)) hx hb dX8_laysRides_18 (by decide) ?_
      obtain ⟨h19, hc9, hrun⟩ := m_bind hrun
      refine mr_iast hx hb hR hz hS hc9 dX8_laysRides_19 (fun H locs hR hz hS => ?_)
      refine lv_iinc (v := v1 + 1) (lv' := [(1, .int (v1 + 1)), (0, .ref v0)]) hx hb dX8_laysRides_20 hl (k := 1) rfl rfl (by decide) rfl (fun ls hl => ?_)
      refine lv_goto (tgt := 2) hx hb dX8_laysRides_23 (by decide) ?_
      exact ih _ _ _ _ _ _ hrun hR hz hS (lv_sub hl [1, 0] rfl)
set_option maxRecDepth 100000 in
set_option maxHeartbeats 4000000 in
theorem c_X8_laysRides (l : Launch) (D : va_G) (ids : m_I3) (st : m_T) (z : Nat) {h : mH} {v0 : Nat} {hF : mH} (hrun : s_X8_laysRides h v0 = some hF) : Met l yX8_laysRides (m_ws yX8_laysRides cX8_laysRides 4 (none)) rm_X8_laysRides (mPc D ids st [.ref v0] h z) (mQv D ids (m_A h z) hF z) rm_X8_laysRides.cells rm_X8_laysRides.slots (m_A h z) := by
  refine mr_of (cc := cX8_laysRides) (maxL := 4) (ret := none) (by decide) rfl (Nat.le_of_ble_eq_true rfl) ?_
  intro p e s m below meth c ls hx hb hr hml hown hts hlocks hin hR hE hz hl
  have hA : ∀ q, s.heap.size ≤ q → m_A h z q := fun q hq => Or.inr (by rw [← hz]; exact hq)
  have hS : va_S (m_A h z) s.heap s.heap [] := va_S.rf
  have hl : lv_has ls 4 [(0, .ref v0)] := hl
  unfold s_X8_laysRides at hrun
  refine lv_iconst (v := 0) hx hb dX8_laysRides_0 (by decide) ?_
  refine lv_istore_n (lv' := [(1, .int 0), (0, .ref v0)]) hx hb dX8_laysRides_1 rfl hl (by decide) rfl (fun ls hl => ?_)
  exact k_X8_laysRides_L2 hx hb hr hml hown hts hlocks hin hE hA _ _ _ _ _ _ _ hrun hR hz hS (lv_sub hl [1, 0] rfl)
/-! X8_timeOf -/
abbrev rm_X8_timeOf : Room := { frames := 1, cells := 0, slots := 0, locals := 22 }
theorem yk_X8_timeOf : m_K yX8_timeOf cX8_timeOf 2 (some .int) 1 := ⟨wm_3_105, wm_0_10, by decide +kernel⟩
theorem ys_X8_timeOf : Cond.instanceMethod yX8_timeOf ∈ wT ∧ Cond.selects RX8 yX8_timeOf yX8_timeOf ∈ wT := ⟨wm_3_104, wp_1_11⟩
set_option maxRecDepth 100000 in
set_option maxHeartbeats 4000000 in
theorem c_X8_timeOf (l : Launch) (D : va_G) (ids : m_I3) (st : m_T) (z : Nat) {h : mH} {v0 : Nat} {v1 : Int32} {r : Int32} (hrun : s_X8_timeOf h v0 v1 = some r) : Met l yX8_timeOf (m_ws yX8_timeOf cX8_timeOf 2 (some .int)) rm_X8_timeOf (mPc D ids st [.ref v0, .int v1] h z) (mQi D ids (m_A h z) r h z) rm_X8_timeOf.cells rm_X8_timeOf.slots (m_A h z) := by
  refine mr_of (cc := cX8_timeOf) (maxL := 2) (ret := some .int) (by decide) rfl (Nat.le_of_ble_eq_true rfl) ?_
  intro p e s m below meth c ls hx hb hr hml hown hts hlocks hin hR hE hz hl
  have hA : ∀ q, s.heap.size ≤ q → m_A h z q := fun q hq => Or.inr (by rw [← hz]; exact hq)
  have hS : va_S (m_A h z) s.heap s.heap [] := va_S.rf
  have hl : lv_has ls 2 [(0, .ref v0), (1, .int v1)] := hl
  unfold s_X8_timeOf at hrun
  refine lv_sipush (v := 1440) hx hb dX8_timeOf_0 (by decide) ?_
  refine lv_aload_n hx hb dX8_timeOf_3 rfl (lv_at hl 0 rfl) ?_
  refine lv_iload_n hx hb dX8_timeOf_4 rfl (lv_at hl 1 rfl) ?_
  refine lv_iconst (v := 1) hx hb dX8_timeOf_5 (by decide) ?_
  obtain ⟨_, ho9, hrun⟩ := m_bind hrun
  obtain ⟨fs9, ho9⟩ := m_is_spec ho9
  obtain ⟨x6, hc9, hrun⟩ := m_bind hrun
  refine mr_calli (mr_runV (As := [.int v1, .int 1]) (rest := [.int 1440]) hx hb hml hown hts (c_X8_of l D ids st z hc9) yk_X8_of ys_X8_of wm_3_106 ⟨(Nat.le_of_ble_eq_true rfl), (Nat.le_of_ble_eq_true rfl)⟩ (mr_recv (ci := 6) hR hE hz hS hA rfl ho9) hl.1 rfl (Nat.le_of_ble_eq_true rfl) dX8_timeOf_6 ⟨(Nat.le_of_ble_eq_true rfl), (Nat.le_of_ble_eq_true rfl)⟩) hR hz hS hA (fun H locs hR hz hS => ?_)
  refine lv_imul hx hb dX8_timeOf_9 ?_
  refine lv_aload_n hx hb dX8_timeOf_10 rfl (lv_at hl 0 rfl) ?_
  refine lv_iload_n hx hb dX8_timeOf_11 rfl (lv_at hl 1 rfl) ?_
  refine lv_iconst (v := 2) hx hb dX8_timeOf_12 (by decide) ?_
  obtain ⟨_, ho9, hrun⟩ := m_bind hrun
  obtain ⟨fs9, ho9⟩ := m_is_spec ho9
  obtain ⟨x13, hc9, hrun⟩ := m_bind hrun
  refine mr_calli (mr_runV (As := [.int v1, .int 2]) (rest := [.int (1440 * x6)]) hx hb hml hown hts (c_X8_of l D ids st z hc9) yk_X8_of ys_X8_of wm_3_106 ⟨(Nat.le_of_ble_eq_true rfl), (Nat.le_of_ble_eq_true rfl)⟩ (mr_recv (ci := 6) hR hE hz hS hA rfl ho9) hl.1 rfl (Nat.le_of_ble_eq_true rfl) dX8_timeOf_13 ⟨(Nat.le_of_ble_eq_true rfl), (Nat.le_of_ble_eq_true rfl)⟩) hR hz hS hA (fun H locs hR hz hS => ?_)
  refine lv_iadd hx hb dX8_timeOf_16 ?_
  obtain rfl := Option.some.inj hrun
  exact mr_iret hx hb hr hlocks hR hz hS dX8_timeOf_17
/-! X8_comes -/
abbrev rm_X8_comes : Room := { frames := 2, cells := 0, slots := 0, locals := 43 }
theorem yk_X8_comes : m_K yX8_comes cX8_comes 10 (some .int) 6 := ⟨wm_3_101, wm_0_10, by decide +kernel⟩
theorem ys_X8_comes : Cond.instanceMethod yX8_comes ∈ wT ∧ Cond.selects RX8 yX8_comes yX8_comes ∈ wT := ⟨wm_3_100, wp_1_10⟩
set_option maxRecDepth 100000 in
set_option maxHeartbeats 4000000 in
theorem k_X8_comes_b84 {p : Program} {l : Launch} {e : Env} {s : State} {m : MethodId} {args : Array Value} {below : List Frame} {meth : Method} {c : Code} {D : va_G} {ids : m_I3} {st : m_T} {A : Nat → Prop} {z : Nat} {r : Int32} {hF : mH} (hx : p.tables.exec = Jvm.exec) (hb : c.code = cX8_comes) (hr : meth.sig.returnType = some .int) (hml : c.maxLocals = 10) (hown : s.vm.findClass RX8 = some m.cls) (hts : ∀ w ∈ (m_ws yX8_comes cX8_comes 10 (some .int)), w.before args s = true) (hlocks : meth.locks = false) (hin : meth.name = yX8_comes.name) (hE : m_EV st A s s.heap) (hA : ∀ q, s.heap.size ≤ q → A q) (h : mH) (v0 : Nat) (v1 : Int32) (v2 : Int32) (v3 : Int32) (v4 : Int32) (v5 : Int32) (v6 : Int32) (v7 : Int32) (H : Heap) (locs : List Loc) (ls : Array Slot) (hrun : s_X8_comes_b84 h v0 v1 v2 v3 v4 v5 v6 v7 = some (r, hF)) (hR : Rl D ids A h s H) (hz : H.size = z) (hS : va_S A s.heap H locs) (hl : lv_has ls 10 [(0, .ref v0), (1, .int v1), (2, .int v2), (3, .int v3), (4, .int v4), (5, .int v5), (6, .int v6), (7, .int v7)]) : W p l e rm_X8_comes s m args below meth c H locs 0 0 (MQ below (mQi D ids A r hF z) args s 0 0 A) (F0 m 84 ls []) := by
  unfold s_X8_comes_b84 at hrun
  refine lv_bipush (v := 10) hx hb dX8_comes_84 (by decide) ?_
  refine lv_bipush (v := 6) hx hb dX8_comes_86 (by decide) ?_
  refine lv_iload hx hb dX8_comes_88 (lv_at hl 7 rfl) ?_
  refine lv_imul hx hb dX8_comes_90 ?_
  refine lv_iadd hx hb dX8_comes_91 ?_
  refine lv_istore (lv' := [(9, .int (10 + (6 * v7))), (0, .ref v0), (1, .int v1), (2, .int v2), (3, .int v3), (4, .int v4), (5, .int v5), (6, .int v6), (7, .int v7)]) hx hb dX8_comes_92 hl (by decide) rfl (fun ls hl => ?_)
  refine lv_aload_n hx hb dX8_comes_94 rfl (lv_at hl 1 rfl) ?_
  obtain ⟨x95, hc9, hrun⟩ := m_bind hrun
  refine mr_get (C := RX8) (T := TX8) (N := 13) (ci := 6) hx hb hts (fun w q => m_ws_in (wi_X8 w q)) hown hR rfl 1 (by decide) (hts _ (m_ws_in wm_3_34)) (fun _ h9 => h9) (m_gr_spec hc9) dX8_comes_95 ?_
  refine lv_iload hx hb dX8_comes_98 (lv_at hl 0 rfl) ?_
  refine lv_iconst (v := 0) hx hb dX8_comes_100 (by decide) ?_
  refine lv_iadd hx hb dX8_comes_101 ?_
  refine lv_iload_n hx hb dX8_comes_102 rfl (lv_at hl 2 rfl) ?_
  obtain ⟨h103, hc9, hrun⟩ := m_bind hrun
  refine mr_iast hx hb hR hz hS hc9 dX8_comes_103 (fun H locs hR hz hS => ?_)
  refine lv_aload_n hx hb dX8_comes_104 rfl (lv_at hl 1 rfl) ?_
  obtain ⟨x105, hc9, hrun⟩ := m_bind hrun
  refine mr_get (C := RX8) (T := TX8) (N := 13) (ci := 6) hx hb hts (fun w q => m_ws_in (wi_X8 w q)) hown hR rfl 1 (by decide) (hts _ (m_ws_in wm_3_34)) (fun _ h9 => h9) (m_gr_spec hc9) dX8_comes_105 ?_
  refine lv_iload hx hb dX8_comes_108 (lv_at hl 0 rfl) ?_
  refine lv_iconst (v := 1) hx hb dX8_comes_110 (by decide) ?_
  refine lv_iadd hx hb dX8_comes_111 ?_
  refine lv_iload_n hx hb dX8_comes_112 rfl (lv_at hl 3 rfl) ?_
  obtain ⟨h113, hc9, hrun⟩ := m_bind hrun
  refine mr_iast hx hb hR hz hS hc9 dX8_comes_113 (fun H locs hR hz hS => ?_)
  refine lv_aload_n hx hb dX8_comes_114 rfl (lv_at hl 1 rfl) ?_
  obtain ⟨x115, hc9, hrun⟩ := m_bind hrun
  refine mr_get (C := RX8) (T := TX8) (N := 13) (ci := 6) hx hb hts (fun w q => m_ws_in (wi_X8 w q)) hown hR rfl 1 (by decide) (hts _ (m_ws_in wm_3_34)) (fun _ h9 => h9) (m_gr_spec hc9) dX8_comes_115 ?_
  refine lv_iload hx hb dX8_comes_118 (lv_at hl 0 rfl) ?_
  refine lv_iconst (v := 2) hx hb dX8_comes_120 (by decide) ?_
  refine lv_iadd hx hb dX8_comes_121 ?_
  refine lv_iload_n hx hb dX8_comes_122 rfl (lv_at hl 4 rfl) ?_
  obtain ⟨h123, hc9, hrun⟩ := m_bind hrun
  refine mr_iast hx hb hR hz hS hc9 dX8_comes_123 (fun H locs hR hz hS => ?_)
  refine lv_aload_n hx hb dX8_comes_124 rfl (lv_at hl 1 rfl) ?_
  obtain ⟨x125, hc9, hrun⟩ := m_bind hrun
  refine mr_get (C := RX8) (T := TX8) (N := 13) (ci := 6) hx hb hts (fun w q => m_ws_in (wi_X8 w q)) hown hR rfl 1 (by decide) (hts _ (m_ws_in wm_3_34)) (fun _ h9 => h9) (m_gr_spec hc9) dX8_comes_125 ?_
  refine lv_iload hx hb dX8_comes_128 (lv_at hl 0 rfl) ?_
  refine lv_iconst (v := 3) hx hb dX8_comes_130 (by decide) ?_
  refine lv_iadd hx hb dX8_comes_131 ?_
  refine lv_iload hx hb dX8_comes_132 (lv_at hl 5 rfl) ?_
  obtain ⟨h134, hc9, hrun⟩ := m_bind hrun
  refine mr_iast hx hb hR hz hS hc9 dX8_comes_134 (fun H locs hR hz hS => ?_)
  refine lv_aload_n hx hb dX8_comes_135 rfl (lv_at hl 1 rfl) ?_
  obtain ⟨x136, hc9, hrun⟩ := m_bind hrun
  refine mr_get (C := RX8) (T := TX8) (N := 13) (ci := 6) hx hb hts (fun w q => m_ws_in (wi_X8 w q)) hown hR rfl 1 (by decide) (hts _ (m_ws_in wm_3_34)) (fun _ h9 => h9) (m_gr_spec hc9) dX8_comes_136 ?_
  refine lv_iload hx hb dX8_comes_139 (lv_at hl 0 rfl) ?_
  refine lv_iconst (v := 4) hx hb dX8_comes_141 (by decide) ?_
  refine lv_iadd hx hb dX8_comes_142 ?_
  refine lv_iload hx hb dX8_comes_143 (lv_at hl 6 rfl) ?_
  obtain ⟨h145, hc9, hrun⟩ := m_bind hrun
  refine mr_iast hx hb hR hz hS hc9 dX8_comes_145 (fun H locs hR hz hS => ?_)
  refine lv_aload_n hx hb dX8_comes_146 rfl (lv_at hl 1 rfl) ?_
  obtain ⟨x147, hc9, hrun⟩ := m_bind hrun
  refine mr_get (C := RX8) (T := TX8) (N := 13) (ci := 6) hx hb hts (fun w q => m_ws_in (wi_X8 w q)) hown hR rfl 1 (by decide) (hts _ (m_ws_in wm_3_34)) (fun _ h9 => h9) (m_gr_spec hc9) dX8_comes_147 ?_
  refine lv_iload hx hb dX8_comes_150 (lv_at hl 0 rfl) ?_
  refine lv_iconst (v := 5) hx hb dX8_comes_152 (by decide) ?_
  refine lv_iadd hx hb dX8_comes_153 ?_
  refine lv_iload hx hb dX8_comes_154 (lv_at hl 7 rfl) ?_
  obtain ⟨h156, hc9, hrun⟩ := m_bind hrun
  refine mr_iast hx hb hR hz hS hc9 dX8_comes_156 (fun H locs hR hz hS => ?_)
  refine lv_aload_n hx hb dX8_comes_157 rfl (lv_at hl 1 rfl) ?_
  obtain ⟨x158, hc9, hrun⟩ := m_bind hrun
  refine mr_get (C := RX8) (T := TX8) (N := 13) (ci := 6) hx hb hts (fun w q => m_ws_in (wi_X8 w q)) hown hR rfl 1 (by decide) (hts _ (m_ws_in wm_3_34)) (fun _ h9 => h9) (m_gr_spec hc9) dX8_comes_158 ?_
  refine lv_bipush (v := 9) hx hb dX8_comes_161 (by decide) ?_
  refine lv_dup2_11 hx hb dX8_comes_163 rfl rfl ?_
  obtain ⟨x164, hc9, hrun⟩ := m_bind hrun
  refine mr_iald hx hb hR hc9 dX8_comes_164 ?_
  refine lv_iconst (v := 1) hx hb dX8_comes_165 (by decide) ?_
  refine lv_iadd hx hb dX8_comes_166 ?_
  obtain ⟨h167, hc9, hrun⟩ := m_bind hrun
  refine mr_iast hx hb hR hz hS hc9 dX8_comes_167 (fun H locs hR hz hS => ?_)
  refine lv_iload hx hb dX8_comes_168 (lv_at hl 8 rfl) ?_
  obtain ⟨rfl, rfl⟩ := Prod.mk.inj (Option.some.inj hrun)
  exact mr_iret hx hb hr hlocks hR hz hS dX8_comes_170
set_option maxRecDepth 100000 in
set_option maxHeartbeats 4000000 in
theorem k_X8_comes_L39 {p : Program} {l : Launch} {e : Env} {s : State} {m : MethodId} {args : Array Value} {below : List Frame} {meth : Method} {c : Code} {D : va_G} {ids : m_I3} {st : m_T} {A : Nat → Prop} {z : Nat} {r : Int32} {hF : mH} (hx : p.tables.exec = Jvm.exec) (hb : c.code = cX8_comes) (hr : meth.sig.returnType = some .int) (hml : c.maxLocals = 10) (hown : s.vm.findClass RX8 = some m.cls) (hts : ∀ w ∈ (m_ws yX8_comes cX8_comes 10 (some .int)), w.before args s = true) (hlocks : meth.locks = false) (hin : meth.name = yX8_comes.name) (hE : m_EV st A s s.heap) (hA : ∀ q, s.heap.size ≤ q → A q) {k18 : mH → Nat → Int32 → Int32 → Int32 → Int32 → Int32 → Int32 → Int32 → Int32 → Option (Int32 × mH)} (hk18 : ∀ (h : mH) (v0 : Nat) (v1 : Int32) (v2 : Int32) (v3 : Int32) (v4 : Int32) (v5 : Int32) (v6 : Int32) (v7 : Int32) (v8 : Int32) (H : Heap) (locs : List Loc) (ls : Array Slot), k18 h v0 v1 v2 v3 v4 v5 v6 v7 v8 = some (r, hF) → Rl D ids A h s H → H.size = z → va_S A s.heap H locs → lv_has ls 10 [(0, .ref v0), (1, .int v1), (2, .int v2), (3, .int v3), (4, .int v4), (5, .int v5), (6, .int v6), (7, .int v7), (8, .int v8)] → W p l e rm_X8_comes s m args below meth c H locs 0 0 (MQ below (mQi D ids A r hF z) args s 0 0 A) (F0 m 18 ls [])) : ∀ (n : Nat) (h : mH) (v0 : Nat) (v1 : Int32) (v2 : Int32) (v3 : Int32) (v4 : Int32) (v5 : Int32) (v6 : Int32) (v7 : Int32) (v8 : Int32) (v9 : Int32) (H : Heap) (locs : List Loc) (ls : Array Slot), s_X8_comes_L39 k18 n h v0 v1 v2 v3 v4 v5 v6 v7 v8 v9 = some (r, hF) → Rl D ids A h s H → H.size = z → va_S A s.heap H locs → lv_has ls 10 [(0, .ref v0), (1, .int v1), (2, .int v2), (3, .int v3), (4, .int v4), (5, .int v5), (6, .int v6), (7, .int v7), (8, .int v8), (9, .int v9)] → W p l e rm_X8_comes s m args below meth c H locs 0 0 (MQ below (mQi D ids A r hF z) args s 0 0 A) (F0 m 39 ls []) := by
  intro n
  induction n with
  | zero => intro h v0 v1 v2 v3 v4 v5 v6 v7 v8 v9 H locs ls hrun; exact absurd hrun (by intro h9; cases h9)
  | succ n ih =>
    intro h v0 v1 v2 v3 v4 v5 v6 v7 v8 v9 H locs ls hrun hR hz hS hl
    rw [s_X8_comes_L39] at hrun
    refine lv_iload hx hb dX8_comes_39 (lv_at hl 9 rfl) ?_
    refine lv_bipush (v := 6) hx hb dX8_comes_41 (by decide) ?_
    refine lv_icmp_ge (tgt := 78) hx hb dX8_comes_43 (by decide) (fun hc => ?_) (fun hc => ?_)
    · have hrun := mt_t hrun hc
      refine lv_iinc (v := v7 + (-1)) (lv' := [(7, .int (v7 + (-1))), (0, .ref v0), (1, .int v1), (2, .int v2), (3, .int v3), (4, .int v4), (5, .int v5), (6, .int v6), (8, .int v8), (9, .int v9)]) hx hb dX8_comes_78 hl (k := 7) rfl rfl (by decide) rfl (fun ls hl => ?_)
      refine lv_goto (tgt := 18) hx hb dX8_comes_81 (by decide) ?_
      exact hk18 _ _ _ _ _ _ _ _ _ _ _ _ _ hrun hR hz hS (lv_sub hl [1, 2, 3, 4, 5, 6, 7, 0, 8] rfl)
    · have hrun := mt_f hrun hc
      refine lv_aload_n hx hb dX8_comes_46 rfl (lv_at hl 0 rfl) ?_
      obtain ⟨x47, hc9, hrun⟩ := m_bind hrun
      refine mr_get (C := RX8) (T := TX8) (N := 13) (ci := 6) hx hb hts (fun w q => m_ws_in (wi_X8 w q)) hown hR rfl 1 (by decide) (hts _ (m_ws_in wm_3_34)) (fun _ h9 => h9) (m_gr_spec hc9) dX8_comes_47 ?_
      refine lv_bipush (v := 10) hx hb dX8_comes_50 (by decide) ?_
      refine lv_bipush (v := 6) hx hb dX8_comes_52 (by decide) ?_
      refine lv_iload hx hb dX8_comes_54 (lv_at hl 7 rfl) ?_
      refine lv_imul hx hb dX8_comes_56 ?_
      refine lv_iadd hx hb dX8_comes_57 ?_
      refine lv_iload hx hb dX8_comes_58 (lv_at hl 9 rfl) ?_
      refine lv_iadd hx hb dX8_comes_60 ?_
      refine lv_aload_n hx hb dX8_comes_61 rfl (lv_at hl 0 rfl) ?_
      refine lv_iload hx hb dX8_comes_62 (lv_at hl 7 rfl) ?_
      refine lv_iconst (v := 1) hx hb dX8_comes_64 (by decide) ?_
      refine lv_isub hx hb dX8_comes_65 ?_
      refine lv_iload hx hb dX8_comes_66 (lv_at hl 9 rfl) ?_
      obtain ⟨_, ho9, hrun⟩ := m_bind hrun
      obtain ⟨fs9, ho9⟩ := m_is_spec ho9
      obtain ⟨x68, hc9, hrun⟩ := m_bind hrun
      refine mr_calli (mr_runV (As := [.int (v7 - 1), .int v9]) (rest := [.int ((10 + (6 * v7)) + v9), .ref x47]) hx hb hml hown hts (c_X8_of l D ids st z hc9) yk_X8_of ys_X8_of wm_3_106 ⟨(Nat.le_of_ble_eq_true rfl), (Nat.le_of_ble_eq_true rfl)⟩ (mr_recv (ci := 6) hR hE hz hS hA rfl ho9) hl.1 rfl (Nat.le_of_ble_eq_true rfl) dX8_comes_68 ⟨(Nat.le_of_ble_eq_true rfl), (Nat.le_of_ble_eq_true rfl)⟩) hR hz hS hA (fun H locs hR hz hS => ?_)
      obtain ⟨h71, hc9, hrun⟩ := m_bind hrun
      refine mr_iast hx hb hR hz hS hc9 dX8_comes_71 (fun H locs hR hz hS => ?_)
      refine lv_iinc (v := v9 + 1) (lv' := [(9, .int (v9 + 1)), (0, .ref v0), (1, .int v1), (2, .int v2), (3, .int v3), (4, .int v4), (5, .int v5), (6, .int v6), (7, .int v7), (8, .int v8)]) hx hb dX8_comes_72 hl (k := 9) rfl rfl (by decide) rfl (fun ls hl => ?_)
      refine lv_goto (tgt := 39) hx hb dX8_comes_75 (by decide) ?_
      exact ih _ _ _ _ _ _ _ _ _ _ _ _ _ _ hrun hR hz hS (lv_sub hl [1, 2, 3, 4, 5, 6, 7, 8, 9, 0] rfl)
set_option maxRecDepth 100000 in
set_option maxHeartbeats 4000000 in
theorem k_X8_comes_L18 {p : Program} {l : Launch} {e : Env} {s : State} {m : MethodId} {args : Array Value} {below : List Frame} {meth : Method} {c : Code} {D : va_G} {ids : m_I3} {st : m_T} {A : Nat → Prop} {z : Nat} {r : Int32} {hF : mH} (hx : p.tables.exec = Jvm.exec) (hb : c.code = cX8_comes) (hr : meth.sig.returnType = some .int) (hml : c.maxLocals = 10) (hown : s.vm.findClass RX8 = some m.cls) (hts : ∀ w ∈ (m_ws yX8_comes cX8_comes 10 (some .int)), w.before args s = true) (hlocks : meth.locks = false) (hin : meth.name = yX8_comes.name) (hE : m_EV st A s s.heap) (hA : ∀ q, s.heap.size ≤ q → A q) : ∀ (n : Nat) (h : mH) (v0 : Nat) (v1 : Int32) (v2 : Int32) (v3 : Int32) (v4 : Int32) (v5 : Int32) (v6 : Int32) (v7 : Int32) (v8 : Int32) (H : Heap) (locs : List Loc) (ls : Array Slot), s_X8_comes_L18 n h v0 v1 v2 v3 v4 v5 v6 v7 v8 = some (r, hF) → Rl D ids A h s H → H.size = z → va_S A s.heap H locs → lv_has ls 10 [(0, .ref v0), (1, .int v1), (2, .int v2), (3, .int v3), (4, .int v4), (5, .int v5), (6, .int v6), (7, .int v7), (8, .int v8)] → W p l e rm_X8_comes s m args below meth c H locs 0 0 (MQ below (mQi D ids A r hF z) args s 0 0 A) (F0 m 18 ls []) := by
  intro n
  induction n with
  | zero => intro h v0 v1 v2 v3 v4 v5 v6 v7 v8 H locs ls hrun; exact absurd hrun (by intro h9; cases h9)
  | succ n ih =>
    intro h v0 v1 v2 v3 v4 v5 v6 v7 v8 H locs ls hrun hR hz hS hl
    rw [s_X8_comes_L18] at hrun
    refine lv_iload hx hb dX8_comes_18 (lv_at hl 7 rfl) ?_
    refine lv_if_le (tgt := 84) hx hb dX8_comes_20 (by decide) (fun hc => ?_) (fun hc => ?_)
    · have hrun := mt_t hrun hc
      exact k_X8_comes_b84 hx hb hr hml hown hts hlocks hin hE hA _ _ _ _ _ _ _ _ _ _ _ _ hrun hR hz hS (lv_sub hl [0, 1, 2, 3, 4, 5, 6, 7] rfl)
    · have hrun := mt_f hrun hc
      refine lv_aload_n hx hb dX8_comes_23 rfl (lv_at hl 0 rfl) ?_
      refine lv_iload hx hb dX8_comes_24 (lv_at hl 7 rfl) ?_
      refine lv_iconst (v := 1) hx hb dX8_comes_26 (by decide) ?_
      refine lv_isub hx hb dX8_comes_27 ?_
      obtain ⟨_, ho9, hrun⟩ := m_bind hrun
      obtain ⟨fs9, ho9⟩ := m_is_spec ho9
      obtain ⟨x28, hc9, hrun⟩ := m_bind hrun
      refine mr_calli (mr_runV (As := [.int (v7 - 1)]) (rest := []) hx hb hml hown hts (c_X8_timeOf l D ids st z hc9) yk_X8_timeOf ys_X8_timeOf wm_3_102 ⟨(Nat.le_of_ble_eq_true rfl), (Nat.le_of_ble_eq_true rfl)⟩ (mr_recv (ci := 6) hR hE hz hS hA rfl ho9) hl.1 rfl (Nat.le_of_ble_eq_true rfl) dX8_comes_28 ⟨(Nat.le_of_ble_eq_true rfl), (Nat.le_of_ble_eq_true rfl)⟩) hR hz hS hA (fun H locs hR hz hS => ?_)
      refine lv_iload hx hb dX8_comes_31 (lv_at hl 8 rfl) ?_
      refine lv_icmp_le (tgt := 84) hx hb dX8_comes_33 (by decide) (fun hc => ?_) (fun hc => ?_)
      · have hrun := mt_t hrun hc
        exact k_X8_comes_b84 hx hb hr hml hown hts hlocks hin hE hA _ _ _ _ _ _ _ _ _ _ _ _ hrun hR hz hS (lv_sub hl [0, 1, 2, 3, 4, 5, 6, 7] rfl)
      · have hrun := mt_f hrun hc
        refine lv_iconst (v := 0) hx hb dX8_comes_36 (by decide) ?_
        refine lv_istore (lv' := [(9, .int 0), (0, .ref v0), (1, .int v1), (2, .int v2), (3, .int v3), (4, .int v4), (5, .int v5), (6, .int v6), (7, .int v7), (8, .int v8)]) hx hb dX8_comes_37 hl (by decide) rfl (fun ls hl => ?_)
        exact k_X8_comes_L39 hx hb hr hml hown hts hlocks hin hE hA ih _ _ _ _ _ _ _ _ _ _ _ _ _ _ _ hrun hR hz hS (lv_sub hl [1, 2, 3, 4, 5, 6, 7, 8, 9, 0] rfl)
set_option maxRecDepth 100000 in
set_option maxHeartbeats 4000000 in
theorem c_X8_comes (l : Launch) (D : va_G) (ids : m_I3) (st : m_T) (z : Nat) {h : mH} {v0 : Nat} {v1 : Int32} {v2 : Int32} {v3 : Int32} {v4 : Int32} {v5 : Int32} {v6 : Int32} {r : Int32} {hF : mH} (hrun : s_X8_comes h v0 v1 v2 v3 v4 v5 v6 = some (r, hF)) : Met l yX8_comes (m_ws yX8_comes cX8_comes 10 (some .int)) rm_X8_comes (mPc D ids st [.ref v0, .int v1, .int v2, .int v3, .int v4, .int v5, .int v6] h z) (mQi D ids (m_A h z) r hF z) rm_X8_comes.cells rm_X8_comes.slots (m_A h z) := by
  refine mr_of (cc := cX8_comes) (maxL := 10) (ret := some .int) (by decide) rfl (Nat.le_of_ble_eq_true rfl) ?_
  intro p e s m below meth c ls hx hb hr hml hown hts hlocks hin hR hE hz hl
  have hA : ∀ q, s.heap.size ≤ q → m_A h z q := fun q hq => Or.inr (by rw [← hz]; exact hq)
  have hS : va_S (m_A h z) s.heap s.heap [] := va_S.rf
  have hl : lv_has ls 10 [(0, .ref v0), (1, .int v1), (2, .int v2), (3, .int v3), (4, .int v4), (5, .int v5), (6, .int v6)] := hl
  unfold s_X8_comes at hrun
  refine lv_aload_n hx hb dX8_comes_0 rfl (lv_at hl 0 rfl) ?_
  obtain ⟨x1, hc9, hrun⟩ := m_bind hrun
  refine mr_get (C := RX8) (T := TX8) (N := 13) (ci := 6) hx hb hts (fun w q => m_ws_in (wi_X8 w q)) hown hR rfl 1 (by decide) (hts _ (m_ws_in wm_3_34)) (fun _ h9 => h9) (m_gr_spec hc9) dX8_comes_1 ?_
  refine lv_bipush (v := 9) hx hb dX8_comes_4 (by decide) ?_
  obtain ⟨x6, hc9, hrun⟩ := m_bind hrun
  refine mr_iald hx hb hR hc9 dX8_comes_6 ?_
  refine lv_istore (lv' := [(7, .int x6), (0, .ref v0), (1, .int v1), (2, .int v2), (3, .int v3), (4, .int v4), (5, .int v5), (6, .int v6)]) hx hb dX8_comes_7 hl (by decide) rfl (fun ls hl => ?_)
  refine lv_sipush (v := 1440) hx hb dX8_comes_9 (by decide) ?_
  refine lv_iload_n hx hb dX8_comes_12 rfl (lv_at hl 3 rfl) ?_
  refine lv_imul hx hb dX8_comes_13 ?_
  refine lv_iload_n hx hb dX8_comes_14 rfl (lv_at hl 4 rfl) ?_
  refine lv_iadd hx hb dX8_comes_15 ?_
  refine lv_istore (lv' := [(8, .int ((1440 * v2) + v3)), (7, .int x6), (0, .ref v0), (1, .int v1), (2, .int v2), (3, .int v3), (4, .int v4), (5, .int v5), (6, .int v6)]) hx hb dX8_comes_16 hl (by decide) rfl (fun ls hl => ?_)
  exact k_X8_comes_L18 hx hb hr hml hown hts hlocks hin hE hA _ _ _ _ _ _ _ _ _ _ _ _ _ _ hrun hR hz hS (lv_sub hl [2, 3, 4, 5, 6, 7, 8, 1, 0] rfl)
/-! X8_refuses -/
abbrev rm_X8_refuses : Room := { frames := 3, cells := 0, slots := 0, locals := 72 }
theorem yk_X8_refuses : m_K yX8_refuses cX8_refuses 8 (some .int) 3 := ⟨wm_3_129, wm_0_10, by decide +kernel⟩
theorem ys_X8_refuses : Cond.instanceMethod yX8_refuses ∈ wT ∧ Cond.selects RX8 yX8_refuses yX8_refuses ∈ wT := ⟨wm_3_128, wp_1_15⟩
set_option maxRecDepth 100000 in
set_option maxHeartbeats 4000000 in
theorem k_X8_refuses_b22 {p : Program} {l : Launch} {e : Env} {s : State} {m : MethodId} {args : Array Value} {below : List Frame} {meth : Method} {c : Code} {D : va_G} {ids : m_I3} {st : m_T} {A : Nat → Prop} {z : Nat} {r : Int32} {hF : mH} (hx : p.tables.exec = Jvm.exec) (hb : c.code = cX8_refuses) (hr : meth.sig.returnType = some .int) (hml : c.maxLocals = 8) (hown : s.vm.findClass RX8 = some m.cls) (hts : ∀ w ∈ (m_ws yX8_refuses cX8_refuses 8 (some .int)), w.before args s = true) (hlocks : meth.locks = false) (hin : meth.name = yX8_refuses.name) (hE : m_EV st A s s.heap) (hA : ∀ q, s.heap.size ≤ q → A q) (h : mH) (H : Heap) (locs : List Loc) (ls : Array Slot) (hrun : s_X8_refuses_b22 h = some (r, hF)) (hR : Rl D ids A h s H) (hz : H.size = z) (hS : va_S A s.heap H locs) (hl : lv_has ls 8 []) : W p l e rm_X8_refuses s m args below meth c H locs 0 0 (MQ below (mQi D ids A r hF z) args s 0 0 A) (F0 m 22 ls []) := by
  unfold s_X8_refuses_b22 at hrun
  refine lv_iconst (v := 1) hx hb dX8_refuses_22 (by decide) ?_
  obtain ⟨rfl, rfl⟩ := Prod.mk.inj (Option.some.inj hrun)
  exact mr_iret hx hb hr hlocks hR hz hS dX8_refuses_23
set_option maxRecDepth 100000 in
set_option maxHeartbeats 4000000 in
theorem k_X8_refuses_b89 {p : Program} {l : Launch} {e : Env} {s : State} {m : MethodId} {args : Array Value} {below : List Frame} {meth : Method} {c : Code} {D : va_G} {ids : m_I3} {st : m_T} {A : Nat → Prop} {z : Nat} {r : Int32} {hF : mH} (hx : p.tables.exec = Jvm.exec) (hb : c.code = cX8_refuses) (hr : meth.sig.returnType = some .int) (hml : c.maxLocals = 8) (hown : s.vm.findClass RX8 = some m.cls) (hts : ∀ w ∈ (m_ws yX8_refuses cX8_refuses 8 (some .int)), w.before args s = true) (hlocks : meth.locks = false) (hin : meth.name = yX8_refuses.name) (hE : m_EV st A s s.heap) (hA : ∀ q, s.heap.size ≤ q → A q) (h : mH) (H : Heap) (locs : List Loc) (ls : Array Slot) (hrun : s_X8_refuses_b89 h = some (r, hF)) (hR : Rl D ids A h s H) (hz : H.size = z) (hS : va_S A s.heap H locs) (hl : lv_has ls 8 []) : W p l e rm_X8_refuses s m args below meth c H locs 0 0 (MQ below (mQi D ids A r hF z) args s 0 0 A) (F0 m 89 ls []) := by
  unfold s_X8_refuses_b89 at hrun
  refine lv_iconst (v := 2) hx hb dX8_refuses_89 (by decide) ?_
  obtain ⟨rfl, rfl⟩ := Prod.mk.inj (Option.some.inj hrun)
  exact mr_iret hx hb hr hlocks hR hz hS dX8_refuses_90
set_option maxRecDepth 100000 in
set_option maxHeartbeats 4000000 in
theorem k_X8_refuses_b138 {p : Program} {l : Launch} {e : Env} {s : State} {m : MethodId} {args : Array Value} {below : List Frame} {meth : Method} {c : Code} {D : va_G} {ids : m_I3} {st : m_T} {A : Nat → Prop} {z : Nat} {r : Int32} {hF : mH} (hx : p.tables.exec = Jvm.exec) (hb : c.code = cX8_refuses) (hr : meth.sig.returnType = some .int) (hml : c.maxLocals = 8) (hown : s.vm.findClass RX8 = some m.cls) (hts : ∀ w ∈ (m_ws yX8_refuses cX8_refuses 8 (some .int)), w.before args s = true) (hlocks : meth.locks = false) (hin : meth.name = yX8_refuses.name) (hE : m_EV st A s s.heap) (hA : ∀ q, s.heap.size ≤ q → A q) (h : mH) (t0 : Int32) (H : Heap) (locs : List Loc) (ls : Array Slot) (hrun : s_X8_refuses_b138 h t0 = some (r, hF)) (hR : Rl D ids A h s H) (hz : H.size = z) (hS : va_S A s.heap H locs) (hl : lv_has ls 8 []) : W p l e rm_X8_refuses s m args below meth c H locs 0 0 (MQ below (mQi D ids A r hF z) args s 0 0 A) (F0 m 138 ls [.int t0]) := by
  unfold s_X8_refuses_b138 at hrun
  obtain ⟨rfl, rfl⟩ := Prod.mk.inj (Option.some.inj hrun)
  exact mr_iret hx hb hr hlocks hR hz hS dX8_refuses_138
set_option maxRecDepth 100000 in
set_option maxHeartbeats 4000000 in
theorem k_X8_refuses_b118 {p : Program} {l : Launch} {e : Env} {s : State} {m : MethodId} {args : Array Value} {below : List Frame} {meth : Method} {c : Code} {D : va_G} {ids : m_I3} {st : m_T} {A : Nat → Prop} {z : Nat} {r : Int32} {hF : mH} (hx : p.tables.exec = Jvm.exec) (hb : c.code = cX8_refuses) (hr : meth.sig.returnType = some .int) (hml : c.maxLocals = 8) (hown : s.vm.findClass RX8 = some m.cls) (hts : ∀ w ∈ (m_ws yX8_refuses cX8_refuses 8 (some .int)), w.before args s = true) (hlocks : meth.locks = false) (hin : meth.name = yX8_refuses.name) (hE : m_EV st A s s.heap) (hA : ∀ q, s.heap.size ≤ q → A q) (h : mH) (v0 : Nat) (v5 : Int32) (H : Heap) (locs : List Loc) (ls : Array Slot) (hrun : s_X8_refuses_b118 h v0 v5 = some (r, hF)) (hR : Rl D ids A h s H) (hz : H.size = z) (hS : va_S A s.heap H locs) (hl : lv_has ls 8 [(0, .ref v0), (5, .int v5)]) : W p l e rm_X8_refuses s m args below meth c H locs 0 0 (MQ below (mQi D ids A r hF z) args s 0 0 A) (F0 m 118 ls []) := by
  unfold s_X8_refuses_b118 at hrun
  refine lv_aload_n hx hb dX8_refuses_118 rfl (lv_at hl 0 rfl) ?_
  obtain ⟨x119, hc9, hrun⟩ := m_bind hrun
  refine mr_get (C := RX8) (T := TX8) (N := 13) (ci := 6) hx hb hts (fun w q => m_ws_in (wi_X8 w q)) hown hR rfl 1 (by decide) (hts _ (m_ws_in wm_3_34)) (fun _ h9 => h9) (m_gr_spec hc9) dX8_refuses_119 ?_
  refine lv_sipush (v := 392) hx hb dX8_refuses_122 (by decide) ?_
  refine lv_iload hx hb dX8_refuses_125 (lv_at hl 1 rfl) ?_
  refine lv_iadd hx hb dX8_refuses_127 ?_
  obtain ⟨x128, hc9, hrun⟩ := m_bind hrun
  refine mr_iald hx hb hR hc9 dX8_refuses_128 ?_
  refine lv_iconst (v := 2) hx hb dX8_refuses_129 (by decide) ?_
  refine lv_icmp_lt (tgt := 137) hx hb dX8_refuses_130 (by decide) (fun hc => ?_) (fun hc => ?_)
  · have hrun := mt_t hrun hc
    refine lv_iconst (v := 4) hx hb dX8_refuses_137 (by decide) ?_
    exact k_X8_refuses_b138 hx hb hr hml hown hts hlocks hin hE hA _ _ _ _ _ hrun hR hz hS (lv_sub hl [] rfl)
  · have hrun := mt_f hrun hc
    refine lv_iconst (v := 3) hx hb dX8_refuses_133 (by decide) ?_
    refine lv_goto (tgt := 138) hx hb dX8_refuses_134 (by decide) ?_
    exact k_X8_refuses_b138 hx hb hr hml hown hts hlocks hin hE hA _ _ _ _ _ hrun hR hz hS (lv_sub hl [] rfl)
set_option maxRecDepth 100000 in
set_option maxHeartbeats 4000000 in
theorem k_X8_refuses_b221 {p : Program} {l : Launch} {e : Env} {s : State} {m : MethodId} {args : Array Value} {below : List Frame} {meth : Method} {c : Code} {D : va_G} {ids : m_I3} {st : m_T} {A : Nat → Prop} {z : Nat} {r : Int32} {hF : mH} (hx : p.tables.exec = Jvm.exec) (hb : c.code = cX8_refuses) (hr : meth.sig.returnType = some .int) (hml : c.maxLocals = 8) (hown : s.vm.findClass RX8 = some m.cls) (hts : ∀ w ∈ (m_ws yX8_refuses cX8_refuses 8 (some .int)), w.before args s = true) (hlocks : meth.locks = false) (hin : meth.name = yX8_refuses.name) (hE : m_EV st A s s.heap) (hA : ∀ q, s.heap.size ≤ q → A q) (h : mH) (t0 : Int32) (H : Heap) (locs : List Loc) (ls : Array Slot) (hrun : s_X8_refuses_b221 h t0 = some (r, hF)) (hR : Rl D ids A h s H) (hz : H.size = z) (hS : va_S A s.heap H locs) (hl : lv_has ls 8 []) : W p l e rm_X8_refuses s m args below meth c H locs 0 0 (MQ below (mQi D ids A r hF z) args s 0 0 A) (F0 m 221 ls [.int t0]) := by
  unfold s_X8_refuses_b221 at hrun
  obtain ⟨rfl, rfl⟩ := Prod.mk.inj (Option.some.inj hrun)
  exact mr_iret hx hb hr hlocks hR hz hS dX8_refuses_221
set_option maxRecDepth 100000 in
set_option maxHeartbeats 4000000 in
theorem k_X8_refuses_b187 {p : Program} {l : Launch} {e : Env} {s : State} {m : MethodId} {args : Array Value} {below : List Frame} {meth : Method} {c : Code} {D : va_G} {ids : m_I3} {st : m_T} {A : Nat → Prop} {z : Nat} {r : Int32} {hF : mH} (hx : p.tables.exec = Jvm.exec) (hb : c.code = cX8_refuses) (hr : meth.sig.returnType = some .int) (hml : c.maxLocals = 8) (hown : s.vm.findClass RX8 = some m.cls) (hts : ∀ w ∈ (m_ws yX8_refuses cX8_refuses 8 (some .int)), w.before args s = true) (hlocks : meth.locks = false) (hin : meth.name = yX8_refuses.name) (hE : m_EV st A s s.heap) (hA : ∀ q, s.heap.size ≤ q → A q) (h : mH) (v0 : Nat) (v5 : Int32) (v6 : Int32) (t0 : Int32) (H : Heap) (locs : List Loc) (ls : Array Slot) (hrun : s_X8_refuses_b187 h v0 v5 v6 t0 = some (r, hF)) (hR : Rl D ids A h s H) (hz : H.size = z) (hS : va_S A s.heap H locs) (hl : lv_has ls 8 [(0, .ref v0), (5, .int v5), (6, .int v6)]) : W p l e rm_X8_refuses s m args below meth c H locs 0 0 (MQ below (mQi D ids A r hF z) args s 0 0 A) (F0 m 187 ls [.int t0]) := by
  unfold s_X8_refuses_b187 at hrun
  refine lv_istore (lv' := [(7, .int t0), (0, .ref v0), (5, .int v5), (6, .int v6)]) hx hb dX8_refuses_187 hl (by decide) rfl (fun ls hl => ?_)
  refine lv_aload_n hx hb dX8_refuses_189 rfl (lv_at hl 1 rfl) ?_
  obtain ⟨x190, hc9, hrun⟩ := m_bind hrun
  refine mr_get (C := RX8) (T := TX8) (N := 13) (ci := 6) hx hb hts (fun w q => m_ws_in (wi_X8 w q)) hown hR rfl 1 (by decide) (hts _ (m_ws_in wm_3_34)) (fun _ h9 => h9) (m_gr_spec hc9) dX8_refuses_190 ?_
  refine lv_sipush (v := 392) hx hb dX8_refuses_193 (by decide) ?_
  refine lv_iload hx hb dX8_refuses_196 (lv_at hl 2 rfl) ?_
  refine lv_iadd hx hb dX8_refuses_198 ?_
  refine lv_dup2_11 hx hb dX8_refuses_199 rfl rfl ?_
  obtain ⟨x200, hc9, hrun⟩ := m_bind hrun
  refine mr_iald hx hb hR hc9 dX8_refuses_200 ?_
  refine lv_iconst (v := 1) hx hb dX8_refuses_201 (by decide) ?_
  refine lv_iadd hx hb dX8_refuses_202 ?_
  obtain ⟨h203, hc9, hrun⟩ := m_bind hrun
  refine mr_iast hx hb hR hz hS hc9 dX8_refuses_203 (fun H locs hR hz hS => ?_)
  refine lv_aload_n hx hb dX8_refuses_204 rfl (lv_at hl 1 rfl) ?_
  obtain ⟨x205, hc9, hrun⟩ := m_bind hrun
  refine mr_get (C := RX8) (T := TX8) (N := 13) (ci := 6) hx hb hts (fun w q => m_ws_in (wi_X8 w q)) hown hR rfl 7 (by decide) (hts _ (m_ws_in wm_3_40)) (fun _ h9 => h9) (m_gr_spec hc9) dX8_refuses_205 ?_
  refine lv_iload hx hb dX8_refuses_208 (lv_at hl 3 rfl) ?_
  obtain ⟨x210, hc9, hrun⟩ := m_bind hrun
  refine mr_iald hx hb hR hc9 dX8_refuses_210 ?_
  refine lv_iload hx hb dX8_refuses_211 (lv_at hl 0 rfl) ?_
  refine lv_icmp_ne (tgt := 220) hx hb dX8_refuses_213 (by decide) (fun hc => ?_) (fun hc => ?_)
  · have hrun := mt_f hrun hc
    refine lv_iconst (v := 5) hx hb dX8_refuses_220 (by decide) ?_
    exact k_X8_refuses_b221 hx hb hr hml hown hts hlocks hin hE hA _ _ _ _ _ hrun hR hz hS (lv_sub hl [] rfl)
  · have hrun := mt_t hrun hc
    refine lv_iconst (v := 0) hx hb dX8_refuses_216 (by decide) ?_
    refine lv_goto (tgt := 221) hx hb dX8_refuses_217 (by decide) ?_
    exact k_X8_refuses_b221 hx hb hr hml hown hts hlocks hin hE hA _ _ _ _ _ hrun hR hz hS (lv_sub hl [] rfl)
set_option maxRecDepth 100000 in
set_option maxHeartbeats 4000000 in
theorem k_X8_refuses_b164 {p : Program} {l : Launch} {e : Env} {s : State} {m : MethodId} {args : Array Value} {below : List Frame} {meth : Method} {c : Code} {D : va_G} {ids : m_I3} {st : m_T} {A : Nat → Prop} {z : Nat} {r : Int32} {hF : mH} (hx : p.tables.exec = Jvm.exec) (hb : c.code = cX8_refuses) (hr : meth.sig.returnType = some .int) (hml : c.maxLocals = 8) (hown : s.vm.findClass RX8 = some m.cls) (hts : ∀ w ∈ (m_ws yX8_refuses cX8_refuses 8 (some .int)), w.before args s = true) (hlocks : meth.locks = false) (hin : meth.name = yX8_refuses.name) (hE : m_EV st A s s.heap) (hA : ∀ q, s.heap.size ≤ q → A q) (h : mH) (v0 : Nat) (v1 : Int32) (v5 : Int32) (t0 : Nat) (t1 : Int32) (t2 : Int32) (t3 : Int32) (t4 : Int32) (t5 : Int32) (H : Heap) (locs : List Loc) (ls : Array Slot) (hrun : s_X8_refuses_b164 h v0 v1 v5 t0 t1 t2 t3 t4 t5 = some (r, hF)) (hR : Rl D ids A h s H) (hz : H.size = z) (hS : va_S A s.heap H locs) (hl : lv_has ls 8 [(0, .ref v0), (1, .int v1), (5, .int v5)]) : W p l e rm_X8_refuses s m args below meth c H locs 0 0 (MQ below (mQi D ids A r hF z) args s 0 0 A) (F0 m 164 ls [.int t5, .int t4, .int t3, .int t2, .int t1, .ref t0]) := by
  unfold s_X8_refuses_b164 at hrun
  refine lv_iconst (v := 1) hx hb dX8_refuses_164 (by decide) ?_
  obtain ⟨_, ho9, hrun⟩ := m_bind hrun
  obtain ⟨fs9, ho9⟩ := m_is_spec ho9
  obtain ⟨⟨x165, h165⟩, hc9, hrun⟩ := m_bind hrun
  refine mr_calli (mr_runV (As := [.int t1, .int t2, .int t3, .int t4, .int t5, .int 1]) (rest := []) hx hb hml hown hts (c_X8_comes l D ids st z hc9) yk_X8_comes ys_X8_comes wm_3_98 ⟨(Nat.le_of_ble_eq_true rfl), (Nat.le_of_ble_eq_true rfl)⟩ (mr_recv (ci := 6) hR hE hz hS hA rfl ho9) hl.1 rfl (Nat.le_of_ble_eq_true rfl) dX8_refuses_165 ⟨(Nat.le_of_ble_eq_true rfl), (Nat.le_of_ble_eq_true rfl)⟩) hR hz hS hA (fun H locs hR hz hS => ?_)
  refine lv_istore (lv' := [(6, .int x165), (0, .ref v0), (1, .int v1), (5, .int v5)]) hx hb dX8_refuses_168 hl (by decide) rfl (fun ls hl => ?_)
  refine lv_aload_n hx hb dX8_refuses_170 rfl (lv_at hl 1 rfl) ?_
  obtain ⟨_, ho9, hrun⟩ := m_bind hrun
  obtain ⟨fs9, ho9⟩ := m_is_spec ho9
  obtain ⟨h171, hc9, hrun⟩ := m_bind hrun
  refine mr_callv (mr_runV (As := []) (rest := []) hx hb hml hown hts (c_X8_laysRides l D ids st z hc9) yk_X8_laysRides ys_X8_laysRides wm_3_130 ⟨(Nat.le_of_ble_eq_true rfl), (Nat.le_of_ble_eq_true rfl)⟩ (mr_recv (ci := 6) hR hE hz hS hA rfl ho9) hl.1 rfl (Nat.le_of_ble_eq_true rfl) dX8_refuses_171 ⟨(Nat.le_of_ble_eq_true rfl), (Nat.le_of_ble_eq_true rfl)⟩) hR hz hS hA (fun H locs hR hz hS => ?_)
  refine lv_iload hx hb dX8_refuses_174 (lv_at hl 0 rfl) ?_
  refine lv_iload_n hx hb dX8_refuses_176 rfl (lv_at hl 2 rfl) ?_
  refine lv_icmp_gt (tgt := 186) hx hb dX8_refuses_177 (by decide) (fun hc => ?_) (fun hc => ?_)
  · have hrun := mt_t hrun hc
    refine lv_iload_n hx hb dX8_refuses_186 rfl (lv_at hl 2 rfl) ?_
    exact k_X8_refuses_b187 hx hb hr hml hown hts hlocks hin hE hA _ _ _ _ _ _ _ _ hrun hR hz hS (lv_sub hl [1, 3, 0] rfl)
  · have hrun := mt_f hrun hc
    refine lv_iload_n hx hb dX8_refuses_180 rfl (lv_at hl 2 rfl) ?_
    refine lv_iconst (v := 1) hx hb dX8_refuses_181 (by decide) ?_
    refine lv_iadd hx hb dX8_refuses_182 ?_
    refine lv_goto (tgt := 187) hx hb dX8_refuses_183 (by decide) ?_
    exact k_X8_refuses_b187 hx hb hr hml hown hts hlocks hin hE hA _ _ _ _ _ _ _ _ hrun hR hz hS (lv_sub hl [1, 3, 0] rfl)
set_option maxRecDepth 100000 in
set_option maxHeartbeats 4000000 in
theorem k_X8_refuses_b91 {p : Program} {l : Launch} {e : Env} {s : State} {m : MethodId} {args : Array Value} {below : List Frame} {meth : Method} {c : Code} {D : va_G} {ids : m_I3} {st : m_T} {A : Nat → Prop} {z : Nat} {r : Int32} {hF : mH} (hx : p.tables.exec = Jvm.exec) (hb : c.code = cX8_refuses) (hr : meth.sig.returnType = some .int) (hml : c.maxLocals = 8) (hown : s.vm.findClass RX8 = some m.cls) (hts : ∀ w ∈ (m_ws yX8_refuses cX8_refuses 8 (some .int)), w.before args s = true) (hlocks : meth.locks = false) (hin : meth.name = yX8_refuses.name) (hE : m_EV st A s s.heap) (hA : ∀ q, s.heap.size ≤ q → A q) (h : mH) (v0 : Nat) (v1 : Int32) (v2 : Int32) (v3 : Int32) (v4 : Int32) (v5 : Int32) (H : Heap) (locs : List Loc) (ls : Array Slot) (hrun : s_X8_refuses_b91 h v0 v1 v2 v3 v4 v5 = some (r, hF)) (hR : Rl D ids A h s H) (hz : H.size = z) (hS : va_S A s.heap H locs) (hl : lv_has ls 8 [(0, .ref v0), (1, .int v1), (2, .int v2), (3, .int v3), (4, .int v4), (5, .int v5)]) : W p l e rm_X8_refuses s m args below meth c H locs 0 0 (MQ below (mQi D ids A r hF z) args s 0 0 A) (F0 m 91 ls []) := by
  unfold s_X8_refuses_b91 at hrun
  refine lv_aload_n hx hb dX8_refuses_91 rfl (lv_at hl 0 rfl) ?_
  obtain ⟨x92, hc9, hrun⟩ := m_bind hrun
  refine mr_get (C := RX8) (T := TX8) (N := 13) (ci := 6) hx hb hts (fun w q => m_ws_in (wi_X8 w q)) hown hR rfl 1 (by decide) (hts _ (m_ws_in wm_3_34)) (fun _ h9 => h9) (m_gr_spec hc9) dX8_refuses_92 ?_
  refine lv_sipush (v := 392) hx hb dX8_refuses_95 (by decide) ?_
  refine lv_iload hx hb dX8_refuses_98 (lv_at hl 5 rfl) ?_
  refine lv_iadd hx hb dX8_refuses_100 ?_
  obtain ⟨x101, hc9, hrun⟩ := m_bind hrun
  refine mr_iald hx hb hR hc9 dX8_refuses_101 ?_
  refine lv_iconst (v := 2) hx hb dX8_refuses_102 (by decide) ?_
  refine lv_icmp_ge (tgt := 118) hx hb dX8_refuses_103 (by decide) (fun hc => ?_) (fun hc => ?_)
  · have hrun := mt_t hrun hc
    exact k_X8_refuses_b118 hx hb hr hml hown hts hlocks hin hE hA _ _ _ _ _ _ hrun hR hz hS (lv_sub hl [0, 5] rfl)
  · have hrun := mt_f hrun hc
    refine lv_aload_n hx hb dX8_refuses_106 rfl (lv_at hl 0 rfl) ?_
    obtain ⟨x107, hc9, hrun⟩ := m_bind hrun
    refine mr_get (C := RX8) (T := TX8) (N := 13) (ci := 6) hx hb hts (fun w q => m_ws_in (wi_X8 w q)) hown hR rfl 1 (by decide) (hts _ (m_ws_in wm_3_34)) (fun _ h9 => h9) (m_gr_spec hc9) dX8_refuses_107 ?_
    refine lv_bipush (v := 9) hx hb dX8_refuses_110 (by decide) ?_
    obtain ⟨x112, hc9, hrun⟩ := m_bind hrun
    refine mr_iald hx hb hR hc9 dX8_refuses_112 ?_
    refine lv_bipush (v := 60) hx hb dX8_refuses_113 (by decide) ?_
    refine lv_icmp_ne (tgt := 139) hx hb dX8_refuses_115 (by decide) (fun hc => ?_) (fun hc => ?_)
    · have hrun := mt_f hrun hc
      refine lv_aload_n hx hb dX8_refuses_139 rfl (lv_at hl 0 rfl) ?_
      refine lv_aload_n hx hb dX8_refuses_140 rfl (lv_at hl 0 rfl) ?_
      refine lv_iload_n hx hb dX8_refuses_141 rfl (lv_at hl 1 rfl) ?_
      refine lv_iconst (v := 0) hx hb dX8_refuses_142 (by decide) ?_
      obtain ⟨_, ho9, hrun⟩ := m_bind hrun
      obtain ⟨fs9, ho9⟩ := m_is_spec ho9
      obtain ⟨x143, hc9, hrun⟩ := m_bind hrun
      refine mr_calli (mr_runV (As := [.int v1, .int 0]) (rest := [.ref v0]) hx hb hml hown hts (c_X8_of l D ids st z hc9) yk_X8_of ys_X8_of wm_3_106 ⟨(Nat.le_of_ble_eq_true rfl), (Nat.le_of_ble_eq_true rfl)⟩ (mr_recv (ci := 6) hR hE hz hS hA rfl ho9) hl.1 rfl (Nat.le_of_ble_eq_true rfl) dX8_refuses_143 ⟨(Nat.le_of_ble_eq_true rfl), (Nat.le_of_ble_eq_true rfl)⟩) hR hz hS hA (fun H locs hR hz hS => ?_)
      refine lv_aload_n hx hb dX8_refuses_146 rfl (lv_at hl 0 rfl) ?_
      refine lv_iload_n hx hb dX8_refuses_147 rfl (lv_at hl 1 rfl) ?_
      refine lv_iconst (v := 1) hx hb dX8_refuses_148 (by decide) ?_
      obtain ⟨_, ho9, hrun⟩ := m_bind hrun
      obtain ⟨fs9, ho9⟩ := m_is_spec ho9
      obtain ⟨x149, hc9, hrun⟩ := m_bind hrun
      refine mr_calli (mr_runV (As := [.int v1, .int 1]) (rest := [.int x143, .ref v0]) hx hb hml hown hts (c_X8_of l D ids st z hc9) yk_X8_of ys_X8_of wm_3_106 ⟨(Nat.le_of_ble_eq_true rfl), (Nat.le_of_ble_eq_true rfl)⟩ (mr_recv (ci := 6) hR hE hz hS hA rfl ho9) hl.1 rfl (Nat.le_of_ble_eq_true rfl) dX8_refuses_149 ⟨(Nat.le_of_ble_eq_true rfl), (Nat.le_of_ble_eq_true rfl)⟩) hR hz hS hA (fun H locs hR hz hS => ?_)
      refine lv_iload_n hx hb dX8_refuses_152 rfl (lv_at hl 2 rfl) ?_
      refine lv_iload_n hx hb dX8_refuses_153 rfl (lv_at hl 3 rfl) ?_
      refine lv_iload hx hb dX8_refuses_154 (lv_at hl 4 rfl) ?_
      refine lv_if_eq (tgt := 163) hx hb dX8_refuses_156 (by decide) (fun hc => ?_) (fun hc => ?_)
      · have hrun := mt_t hrun hc
        refine lv_iconst (v := 1) hx hb dX8_refuses_163 (by decide) ?_
        exact k_X8_refuses_b164 hx hb hr hml hown hts hlocks hin hE hA _ _ _ _ _ _ _ _ _ _ _ _ _ hrun hR hz hS (lv_sub hl [0, 1, 5] rfl)
      · have hrun := mt_f hrun hc
        refine lv_iconst (v := 0) hx hb dX8_refuses_159 (by decide) ?_
        refine lv_goto (tgt := 164) hx hb dX8_refuses_160 (by decide) ?_
        exact k_X8_refuses_b164 hx hb hr hml hown hts hlocks hin hE hA _ _ _ _ _ _ _ _ _ _ _ _ _ hrun hR hz hS (lv_sub hl [0, 1, 5] rfl)
    · have hrun := mt_t hrun hc
      exact k_X8_refuses_b118 hx hb hr hml hown hts hlocks hin hE hA _ _ _ _ _ _ hrun hR hz hS (lv_sub hl [0, 5] rfl)
set_option maxRecDepth 100000 in
set_option maxHeartbeats 4000000 in
theorem k_X8_refuses_b39 {p : Program} {l : Launch} {e : Env} {s : State} {m : MethodId} {args : Array Value} {below : List Frame} {meth : Method} {c : Code} {D : va_G} {ids : m_I3} {st : m_T} {A : Nat → Prop} {z : Nat} {r : Int32} {hF : mH} (hx : p.tables.exec = Jvm.exec) (hb : c.code = cX8_refuses) (hr : meth.sig.returnType = some .int) (hml : c.maxLocals = 8) (hown : s.vm.findClass RX8 = some m.cls) (hts : ∀ w ∈ (m_ws yX8_refuses cX8_refuses 8 (some .int)), w.before args s = true) (hlocks : meth.locks = false) (hin : meth.name = yX8_refuses.name) (hE : m_EV st A s s.heap) (hA : ∀ q, s.heap.size ≤ q → A q) (h : mH) (v0 : Nat) (v1 : Int32) (v2 : Int32) (v3 : Int32) (t0 : Int32) (H : Heap) (locs : List Loc) (ls : Array Slot) (hrun : s_X8_refuses_b39 h v0 v1 v2 v3 t0 = some (r, hF)) (hR : Rl D ids A h s H) (hz : H.size = z) (hS : va_S A s.heap H locs) (hl : lv_has ls 8 [(0, .ref v0), (1, .int v1), (2, .int v2), (3, .int v3)]) : W p l e rm_X8_refuses s m args below meth c H locs 0 0 (MQ below (mQi D ids A r hF z) args s 0 0 A) (F0 m 39 ls [.int t0]) := by
  unfold s_X8_refuses_b39 at hrun
  refine lv_istore (lv' := [(4, .int t0), (0, .ref v0), (1, .int v1), (2, .int v2), (3, .int v3)]) hx hb dX8_refuses_39 hl (by decide) rfl (fun ls hl => ?_)
  refine lv_iconst (v := 4) hx hb dX8_refuses_41 (by decide) ?_
  refine lv_aload_n hx hb dX8_refuses_42 rfl (lv_at hl 1 rfl) ?_
  refine lv_iload_n hx hb dX8_refuses_43 rfl (lv_at hl 2 rfl) ?_
  refine lv_iconst (v := 0) hx hb dX8_refuses_44 (by decide) ?_
  obtain ⟨_, ho9, hrun⟩ := m_bind hrun
  obtain ⟨fs9, ho9⟩ := m_is_spec ho9
  obtain ⟨x45, hc9, hrun⟩ := m_bind hrun
  refine mr_calli (mr_runV (As := [.int v1, .int 0]) (rest := [.int 4]) hx hb hml hown hts (c_X8_of l D ids st z hc9) yk_X8_of ys_X8_of wm_3_106 ⟨(Nat.le_of_ble_eq_true rfl), (Nat.le_of_ble_eq_true rfl)⟩ (mr_recv (ci := 6) hR hE hz hS hA rfl ho9) hl.1 rfl (Nat.le_of_ble_eq_true rfl) dX8_refuses_45 ⟨(Nat.le_of_ble_eq_true rfl), (Nat.le_of_ble_eq_true rfl)⟩) hR hz hS hA (fun H locs hR hz hS => ?_)
  refine lv_imul hx hb dX8_refuses_48 ?_
  refine lv_aload_n hx hb dX8_refuses_49 rfl (lv_at hl 1 rfl) ?_
  refine lv_iload_n hx hb dX8_refuses_50 rfl (lv_at hl 2 rfl) ?_
  refine lv_iconst (v := 1) hx hb dX8_refuses_51 (by decide) ?_
  obtain ⟨_, ho9, hrun⟩ := m_bind hrun
  obtain ⟨fs9, ho9⟩ := m_is_spec ho9
  obtain ⟨x52, hc9, hrun⟩ := m_bind hrun
  refine mr_calli (mr_runV (As := [.int v1, .int 1]) (rest := [.int (4 * x45)]) hx hb hml hown hts (c_X8_of l D ids st z hc9) yk_X8_of ys_X8_of wm_3_106 ⟨(Nat.le_of_ble_eq_true rfl), (Nat.le_of_ble_eq_true rfl)⟩ (mr_recv (ci := 6) hR hE hz hS hA rfl ho9) hl.1 rfl (Nat.le_of_ble_eq_true rfl) dX8_refuses_52 ⟨(Nat.le_of_ble_eq_true rfl), (Nat.le_of_ble_eq_true rfl)⟩) hR hz hS hA (fun H locs hR hz hS => ?_)
  refine lv_bipush (v := 7) hx hb dX8_refuses_55 (by decide) ?_
  obtain ⟨x57, hc9, hrun⟩ := m_bind hrun
  obtain ⟨hn9, rfl⟩ := m_div_spec hc9
  refine lv_idiv hx hb dX8_refuses_57 hn9 ?_
  refine lv_topi (fun x57 ex57 => ?_)
  try rw [← ex57] at hrun
  refine lv_iadd hx hb dX8_refuses_58 ?_
  refine lv_istore (lv' := [(5, .int ((4 * x45) + x57)), (4, .int t0), (0, .ref v0), (1, .int v1), (2, .int v2), (3, .int v3)]) hx hb dX8_refuses_59 hl (by decide) rfl (fun ls hl => ?_)
  refine lv_iload hx hb dX8_refuses_61 (lv_at hl 1 rfl) ?_
  refine lv_if_eq (tgt := 79) hx hb dX8_refuses_63 (by decide) (fun hc => ?_) (fun hc => ?_)
  · have hrun := mt_t hrun hc
    refine lv_iload_n hx hb dX8_refuses_79 rfl (lv_at hl 4 rfl) ?_
    refine lv_aload_n hx hb dX8_refuses_80 rfl (lv_at hl 2 rfl) ?_
    refine lv_iload_n hx hb dX8_refuses_81 rfl (lv_at hl 3 rfl) ?_
    refine lv_iconst (v := 2) hx hb dX8_refuses_82 (by decide) ?_
    obtain ⟨_, ho9, hrun⟩ := m_bind hrun
    obtain ⟨fs9, ho9⟩ := m_is_spec ho9
    obtain ⟨x83, hc9, hrun⟩ := m_bind hrun
    refine mr_calli (mr_runV (As := [.int v1, .int 2]) (rest := [.int v2]) hx hb hml hown hts (c_X8_of l D ids st z hc9) yk_X8_of ys_X8_of wm_3_106 ⟨(Nat.le_of_ble_eq_true rfl), (Nat.le_of_ble_eq_true rfl)⟩ (mr_recv (ci := 6) hR hE hz hS hA rfl ho9) hl.1 rfl (Nat.le_of_ble_eq_true rfl) dX8_refuses_83 ⟨(Nat.le_of_ble_eq_true rfl), (Nat.le_of_ble_eq_true rfl)⟩) hR hz hS hA (fun H locs hR hz hS => ?_)
    refine lv_icmp_le (tgt := 91) hx hb dX8_refuses_86 (by decide) (fun hc => ?_) (fun hc => ?_)
    · have hrun := mt_t hrun hc
      exact k_X8_refuses_b91 hx hb hr hml hown hts hlocks hin hE hA _ _ _ _ _ _ _ _ _ _ hrun hR hz hS (lv_sub hl [2, 3, 4, 5, 1, 0] rfl)
    · have hrun := mt_f hrun hc
      exact k_X8_refuses_b89 hx hb hr hml hown hts hlocks hin hE hA _ _ _ _ hrun hR hz hS (lv_sub hl [] rfl)
  · have hrun := mt_f hrun hc
    refine lv_iload_n hx hb dX8_refuses_66 rfl (lv_at hl 4 rfl) ?_
    refine lv_aload_n hx hb dX8_refuses_67 rfl (lv_at hl 2 rfl) ?_
    refine lv_iload_n hx hb dX8_refuses_68 rfl (lv_at hl 3 rfl) ?_
    refine lv_iconst (v := 2) hx hb dX8_refuses_69 (by decide) ?_
    obtain ⟨_, ho9, hrun⟩ := m_bind hrun
    obtain ⟨fs9, ho9⟩ := m_is_spec ho9
    obtain ⟨x70, hc9, hrun⟩ := m_bind hrun
    refine mr_calli (mr_runV (As := [.int v1, .int 2]) (rest := [.int v2]) hx hb hml hown hts (c_X8_of l D ids st z hc9) yk_X8_of ys_X8_of wm_3_106 ⟨(Nat.le_of_ble_eq_true rfl), (Nat.le_of_ble_eq_true rfl)⟩ (mr_recv (ci := 6) hR hE hz hS hA rfl ho9) hl.1 rfl (Nat.le_of_ble_eq_true rfl) dX8_refuses_70 ⟨(Nat.le_of_ble_eq_true rfl), (Nat.le_of_ble_eq_true rfl)⟩) hR hz hS hA (fun H locs hR hz hS => ?_)
    refine lv_icmp_ge (tgt := 91) hx hb dX8_refuses_73 (by decide) (fun hc => ?_) (fun hc => ?_)
    · have hrun := mt_t hrun hc
      exact k_X8_refuses_b91 hx hb hr hml hown hts hlocks hin hE hA _ _ _ _ _ _ _ _ _ _ hrun hR hz hS (lv_sub hl [2, 3, 4, 5, 1, 0] rfl)
    · have hrun := mt_f hrun hc
      refine lv_goto (tgt := 89) hx hb dX8_refuses_76 (by decide) ?_
      exact k_X8_refuses_b89 hx hb hr hml hown hts hlocks hin hE hA _ _ _ _ hrun hR hz hS (lv_sub hl [] rfl)
set_option maxRecDepth 100000 in
set_option maxHeartbeats 4000000 in
theorem c_X8_refuses (l : Launch) (D : va_G) (ids : m_I3) (st : m_T) (z : Nat) {h : mH} {v0 : Nat} {v1 : Int32} {v2 : Int32} {v3 : Int32} {r : Int32} {hF : mH} (hrun : s_X8_refuses h v0 v1 v2 v3 = some (r, hF)) : Met l yX8_refuses (m_ws yX8_refuses cX8_refuses 8 (some .int)) rm_X8_refuses (mPc D ids st [.ref v0, .int v1, .int v2, .int v3] h z) (mQi D ids (m_A h z) r hF z) rm_X8_refuses.cells rm_X8_refuses.slots (m_A h z) := by
  refine mr_of (cc := cX8_refuses) (maxL := 8) (ret := some .int) (by decide) rfl (Nat.le_of_ble_eq_true rfl) ?_
  intro p e s m below meth c ls hx hb hr hml hown hts hlocks hin hR hE hz hl
  have hA : ∀ q, s.heap.size ≤ q → m_A h z q := fun q hq => Or.inr (by rw [← hz]; exact hq)
  have hS : va_S (m_A h z) s.heap s.heap [] := va_S.rf
  have hl : lv_has ls 8 [(0, .ref v0), (1, .int v1), (2, .int v2), (3, .int v3)] := hl
  unfold s_X8_refuses at hrun
  refine lv_aload_n hx hb dX8_refuses_0 rfl (lv_at hl 0 rfl) ?_
  obtain ⟨_, ho9, hrun⟩ := m_bind hrun
  obtain ⟨fs9, ho9⟩ := m_is_spec ho9
  obtain ⟨h1, hc9, hrun⟩ := m_bind hrun
  refine mr_callv (mr_runV (As := []) (rest := []) hx hb hml hown hts (c_X8_laysRides l D ids st z hc9) yk_X8_laysRides ys_X8_laysRides wm_3_130 ⟨(Nat.le_of_ble_eq_true rfl), (Nat.le_of_ble_eq_true rfl)⟩ (mr_recv (ci := 6) hR hE hz hS hA rfl ho9) hl.1 rfl (Nat.le_of_ble_eq_true rfl) dX8_refuses_1 ⟨(Nat.le_of_ble_eq_true rfl), (Nat.le_of_ble_eq_true rfl)⟩) hR hz hS hA (fun H locs hR hz hS => ?_)
  refine lv_aload_n hx hb dX8_refuses_4 rfl (lv_at hl 0 rfl) ?_
  refine lv_iload_n hx hb dX8_refuses_5 rfl (lv_at hl 1 rfl) ?_
  obtain ⟨_, ho9, hrun⟩ := m_bind hrun
  obtain ⟨fs9, ho9⟩ := m_is_spec ho9
  obtain ⟨x6, hc9, hrun⟩ := m_bind hrun
  refine mr_calli (mr_runV (As := [.int v1]) (rest := []) hx hb hml hown hts (c_X8_isTap l D ids st z hc9) yk_X8_isTap ys_X8_isTap wm_3_114 ⟨(Nat.le_of_ble_eq_true rfl), (Nat.le_of_ble_eq_true rfl)⟩ (mr_recv (ci := 6) hR hE hz hS hA rfl ho9) hl.1 rfl (Nat.le_of_ble_eq_true rfl) dX8_refuses_6 ⟨(Nat.le_of_ble_eq_true rfl), (Nat.le_of_ble_eq_true rfl)⟩) hR hz hS hA (fun H locs hR hz hS => ?_)
  refine lv_if_eq (tgt := 22) hx hb dX8_refuses_9 (by decide) (fun hc => ?_) (fun hc => ?_)
  · have hrun := mt_t hrun hc
    exact k_X8_refuses_b22 hx hb hr hml hown hts hlocks hin hE hA _ _ _ _ hrun hR hz hS (lv_sub hl [] rfl)
  · have hrun := mt_f hrun hc
    refine lv_aload_n hx hb dX8_refuses_12 rfl (lv_at hl 0 rfl) ?_
    obtain ⟨x13, hc9, hrun⟩ := m_bind hrun
    refine mr_get (C := RX8) (T := TX8) (N := 13) (ci := 6) hx hb hts (fun w q => m_ws_in (wi_X8 w q)) hown hR rfl 7 (by decide) (hts _ (m_ws_in wm_3_40)) (fun _ h9 => h9) (m_gr_spec hc9) dX8_refuses_13 ?_
    refine lv_iload_n hx hb dX8_refuses_16 rfl (lv_at hl 1 rfl) ?_
    obtain ⟨x17, hc9, hrun⟩ := m_bind hrun
    refine mr_iald hx hb hR hc9 dX8_refuses_17 ?_
    refine lv_iconst (v := (-1)) hx hb dX8_refuses_18 (by decide) ?_
    refine lv_icmp_eq (tgt := 24) hx hb dX8_refuses_19 (by decide) (fun hc => ?_) (fun hc => ?_)
    · have hrun := mt_t hrun hc
      refine lv_aload_n hx hb dX8_refuses_24 rfl (lv_at hl 0 rfl) ?_
      refine lv_iload_n hx hb dX8_refuses_25 rfl (lv_at hl 1 rfl) ?_
      refine lv_iconst (v := 4) hx hb dX8_refuses_26 (by decide) ?_
      obtain ⟨_, ho9, hrun⟩ := m_bind hrun
      obtain ⟨fs9, ho9⟩ := m_is_spec ho9
      obtain ⟨x27, hc9, hrun⟩ := m_bind hrun
      refine mr_calli (mr_runV (As := [.int v1, .int 4]) (rest := []) hx hb hml hown hts (c_X8_of l D ids st z hc9) yk_X8_of ys_X8_of wm_3_106 ⟨(Nat.le_of_ble_eq_true rfl), (Nat.le_of_ble_eq_true rfl)⟩ (mr_recv (ci := 6) hR hE hz hS hA rfl ho9) hl.1 rfl (Nat.le_of_ble_eq_true rfl) dX8_refuses_27 ⟨(Nat.le_of_ble_eq_true rfl), (Nat.le_of_ble_eq_true rfl)⟩) hR hz hS hA (fun H locs hR hz hS => ?_)
      refine lv_iconst (v := 1) hx hb dX8_refuses_30 (by decide) ?_
      refine lv_icmp_ne (tgt := 38) hx hb dX8_refuses_31 (by decide) (fun hc => ?_) (fun hc => ?_)
      · have hrun := mt_f hrun hc
        refine lv_iconst (v := 0) hx hb dX8_refuses_38 (by decide) ?_
        exact k_X8_refuses_b39 hx hb hr hml hown hts hlocks hin hE hA _ _ _ _ _ _ _ _ _ hrun hR hz hS (lv_sub hl [0, 1, 2, 3] rfl)
      · have hrun := mt_t hrun hc
        refine lv_iconst (v := 1) hx hb dX8_refuses_34 (by decide) ?_
        refine lv_goto (tgt := 39) hx hb dX8_refuses_35 (by decide) ?_
        exact k_X8_refuses_b39 hx hb hr hml hown hts hlocks hin hE hA _ _ _ _ _ _ _ _ _ hrun hR hz hS (lv_sub hl [0, 1, 2, 3] rfl)
    · have hrun := mt_f hrun hc
      exact k_X8_refuses_b22 hx hb hr hml hown hts hlocks hin hE hA _ _ _ _ hrun hR hz hS (lv_sub hl [] rfl)
/-! X8_putAside -/
abbrev rm_X8_putAside : Room := { frames := 0, cells := 0, slots := 0, locals := 0 }
theorem yk_X8_putAside : m_K yX8_putAside cX8_putAside 2 (none) 0 := ⟨wm_3_125, wm_0_10, by decide +kernel⟩
theorem ys_X8_putAside : Cond.instanceMethod yX8_putAside ∈ wT ∧ Cond.selects RX8 yX8_putAside yX8_putAside ∈ wT := ⟨wm_3_124, wp_1_14⟩
set_option maxRecDepth 100000 in
set_option maxHeartbeats 4000000 in
theorem k_X8_putAside_L2 {p : Program} {l : Launch} {e : Env} {s : State} {m : MethodId} {args : Array Value} {below : List Frame} {meth : Method} {c : Code} {D : va_G} {ids : m_I3} {st : m_T} {A : Nat → Prop} {z : Nat} {hF : mH} (hx : p.tables.exec = Jvm.exec) (hb : c.code = cX8_putAside) (hr : meth.sig.returnType = none) (hml : c.maxLocals = 2) (hown : s.vm.findClass RX8 = some m.cls) (hts : ∀ w ∈ (m_ws yX8_putAside cX8_putAside 2 (none)), w.before args s = true) (hlocks : meth.locks = false) (hin : meth.name = yX8_putAside.name) (hE : m_EV st A s s.heap) (hA : ∀ q, s.heap.size ≤ q → A q) : ∀ (n : Nat) (h : mH) (v0 : Nat) (v1 : Int32) (H : Heap) (locs : List Loc) (ls : Array Slot), s_X8_putAside_L2 n h v0 v1 = some hF → Rl D ids A h s H → H.size = z → va_S A s.heap H locs → lv_has ls 2 [(0, .ref v0), (1, .int v1)] → W p l e rm_X8_putAside s m args below meth c H locs 0 0 (MQ below (mQv D ids A hF z) args s 0 0 A) (F0 m 2 ls []) := by
  intro n
  induction n with
  | zero => intro h v0 v1 H locs ls hrun; exact absurd hrun (by intro h9; cases h9)
  | succ n ih =>
    intro h v0 v1 H locs ls hrun hR hz hS hl
    rw [s_X8_putAside_L2] at hrun
    refine lv_iload_n hx hb dX8_putAside_2 rfl (lv_at hl 1 rfl) ?_
    refine lv_sipush (v := 492) hx hb dX8_putAside_3 (by decide) ?_
    refine lv_icmp_ge (tgt := 27) hx hb dX8_putAside_6 (by decide) (fun hc => ?_) (fun hc => ?_)
    · have hrun := mt_t hrun hc
      obtain rfl := Option.some.inj hrun
      exact mr_vret hx hb hr hlocks hR hz hS dX8_putAside_27
    · have hrun := mt_f hrun hc
      refine lv_aload_n hx hb dX8_putAside_9 rfl (lv_at hl 0 rfl) ?_
      obtain ⟨x10, hc9, hrun⟩ := m_bind hrun
      refine mr_get (C := RX8) (T := TX8) (N := 13) (ci := 6) hx hb hts (fun w q => m_ws_in (wi_X8 w q)) hown hR rfl 2 (by decide) (hts _ (m_ws_in wm_3_35)) (fun _ h9 => h9) (m_gr_spec hc9) dX8_putAside_10 ?_
      refine lv_iload_n hx hb dX8_putAside_13 rfl (lv_at hl 1 rfl) ?_
      refine lv_aload_n hx hb dX8_putAside_14 rfl (lv_at hl 0 rfl) ?_
      obtain ⟨x15, hc9, hrun⟩ := m_bind hrun
      refine mr_get (C := RX8) (T := TX8) (N := 13) (ci := 6) hx hb hts (fun w q => m_ws_in (wi_X8 w q)) hown hR rfl 1 (by decide) (hts _ (m_ws_in wm_3_34)) (fun _ h9 => h9) (m_gr_spec hc9) dX8_putAside_15 ?_
      refine lv_iload_n hx hb dX8_putAside_18 rfl (lv_at hl 1 rfl) ?_
      obtain ⟨x19, hc9, hrun⟩ := m_bind hrun
      refine mr_iald hx hb hR hc9 dX8_putAside_19 ?_
      obtain ⟨h20, hc9, hrun⟩ := m_bind hrun
      refine mr_iast hx hb hR hz hS hc9 dX8_putAside_20 (fun H locs hR hz hS => ?_)
      refine lv_iinc (v := v1 + 1) (lv' := [(1, .int (v1 + 1)), (0, .ref v0)]) hx hb dX8_putAside_21 hl (k := 1) rfl rfl (by decide) rfl (fun ls hl => ?_)
      refine lv_goto (tgt := 2) hx hb dX8_putAside_24 (by decide) ?_
      exact ih _ _ _ _ _ _ hrun hR hz hS (lv_sub hl [1, 0] rfl)
set_option maxRecDepth 100000 in
set_option maxHeartbeats 4000000 in
theorem c_X8_putAside (l : Launch) (D : va_G) (ids : m_I3) (st : m_T) (z : Nat) {h : mH} {v0 : Nat} {hF : mH} (hrun : s_X8_putAside h v0 = some hF) : Met l yX8_putAside (m_ws yX8_putAside cX8_putAside 2 (none)) rm_X8_putAside (mPc D ids st [.ref v0] h z) (mQv D ids (m_A h z) hF z) rm_X8_putAside.cells rm_X8_putAside.slots (m_A h z) := by
  refine mr_of (cc := cX8_putAside) (maxL := 2) (ret := none) (by decide) rfl (Nat.le_of_ble_eq_true rfl) ?_
  intro p e s m below meth c ls hx hb hr hml hown hts hlocks hin hR hE hz hl
  have hA : ∀ q, s.heap.size ≤ q → m_A h z q := fun q hq => Or.inr (by rw [← hz]; exact hq)
  have hS : va_S (m_A h z) s.heap s.heap [] := va_S.rf
  have hl : lv_has ls 2 [(0, .ref v0)] := hl
  unfold s_X8_putAside at hrun
  refine lv_iconst (v := 0) hx hb dX8_putAside_0 (by decide) ?_
  refine lv_istore_n (lv' := [(1, .int 0), (0, .ref v0)]) hx hb dX8_putAside_1 rfl hl (by decide) rfl (fun ls hl => ?_)
  exact k_X8_putAside_L2 hx hb hr hml hown hts hlocks hin hE hA _ _ _ _ _ _ _ hrun hR hz hS (lv_sub hl [1, 0] rfl)
/-! X8_takeBack -/
abbrev rm_X8_takeBack : Room := { frames := 0, cells := 0, slots := 0, locals := 0 }
theorem yk_X8_takeBack : m_K yX8_takeBack cX8_takeBack 2 (none) 0 := ⟨wm_3_141, wm_0_10, by decide +kernel⟩
theorem ys_X8_takeBack : Cond.instanceMethod yX8_takeBack ∈ wT ∧ Cond.selects RX8 yX8_takeBack yX8_takeBack ∈ wT := ⟨wm_3_140, wp_2_2⟩
set_option maxRecDepth 100000 in
set_option maxHeartbeats 4000000 in
theorem k_X8_takeBack_L2 {p : Program} {l : Launch} {e : Env} {s : State} {m : MethodId} {args : Array Value} {below : List Frame} {meth : Method} {c : Code} {D : va_G} {ids : m_I3} {st : m_T} {A : Nat → Prop} {z : Nat} {hF : mH} (hx : p.tables.exec = Jvm.exec) (hb : c.code = cX8_takeBack) (hr : meth.sig.returnType = none) (hml : c.maxLocals = 2) (hown : s.vm.findClass RX8 = some m.cls) (hts : ∀ w ∈ (m_ws yX8_takeBack cX8_takeBack 2 (none)), w.before args s = true) (hlocks : meth.locks = false) (hin : meth.name = yX8_takeBack.name) (hE : m_EV st A s s.heap) (hA : ∀ q, s.heap.size ≤ q → A q) : ∀ (n : Nat) (h : mH) (v0 : Nat) (v1 : Int32) (H : Heap) (locs : List Loc) (ls : Array Slot), s_X8_takeBack_L2 n h v0 v1 = some hF → Rl D ids A h s H → H.size = z → va_S A s.heap H locs → lv_has ls 2 [(0, .ref v0), (1, .int v1)] → W p l e rm_X8_takeBack s m args below meth c H locs 0 0 (MQ below (mQv D ids A hF z) args s 0 0 A) (F0 m 2 ls []) := by
  intro n
  induction n with
  | zero => intro h v0 v1 H locs ls hrun; exact absurd hrun (by intro h9; cases h9)
  | succ n ih =>
    intro h v0 v1 H locs ls hrun hR hz hS hl
    rw [s_X8_takeBack_L2] at hrun
    refine lv_iload_n hx hb dX8_takeBack_2 rfl (lv_at hl 1 rfl) ?_
    refine lv_sipush (v := 492) hx hb dX8_takeBack_3 (by decide) ?_
    refine lv_icmp_ge (tgt := 27) hx hb dX8_takeBack_6 (by decide) (fun hc => ?_) (fun hc => ?_)
    · have hrun := mt_t hrun hc
      obtain rfl := Option.some.inj hrun
      exact mr_vret hx hb hr hlocks hR hz hS dX8_takeBack_27
    · have hrun := mt_f hrun hc
      refine lv_aload_n hx hb dX8_takeBack_9 rfl (lv_at hl 0 rfl) ?_
      obtain ⟨x10, hc9, hrun⟩ := m_bind hrun
      refine mr_get (C := RX8) (T := TX8) (N := 13) (ci := 6) hx hb hts (fun w q => m_ws_in (wi_X8 w q)) hown hR rfl 1 (by decide) (hts _ (m_ws_in wm_3_34)) (fun _ h9 => h9) (m_gr_spec hc9) dX8_takeBack_10 ?_
      refine lv_iload_n hx hb dX8_takeBack_13 rfl (lv_at hl 1 rfl) ?_
      refine lv_aload_n hx hb dX8_takeBack_14 rfl (lv_at hl 0 rfl) ?_
      obtain ⟨x15, hc9, hrun⟩ := m_bind hrun
      refine mr_get (C := RX8) (T := TX8) (N := 13) (ci := 6) hx hb hts (fun w q => m_ws_in (wi_X8 w q)) hown hR rfl 2 (by decide) (hts _ (m_ws_in wm_3_35)) (fun _ h9 => h9) (m_gr_spec hc9) dX8_takeBack_15 ?_
      refine lv_iload_n hx hb dX8_takeBack_18 rfl (lv_at hl 1 rfl) ?_
      obtain ⟨x19, hc9, hrun⟩ := m_bind hrun
      refine mr_iald hx hb hR hc9 dX8_takeBack_19 ?_
      obtain ⟨h20, hc9, hrun⟩ := m_bind hrun
      refine mr_iast hx hb hR hz hS hc9 dX8_takeBack_20 (fun H locs hR hz hS => ?_)
      refine lv_iinc (v := v1 + 1) (lv' := [(1, .int (v1 + 1)), (0, .ref v0)]) hx hb dX8_takeBack_21 hl (k := 1) rfl rfl (by decide) rfl (fun ls hl => ?_)
      refine lv_goto (tgt := 2) hx hb dX8_takeBack_24 (by decide) ?_
      exact ih _ _ _ _ _ _ hrun hR hz hS (lv_sub hl [1, 0] rfl)
set_option maxRecDepth 100000 in
set_option maxHeartbeats 4000000 in
theorem c_X8_takeBack (l : Launch) (D : va_G) (ids : m_I3) (st : m_T) (z : Nat) {h : mH} {v0 : Nat} {hF : mH} (hrun : s_X8_takeBack h v0 = some hF) : Met l yX8_takeBack (m_ws yX8_takeBack cX8_takeBack 2 (none)) rm_X8_takeBack (mPc D ids st [.ref v0] h z) (mQv D ids (m_A h z) hF z) rm_X8_takeBack.cells rm_X8_takeBack.slots (m_A h z) := by
  refine mr_of (cc := cX8_takeBack) (maxL := 2) (ret := none) (by decide) rfl (Nat.le_of_ble_eq_true rfl) ?_
  intro p e s m below meth c ls hx hb hr hml hown hts hlocks hin hR hE hz hl
  have hA : ∀ q, s.heap.size ≤ q → m_A h z q := fun q hq => Or.inr (by rw [← hz]; exact hq)
  have hS : va_S (m_A h z) s.heap s.heap [] := va_S.rf
  have hl : lv_has ls 2 [(0, .ref v0)] := hl
  unfold s_X8_takeBack at hrun
  refine lv_iconst (v := 0) hx hb dX8_takeBack_0 (by decide) ?_
  refine lv_istore_n (lv' := [(1, .int 0), (0, .ref v0)]) hx hb dX8_takeBack_1 rfl hl (by decide) rfl (fun ls hl => ?_)
  exact k_X8_takeBack_L2 hx hb hr hml hown hts hlocks hin hE hA _ _ _ _ _ _ _ hrun hR hz hS (lv_sub hl [1, 0] rfl)
/-! X8_claim -/
abbrev rm_X8_claim : Room := { frames := 4, cells := 0, slots := 0, locals := 99 }
theorem yk_X8_claim : m_K yX8_claim cX8_claim 5 (some .int) 3 := ⟨wm_3_121, wm_0_10, by decide +kernel⟩
theorem ys_X8_claim : Cond.instanceMethod yX8_claim ∈ wT ∧ Cond.selects RX8 yX8_claim yX8_claim ∈ wT := ⟨wm_3_119, wm_3_120⟩
set_option maxRecDepth 100000 in
set_option maxHeartbeats 4000000 in
theorem k_X8_claim_b26 {p : Program} {l : Launch} {e : Env} {s : State} {m : MethodId} {args : Array Value} {below : List Frame} {meth : Method} {c : Code} {D : va_G} {ids : m_I3} {st : m_T} {A : Nat → Prop} {z : Nat} {r : Int32} {hF : mH} (hx : p.tables.exec = Jvm.exec) (hb : c.code = cX8_claim) (hr : meth.sig.returnType = some .int) (hml : c.maxLocals = 5) (hown : s.vm.findClass RX8 = some m.cls) (hts : ∀ w ∈ (m_ws yX8_claim cX8_claim 5 (some .int)), w.before args s = true) (hlocks : meth.locks = false) (hin : meth.name = yX8_claim.name) (hE : m_EV st A s s.heap) (hA : ∀ q, s.heap.size ≤ q → A q) (h : mH) (v0 : Nat) (H : Heap) (locs : List Loc) (ls : Array Slot) (hrun : s_X8_claim_b26 h v0 = some (r, hF)) (hR : Rl D ids A h s H) (hz : H.size = z) (hS : va_S A s.heap H locs) (hl : lv_has ls 5 [(0, .ref v0)]) : W p l e rm_X8_claim s m args below meth c H locs 0 0 (MQ below (mQi D ids A r hF z) args s 0 0 A) (F0 m 26 ls []) := by
  unfold s_X8_claim_b26 at hrun
  refine lv_aload_n hx hb dX8_claim_26 rfl (lv_at hl 0 rfl) ?_
  refine lv_iconst (v := 1) hx hb dX8_claim_27 (by decide) ?_
  obtain ⟨_, ho9, hrun⟩ := m_bind hrun
  obtain ⟨fs9, ho9⟩ := m_is_spec ho9
  obtain ⟨⟨x28, h28⟩, hc9, hrun⟩ := m_bind hrun
  refine mr_calli (mr_runV (As := [.int 1]) (rest := []) hx hb hml hown hts (c_X8_fails l D ids st z hc9) yk_X8_fails ys_X8_fails wm_3_90 ⟨(Nat.le_of_ble_eq_true rfl), (Nat.le_of_ble_eq_true rfl)⟩ (mr_recv (ci := 6) hR hE hz hS hA rfl ho9) hl.1 rfl (Nat.le_of_ble_eq_true rfl) dX8_claim_28 ⟨(Nat.le_of_ble_eq_true rfl), (Nat.le_of_ble_eq_true rfl)⟩) hR hz hS hA (fun H locs hR hz hS => ?_)
  obtain ⟨rfl, rfl⟩ := Prod.mk.inj (Option.some.inj hrun)
  exact mr_iret hx hb hr hlocks hR hz hS dX8_claim_31
set_option maxRecDepth 100000 in
set_option maxHeartbeats 4000000 in
theorem k_X8_claim_b69 {p : Program} {l : Launch} {e : Env} {s : State} {m : MethodId} {args : Array Value} {below : List Frame} {meth : Method} {c : Code} {D : va_G} {ids : m_I3} {st : m_T} {A : Nat → Prop} {z : Nat} {r : Int32} {hF : mH} (hx : p.tables.exec = Jvm.exec) (hb : c.code = cX8_claim) (hr : meth.sig.returnType = some .int) (hml : c.maxLocals = 5) (hown : s.vm.findClass RX8 = some m.cls) (hts : ∀ w ∈ (m_ws yX8_claim cX8_claim 5 (some .int)), w.before args s = true) (hlocks : meth.locks = false) (hin : meth.name = yX8_claim.name) (hE : m_EV st A s s.heap) (hA : ∀ q, s.heap.size ≤ q → A q) (h : mH) (v4 : Int32) (H : Heap) (locs : List Loc) (ls : Array Slot) (hrun : s_X8_claim_b69 h v4 = some (r, hF)) (hR : Rl D ids A h s H) (hz : H.size = z) (hS : va_S A s.heap H locs) (hl : lv_has ls 5 [(4, .int v4)]) : W p l e rm_X8_claim s m args below meth c H locs 0 0 (MQ below (mQi D ids A r hF z) args s 0 0 A) (F0 m 69 ls []) := by
  unfold s_X8_claim_b69 at hrun
  refine lv_iload hx hb dX8_claim_69 (lv_at hl 0 rfl) ?_
  obtain ⟨rfl, rfl⟩ := Prod.mk.inj (Option.some.inj hrun)
  exact mr_iret hx hb hr hlocks hR hz hS dX8_claim_71
set_option maxRecDepth 100000 in
set_option maxHeartbeats 4000000 in
theorem c_X8_claim (l : Launch) (D : va_G) (ids : m_I3) (st : m_T) (z : Nat) {h : mH} {v0 : Nat} {v1 : Int32} {v2 : Int32} {v3 : Int32} {r : Int32} {hF : mH} (hrun : s_X8_claim h v0 v1 v2 v3 = some (r, hF)) : Met l yX8_claim (m_ws yX8_claim cX8_claim 5 (some .int)) rm_X8_claim (mPc D ids st [.ref v0, .int v1, .int v2, .int v3] h z) (mQi D ids (m_A h z) r hF z) rm_X8_claim.cells rm_X8_claim.slots (m_A h z) := by
  refine mr_of (cc := cX8_claim) (maxL := 5) (ret := some .int) (by decide) rfl (Nat.le_of_ble_eq_true rfl) ?_
  intro p e s m below meth c ls hx hb hr hml hown hts hlocks hin hR hE hz hl
  have hA : ∀ q, s.heap.size ≤ q → m_A h z q := fun q hq => Or.inr (by rw [← hz]; exact hq)
  have hS : va_S (m_A h z) s.heap s.heap [] := va_S.rf
  have hl : lv_has ls 5 [(0, .ref v0), (1, .int v1), (2, .int v2), (3, .int v3)] := hl
  unfold s_X8_claim at hrun
  refine lv_aload_n hx hb dX8_claim_0 rfl (lv_at hl 0 rfl) ?_
  refine lv_iconst (v := 0) hx hb dX8_claim_1 (by decide) ?_
  obtain ⟨h2, hc9, hrun⟩ := m_bind hrun
  refine mr_put (C := RX8) (T := TX8) (N := 13) (ci := 6) hx hb hts (fun w q => m_ws_in (wi_X8 w q)) tyX8 tyX8_ok nmX8 hown hR hz hS rfl 0 (by decide) (hts _ (m_ws_in wm_3_33)) (fun _ h9 => h9) rfl (tyX8_ok 0 (by decide)) rfl rfl hc9 dX8_claim_2 (fun H locs hR hz hS => ?_)
  refine lv_iload_n hx hb dX8_claim_5 rfl (lv_at hl 2 rfl) ?_
  refine lv_iconst (v := 0) hx hb dX8_claim_6 (by decide) ?_
  refine lv_sipush (v := 1439) hx hb dX8_claim_7 (by decide) ?_
  obtain ⟨x10, hc9, hrun⟩ := m_bind hrun
  refine mr_calli (mr_runS (As := [.int v2, .int 0, .int 1439]) (rest := []) hx hb hml hown hts (c_X8_in l D ids st z hc9) yk_X8_in ys_X8_in wm_3_87 ⟨(Nat.le_of_ble_eq_true rfl), (Nat.le_of_ble_eq_true rfl)⟩ (mr_recvS hR hE hz hS hA) hl.1 rfl (Nat.le_of_ble_eq_true rfl) dX8_claim_10 ⟨(Nat.le_of_ble_eq_true rfl), (Nat.le_of_ble_eq_true rfl)⟩) hR hz hS hA (fun H locs hR hz hS => ?_)
  refine lv_if_eq (tgt := 26) hx hb dX8_claim_13 (by decide) (fun hc => ?_) (fun hc => ?_)
  · have hrun := mt_t hrun hc
    exact k_X8_claim_b26 hx hb hr hml hown hts hlocks hin hE hA _ _ _ _ _ hrun hR hz hS (lv_sub hl [0] rfl)
  · have hrun := mt_f hrun hc
    refine lv_iload_n hx hb dX8_claim_16 rfl (lv_at hl 3 rfl) ?_
    refine lv_iconst (v := 0) hx hb dX8_claim_17 (by decide) ?_
    refine lv_bipush (v := 9) hx hb dX8_claim_18 (by decide) ?_
    obtain ⟨x20, hc9, hrun⟩ := m_bind hrun
    refine mr_calli (mr_runS (As := [.int v3, .int 0, .int 9]) (rest := []) hx hb hml hown hts (c_X8_in l D ids st z hc9) yk_X8_in ys_X8_in wm_3_87 ⟨(Nat.le_of_ble_eq_true rfl), (Nat.le_of_ble_eq_true rfl)⟩ (mr_recvS hR hE hz hS hA) hl.1 rfl (Nat.le_of_ble_eq_true rfl) dX8_claim_20 ⟨(Nat.le_of_ble_eq_true rfl), (Nat.le_of_ble_eq_true rfl)⟩) hR hz hS hA (fun H locs hR hz hS => ?_)
    refine lv_if_ne (tgt := 32) hx hb dX8_claim_23 (by decide) (fun hc => ?_) (fun hc => ?_)
    · have hrun := mt_f hrun hc
      refine lv_aload_n hx hb dX8_claim_32 rfl (lv_at hl 0 rfl) ?_
      obtain ⟨_, ho9, hrun⟩ := m_bind hrun
      obtain ⟨fs9, ho9⟩ := m_is_spec ho9
      obtain ⟨h33, hc9, hrun⟩ := m_bind hrun
      refine mr_callv (mr_runV (As := []) (rest := []) hx hb hml hown hts (c_X8_saves l D ids st z hc9) yk_X8_saves ys_X8_saves wm_3_94 ⟨(Nat.le_of_ble_eq_true rfl), (Nat.le_of_ble_eq_true rfl)⟩ (mr_recv (ci := 6) hR hE hz hS hA rfl ho9) hl.1 rfl (Nat.le_of_ble_eq_true rfl) dX8_claim_33 ⟨(Nat.le_of_ble_eq_true rfl), (Nat.le_of_ble_eq_true rfl)⟩) hR hz hS hA (fun H locs hR hz hS => ?_)
      refine lv_aload_n hx hb dX8_claim_36 rfl (lv_at hl 0 rfl) ?_
      obtain ⟨_, ho9, hrun⟩ := m_bind hrun
      obtain ⟨fs9, ho9⟩ := m_is_spec ho9
      obtain ⟨h37, hc9, hrun⟩ := m_bind hrun
      refine mr_callv (mr_runV (As := []) (rest := []) hx hb hml hown hts (c_X8_putAside l D ids st z hc9) yk_X8_putAside ys_X8_putAside wm_3_122 ⟨(Nat.le_of_ble_eq_true rfl), (Nat.le_of_ble_eq_true rfl)⟩ (mr_recv (ci := 6) hR hE hz hS hA rfl ho9) hl.1 rfl (Nat.le_of_ble_eq_true rfl) dX8_claim_37 ⟨(Nat.le_of_ble_eq_true rfl), (Nat.le_of_ble_eq_true rfl)⟩) hR hz hS hA (fun H locs hR hz hS => ?_)
      refine lv_aload_n hx hb dX8_claim_40 rfl (lv_at hl 0 rfl) ?_
      refine lv_iload_n hx hb dX8_claim_41 rfl (lv_at hl 1 rfl) ?_
      refine lv_iload_n hx hb dX8_claim_42 rfl (lv_at hl 2 rfl) ?_
      refine lv_iload_n hx hb dX8_claim_43 rfl (lv_at hl 3 rfl) ?_
      obtain ⟨_, ho9, hrun⟩ := m_bind hrun
      obtain ⟨fs9, ho9⟩ := m_is_spec ho9
      obtain ⟨⟨x44, h44⟩, hc9, hrun⟩ := m_bind hrun
      refine mr_calli (mr_runV (As := [.int v1, .int v2, .int v3]) (rest := []) hx hb hml hown hts (c_X8_refuses l D ids st z hc9) yk_X8_refuses ys_X8_refuses wm_3_126 ⟨(Nat.le_of_ble_eq_true rfl), (Nat.le_of_ble_eq_true rfl)⟩ (mr_recv (ci := 6) hR hE hz hS hA rfl ho9) hl.1 rfl (Nat.le_of_ble_eq_true rfl) dX8_claim_44 ⟨(Nat.le_of_ble_eq_true rfl), (Nat.le_of_ble_eq_true rfl)⟩) hR hz hS hA (fun H locs hR hz hS => ?_)
      refine lv_istore (lv' := [(4, .int x44), (0, .ref v0), (1, .int v1), (2, .int v2), (3, .int v3)]) hx hb dX8_claim_47 hl (by decide) rfl (fun ls hl => ?_)
      refine lv_iload hx hb dX8_claim_49 (lv_at hl 0 rfl) ?_
      refine lv_if_eq (tgt := 69) hx hb dX8_claim_51 (by decide) (fun hc => ?_) (fun hc => ?_)
      · have hrun := mt_t hrun hc
        exact k_X8_claim_b69 hx hb hr hml hown hts hlocks hin hE hA _ _ _ _ _ hrun hR hz hS (lv_sub hl [0] rfl)
      · have hrun := mt_f hrun hc
        refine lv_aload_n hx hb dX8_claim_54 rfl (lv_at hl 1 rfl) ?_
        obtain ⟨_, ho9, hrun⟩ := m_bind hrun
        obtain ⟨fs9, ho9⟩ := m_is_spec ho9
        obtain ⟨h55, hc9, hrun⟩ := m_bind hrun
        refine mr_callv (mr_runV (As := []) (rest := []) hx hb hml hown hts (c_X8_takeBack l D ids st z hc9) yk_X8_takeBack ys_X8_takeBack wm_3_138 ⟨(Nat.le_of_ble_eq_true rfl), (Nat.le_of_ble_eq_true rfl)⟩ (mr_recv (ci := 6) hR hE hz hS hA rfl ho9) hl.1 rfl (Nat.le_of_ble_eq_true rfl) dX8_claim_55 ⟨(Nat.le_of_ble_eq_true rfl), (Nat.le_of_ble_eq_true rfl)⟩) hR hz hS hA (fun H locs hR hz hS => ?_)
        refine lv_aload_n hx hb dX8_claim_58 rfl (lv_at hl 1 rfl) ?_
        obtain ⟨x59, hc9, hrun⟩ := m_bind hrun
        refine mr_get (C := RX8) (T := TX8) (N := 13) (ci := 6) hx hb hts (fun w q => m_ws_in (wi_X8 w q)) hown hR rfl 1 (by decide) (hts _ (m_ws_in wm_3_34)) (fun _ h9 => h9) (m_gr_spec hc9) dX8_claim_59 ?_
        refine lv_bipush (v := 8) hx hb dX8_claim_62 (by decide) ?_
        refine lv_dup2_11 hx hb dX8_claim_64 rfl rfl ?_
        obtain ⟨x65, hc9, hrun⟩ := m_bind hrun
        refine mr_iald hx hb hR hc9 dX8_claim_65 ?_
        refine lv_iconst (v := 1) hx hb dX8_claim_66 (by decide) ?_
        refine lv_iadd hx hb dX8_claim_67 ?_
        obtain ⟨h68, hc9, hrun⟩ := m_bind hrun
        refine mr_iast hx hb hR hz hS hc9 dX8_claim_68 (fun H locs hR hz hS => ?_)
        exact k_X8_claim_b69 hx hb hr hml hown hts hlocks hin hE hA _ _ _ _ _ hrun hR hz hS (lv_sub hl [0] rfl)
    · have hrun := mt_t hrun hc
      exact k_X8_claim_b26 hx hb hr hml hown hts hlocks hin hE hA _ _ _ _ _ hrun hR hz hS (lv_sub hl [0] rfl)
/-! X8_entersLedger -/
abbrev rm_X8_entersLedger : Room := { frames := 0, cells := 0, slots := 0, locals := 0 }
theorem yk_X8_entersLedger : m_K yX8_entersLedger cX8_entersLedger 6 (none) 3 := ⟨wm_3_169, wm_0_10, by decide +kernel⟩
theorem ys_X8_entersLedger : Cond.instanceMethod yX8_entersLedger ∈ wT ∧ Cond.selects RX8 yX8_entersLedger yX8_entersLedger ∈ wT := ⟨wm_3_168, wp_2_8⟩
set_option maxRecDepth 100000 in
set_option maxHeartbeats 4000000 in
theorem k_X8_entersLedger_b97 {p : Program} {l : Launch} {e : Env} {s : State} {m : MethodId} {args : Array Value} {below : List Frame} {meth : Method} {c : Code} {D : va_G} {ids : m_I3} {st : m_T} {A : Nat → Prop} {z : Nat} {hF : mH} (hx : p.tables.exec = Jvm.exec) (hb : c.code = cX8_entersLedger) (hr : meth.sig.returnType = none) (hml : c.maxLocals = 6) (hown : s.vm.findClass RX8 = some m.cls) (hts : ∀ w ∈ (m_ws yX8_entersLedger cX8_entersLedger 6 (none)), w.before args s = true) (hlocks : meth.locks = false) (hin : meth.name = yX8_entersLedger.name) (hE : m_EV st A s s.heap) (hA : ∀ q, s.heap.size ≤ q → A q) (h : mH) (t0 : Nat) (t1 : Int32) (t2 : Int32) (t3 : Int32) (H : Heap) (locs : List Loc) (ls : Array Slot) (hrun : s_X8_entersLedger_b97 h t0 t1 t2 t3 = some hF) (hR : Rl D ids A h s H) (hz : H.size = z) (hS : va_S A s.heap H locs) (hl : lv_has ls 6 []) : W p l e rm_X8_entersLedger s m args below meth c H locs 0 0 (MQ below (mQv D ids A hF z) args s 0 0 A) (F0 m 97 ls [.int t3, .int t2, .int t1, .ref t0]) := by
  unfold s_X8_entersLedger_b97 at hrun
  refine lv_iadd hx hb dX8_entersLedger_97 ?_
  obtain ⟨h98, hc9, hrun⟩ := m_bind hrun
  refine mr_iast hx hb hR hz hS hc9 dX8_entersLedger_98 (fun H locs hR hz hS => ?_)
  obtain rfl := Option.some.inj hrun
  exact mr_vret hx hb hr hlocks hR hz hS dX8_entersLedger_99
set_option maxRecDepth 100000 in
set_option maxHeartbeats 4000000 in
theorem k_X8_entersLedger_L14 {p : Program} {l : Launch} {e : Env} {s : State} {m : MethodId} {args : Array Value} {below : List Frame} {meth : Method} {c : Code} {D : va_G} {ids : m_I3} {st : m_T} {A : Nat → Prop} {z : Nat} {hF : mH} (hx : p.tables.exec = Jvm.exec) (hb : c.code = cX8_entersLedger) (hr : meth.sig.returnType = none) (hml : c.maxLocals = 6) (hown : s.vm.findClass RX8 = some m.cls) (hts : ∀ w ∈ (m_ws yX8_entersLedger cX8_entersLedger 6 (none)), w.before args s = true) (hlocks : meth.locks = false) (hin : meth.name = yX8_entersLedger.name) (hE : m_EV st A s s.heap) (hA : ∀ q, s.heap.size ≤ q → A q) : ∀ (n : Nat) (h : mH) (v0 : Nat) (v1 : Int32) (v2 : Int32) (v3 : Int32) (v4 : Int32) (v5 : Int32) (H : Heap) (locs : List Loc) (ls : Array Slot), s_X8_entersLedger_L14 n h v0 v1 v2 v3 v4 v5 = some hF → Rl D ids A h s H → H.size = z → va_S A s.heap H locs → lv_has ls 6 [(0, .ref v0), (1, .int v1), (2, .int v2), (3, .int v3), (4, .int v4), (5, .int v5)] → W p l e rm_X8_entersLedger s m args below meth c H locs 0 0 (MQ below (mQv D ids A hF z) args s 0 0 A) (F0 m 14 ls []) := by
  intro n
  induction n with
  | zero => intro h v0 v1 v2 v3 v4 v5 H locs ls hrun; exact absurd hrun (by intro h9; cases h9)
  | succ n ih =>
    intro h v0 v1 v2 v3 v4 v5 H locs ls hrun hR hz hS hl
    rw [s_X8_entersLedger_L14] at hrun
    refine lv_iload hx hb dX8_entersLedger_14 (lv_at hl 5 rfl) ?_
    refine lv_iconst (v := 2) hx hb dX8_entersLedger_16 (by decide) ?_
    refine lv_icmp_lt (tgt := 48) hx hb dX8_entersLedger_17 (by decide) (fun hc => ?_) (fun hc => ?_)
    · have hrun := mt_t hrun hc
      refine lv_aload_n hx hb dX8_entersLedger_48 rfl (lv_at hl 0 rfl) ?_
      obtain ⟨x49, hc9, hrun⟩ := m_bind hrun
      refine mr_get (C := RX8) (T := TX8) (N := 13) (ci := 6) hx hb hts (fun w q => m_ws_in (wi_X8 w q)) hown hR rfl 1 (by decide) (hts _ (m_ws_in wm_3_34)) (fun _ h9 => h9) (m_gr_spec hc9) dX8_entersLedger_49 ?_
      refine lv_iload hx hb dX8_entersLedger_52 (lv_at hl 4 rfl) ?_
      refine lv_iload_n hx hb dX8_entersLedger_54 rfl (lv_at hl 2 rfl) ?_
      obtain ⟨h55, hc9, hrun⟩ := m_bind hrun
      refine mr_iast hx hb hR hz hS hc9 dX8_entersLedger_55 (fun H locs hR hz hS => ?_)
      refine lv_aload_n hx hb dX8_entersLedger_56 rfl (lv_at hl 0 rfl) ?_
      obtain ⟨x57, hc9, hrun⟩ := m_bind hrun
      refine mr_get (C := RX8) (T := TX8) (N := 13) (ci := 6) hx hb hts (fun w q => m_ws_in (wi_X8 w q)) hown hR rfl 1 (by decide) (hts _ (m_ws_in wm_3_34)) (fun _ h9 => h9) (m_gr_spec hc9) dX8_entersLedger_57 ?_
      refine lv_iload hx hb dX8_entersLedger_60 (lv_at hl 4 rfl) ?_
      refine lv_iconst (v := 1) hx hb dX8_entersLedger_62 (by decide) ?_
      refine lv_iadd hx hb dX8_entersLedger_63 ?_
      refine lv_iload_n hx hb dX8_entersLedger_64 rfl (lv_at hl 3 rfl) ?_
      obtain ⟨h65, hc9, hrun⟩ := m_bind hrun
      refine mr_iast hx hb hR hz hS hc9 dX8_entersLedger_65 (fun H locs hR hz hS => ?_)
      refine lv_aload_n hx hb dX8_entersLedger_66 rfl (lv_at hl 0 rfl) ?_
      obtain ⟨x67, hc9, hrun⟩ := m_bind hrun
      refine mr_get (C := RX8) (T := TX8) (N := 13) (ci := 6) hx hb hts (fun w q => m_ws_in (wi_X8 w q)) hown hR rfl 1 (by decide) (hts _ (m_ws_in wm_3_34)) (fun _ h9 => h9) (m_gr_spec hc9) dX8_entersLedger_67 ?_
      refine lv_sipush (v := 424) hx hb dX8_entersLedger_70 (by decide) ?_
      refine lv_iload_n hx hb dX8_entersLedger_73 rfl (lv_at hl 1 rfl) ?_
      refine lv_iadd hx hb dX8_entersLedger_74 ?_
      refine lv_dup2_11 hx hb dX8_entersLedger_75 rfl rfl ?_
      obtain ⟨x76, hc9, hrun⟩ := m_bind hrun
      refine mr_iald hx hb hR hc9 dX8_entersLedger_76 ?_
      refine lv_aload_n hx hb dX8_entersLedger_77 rfl (lv_at hl 0 rfl) ?_
      obtain ⟨x78, hc9, hrun⟩ := m_bind hrun
      refine mr_get (C := RX8) (T := TX8) (N := 13) (ci := 6) hx hb hts (fun w q => m_ws_in (wi_X8 w q)) hown hR rfl 1 (by decide) (hts _ (m_ws_in wm_3_34)) (fun _ h9 => h9) (m_gr_spec hc9) dX8_entersLedger_78 ?_
      refine lv_sipush (v := 424) hx hb dX8_entersLedger_81 (by decide) ?_
      refine lv_iload_n hx hb dX8_entersLedger_84 rfl (lv_at hl 1 rfl) ?_
      refine lv_iadd hx hb dX8_entersLedger_85 ?_
      obtain ⟨x86, hc9, hrun⟩ := m_bind hrun
      refine mr_iald hx hb hR hc9 dX8_entersLedger_86 ?_
      refine lv_bipush (v := 8) hx hb dX8_entersLedger_87 (by decide) ?_
      refine lv_icmp_ge (tgt := 96) hx hb dX8_entersLedger_89 (by decide) (fun hc => ?_) (fun hc => ?_)
      · have hrun := mt_t hrun hc
        refine lv_iconst (v := 0) hx hb dX8_entersLedger_96 (by decide) ?_
        exact k_X8_entersLedger_b97 hx hb hr hml hown hts hlocks hin hE hA _ _ _ _ _ _ _ _ hrun hR hz hS (lv_sub hl [] rfl)
      · have hrun := mt_f hrun hc
        refine lv_iconst (v := 1) hx hb dX8_entersLedger_92 (by decide) ?_
        refine lv_goto (tgt := 97) hx hb dX8_entersLedger_93 (by decide) ?_
        exact k_X8_entersLedger_b97 hx hb hr hml hown hts hlocks hin hE hA _ _ _ _ _ _ _ _ hrun hR hz hS (lv_sub hl [] rfl)
    · have hrun := mt_f hrun hc
      refine lv_aload_n hx hb dX8_entersLedger_20 rfl (lv_at hl 0 rfl) ?_
      obtain ⟨x21, hc9, hrun⟩ := m_bind hrun
      refine mr_get (C := RX8) (T := TX8) (N := 13) (ci := 6) hx hb hts (fun w q => m_ws_in (wi_X8 w q)) hown hR rfl 1 (by decide) (hts _ (m_ws_in wm_3_34)) (fun _ h9 => h9) (m_gr_spec hc9) dX8_entersLedger_21 ?_
      refine lv_iload hx hb dX8_entersLedger_24 (lv_at hl 4 rfl) ?_
      refine lv_iload hx hb dX8_entersLedger_26 (lv_at hl 5 rfl) ?_
      refine lv_iadd hx hb dX8_entersLedger_28 ?_
      refine lv_aload_n hx hb dX8_entersLedger_29 rfl (lv_at hl 0 rfl) ?_
      obtain ⟨x30, hc9, hrun⟩ := m_bind hrun
      refine mr_get (C := RX8) (T := TX8) (N := 13) (ci := 6) hx hb hts (fun w q => m_ws_in (wi_X8 w q)) hown hR rfl 1 (by decide) (hts _ (m_ws_in wm_3_34)) (fun _ h9 => h9) (m_gr_spec hc9) dX8_entersLedger_30 ?_
      refine lv_iload hx hb dX8_entersLedger_33 (lv_at hl 4 rfl) ?_
      refine lv_iload hx hb dX8_entersLedger_35 (lv_at hl 5 rfl) ?_
      refine lv_iadd hx hb dX8_entersLedger_37 ?_
      refine lv_iconst (v := 2) hx hb dX8_entersLedger_38 (by decide) ?_
      refine lv_isub hx hb dX8_entersLedger_39 ?_
      obtain ⟨x40, hc9, hrun⟩ := m_bind hrun
      refine mr_iald hx hb hR hc9 dX8_entersLedger_40 ?_
      obtain ⟨h41, hc9, hrun⟩ := m_bind hrun
      refine mr_iast hx hb hR hz hS hc9 dX8_entersLedger_41 (fun H locs hR hz hS => ?_)
      refine lv_iinc (v := v5 + (-1)) (lv' := [(5, .int (v5 + (-1))), (0, .ref v0), (1, .int v1), (2, .int v2), (3, .int v3), (4, .int v4)]) hx hb dX8_entersLedger_42 hl (k := 5) rfl rfl (by decide) rfl (fun ls hl => ?_)
      refine lv_goto (tgt := 14) hx hb dX8_entersLedger_45 (by decide) ?_
      exact ih _ _ _ _ _ _ _ _ _ _ hrun hR hz hS (lv_sub hl [1, 2, 3, 4, 5, 0] rfl)
set_option maxRecDepth 100000 in
set_option maxHeartbeats 4000000 in
theorem c_X8_entersLedger (l : Launch) (D : va_G) (ids : m_I3) (st : m_T) (z : Nat) {h : mH} {v0 : Nat} {v1 : Int32} {v2 : Int32} {v3 : Int32} {hF : mH} (hrun : s_X8_entersLedger h v0 v1 v2 v3 = some hF) : Met l yX8_entersLedger (m_ws yX8_entersLedger cX8_entersLedger 6 (none)) rm_X8_entersLedger (mPc D ids st [.ref v0, .int v1, .int v2, .int v3] h z) (mQv D ids (m_A h z) hF z) rm_X8_entersLedger.cells rm_X8_entersLedger.slots (m_A h z) := by
  refine mr_of (cc := cX8_entersLedger) (maxL := 6) (ret := none) (by decide) rfl (Nat.le_of_ble_eq_true rfl) ?_
  intro p e s m below meth c ls hx hb hr hml hown hts hlocks hin hR hE hz hl
  have hA : ∀ q, s.heap.size ≤ q → m_A h z q := fun q hq => Or.inr (by rw [← hz]; exact hq)
  have hS : va_S (m_A h z) s.heap s.heap [] := va_S.rf
  have hl : lv_has ls 6 [(0, .ref v0), (1, .int v1), (2, .int v2), (3, .int v3)] := hl
  unfold s_X8_entersLedger at hrun
  refine lv_sipush (v := 428) hx hb dX8_entersLedger_0 (by decide) ?_
  refine lv_bipush (v := 16) hx hb dX8_entersLedger_3 (by decide) ?_
  refine lv_iload_n hx hb dX8_entersLedger_5 rfl (lv_at hl 1 rfl) ?_
  refine lv_imul hx hb dX8_entersLedger_6 ?_
  refine lv_iadd hx hb dX8_entersLedger_7 ?_
  refine lv_istore (lv' := [(4, .int (428 + (16 * v1))), (0, .ref v0), (1, .int v1), (2, .int v2), (3, .int v3)]) hx hb dX8_entersLedger_8 hl (by decide) rfl (fun ls hl => ?_)
  refine lv_bipush (v := 15) hx hb dX8_entersLedger_10 (by decide) ?_
  refine lv_istore (lv' := [(5, .int 15), (4, .int (428 + (16 * v1))), (0, .ref v0), (1, .int v1), (2, .int v2), (3, .int v3)]) hx hb dX8_entersLedger_12 hl (by decide) rfl (fun ls hl => ?_)
  exact k_X8_entersLedger_L14 hx hb hr hml hown hts hlocks hin hE hA _ _ _ _ _ _ _ _ _ _ _ hrun hR hz hS (lv_sub hl [2, 3, 4, 5, 1, 0] rfl)
/-! X8_begins -/
abbrev rm_X8_begins : Room := { frames := 0, cells := 0, slots := 0, locals := 0 }
theorem yk_X8_begins : m_K yX8_begins cX8_begins 2 (some .boolean) 1 := ⟨wm_3_161, wm_0_10, by decide +kernel⟩
theorem ys_X8_begins : Cond.instanceMethod yX8_begins ∈ wT ∧ Cond.selects RX8 yX8_begins yX8_begins ∈ wT := ⟨wm_3_160, wp_2_6⟩
set_option maxRecDepth 100000 in
set_option maxHeartbeats 4000000 in
theorem k_X8_begins_b25 {p : Program} {l : Launch} {e : Env} {s : State} {m : MethodId} {args : Array Value} {below : List Frame} {meth : Method} {c : Code} {D : va_G} {ids : m_I3} {st : m_T} {A : Nat → Prop} {z : Nat} {r : Int32} (hx : p.tables.exec = Jvm.exec) (hb : c.code = cX8_begins) (hr : meth.sig.returnType = some .boolean) (hml : c.maxLocals = 2) (hown : s.vm.findClass RX8 = some m.cls) (hts : ∀ w ∈ (m_ws yX8_begins cX8_begins 2 (some .boolean)), w.before args s = true) (hlocks : meth.locks = false) (hin : meth.name = yX8_begins.name) (hE : m_EV st A s s.heap) (hA : ∀ q, s.heap.size ≤ q → A q) {h : mH} (t0 : Int32) (H : Heap) (locs : List Loc) (ls : Array Slot) (hrun : s_X8_begins_b25 h t0 = some r) (hR : Rl D ids A h s H) (hz : H.size = z) (hS : va_S A s.heap H locs) (hl : lv_has ls 2 []) : W p l e rm_X8_begins s m args below meth c H locs 0 0 (MQ below (mQi D ids A r h z) args s 0 0 A) (F0 m 25 ls [.int t0]) := by
  unfold s_X8_begins_b25 at hrun
  obtain ⟨w9, hzr, hrun⟩ := m_bind hrun
  obtain rfl := Option.some.inj hrun
  exact mr_zret hzr hx hb hr hlocks hR hz hS dX8_begins_25
set_option maxRecDepth 100000 in
set_option maxHeartbeats 4000000 in
theorem k_X8_begins_b20 {p : Program} {l : Launch} {e : Env} {s : State} {m : MethodId} {args : Array Value} {below : List Frame} {meth : Method} {c : Code} {D : va_G} {ids : m_I3} {st : m_T} {A : Nat → Prop} {z : Nat} {r : Int32} (hx : p.tables.exec = Jvm.exec) (hb : c.code = cX8_begins) (hr : meth.sig.returnType = some .boolean) (hml : c.maxLocals = 2) (hown : s.vm.findClass RX8 = some m.cls) (hts : ∀ w ∈ (m_ws yX8_begins cX8_begins 2 (some .boolean)), w.before args s = true) (hlocks : meth.locks = false) (hin : meth.name = yX8_begins.name) (hE : m_EV st A s s.heap) (hA : ∀ q, s.heap.size ≤ q → A q) {h : mH} (H : Heap) (locs : List Loc) (ls : Array Slot) (hrun : s_X8_begins_b20 h  = some r) (hR : Rl D ids A h s H) (hz : H.size = z) (hS : va_S A s.heap H locs) (hl : lv_has ls 2 []) : W p l e rm_X8_begins s m args below meth c H locs 0 0 (MQ below (mQi D ids A r h z) args s 0 0 A) (F0 m 20 ls []) := by
  unfold s_X8_begins_b20 at hrun
  refine lv_iconst (v := 1) hx hb dX8_begins_20 (by decide) ?_
  refine lv_goto (tgt := 25) hx hb dX8_begins_21 (by decide) ?_
  exact k_X8_begins_b25 hx hb hr hml hown hts hlocks hin hE hA _ _ _ _ hrun hR hz hS (lv_sub hl [] rfl)
set_option maxRecDepth 100000 in
set_option maxHeartbeats 4000000 in
theorem c_X8_begins (l : Launch) (D : va_G) (ids : m_I3) (st : m_T) (z : Nat) {h : mH} {v0 : Nat} {v1 : Int32} {r : Int32} (hrun : s_X8_begins h v0 v1 = some r) : Met l yX8_begins (m_ws yX8_begins cX8_begins 2 (some .boolean)) rm_X8_begins (mPc D ids st [.ref v0, .int v1] h z) (mQi D ids (m_A h z) r h z) rm_X8_begins.cells rm_X8_begins.slots (m_A h z) := by
  refine mr_of (cc := cX8_begins) (maxL := 2) (ret := some .boolean) (by decide) rfl (Nat.le_of_ble_eq_true rfl) ?_
  intro p e s m below meth c ls hx hb hr hml hown hts hlocks hin hR hE hz hl
  have hA : ∀ q, s.heap.size ≤ q → m_A h z q := fun q hq => Or.inr (by rw [← hz]; exact hq)
  have hS : va_S (m_A h z) s.heap s.heap [] := va_S.rf
  have hl : lv_has ls 2 [(0, .ref v0), (1, .int v1)] := hl
  unfold s_X8_begins at hrun
  refine lv_aload_n hx hb dX8_begins_0 rfl (lv_at hl 0 rfl) ?_
  obtain ⟨x1, hc9, hrun⟩ := m_bind hrun
  refine mr_get (C := RX8) (T := TX8) (N := 13) (ci := 6) hx hb hts (fun w q => m_ws_in (wi_X8 w q)) hown hR rfl 7 (by decide) (hts _ (m_ws_in wm_3_40)) (fun _ h9 => h9) (m_gr_spec hc9) dX8_begins_1 ?_
  refine lv_iload_n hx hb dX8_begins_4 rfl (lv_at hl 1 rfl) ?_
  obtain ⟨x5, hc9, hrun⟩ := m_bind hrun
  refine mr_iald hx hb hR hc9 dX8_begins_5 ?_
  refine lv_iconst (v := (-1)) hx hb dX8_begins_6 (by decide) ?_
  refine lv_icmp_eq (tgt := 20) hx hb dX8_begins_7 (by decide) (fun hc => ?_) (fun hc => ?_)
  · have hrun := mt_t hrun hc
    exact k_X8_begins_b20 hx hb hr hml hown hts hlocks hin hE hA _ _ _ hrun hR hz hS (lv_sub hl [] rfl)
  · have hrun := mt_f hrun hc
    refine lv_aload_n hx hb dX8_begins_10 rfl (lv_at hl 0 rfl) ?_
    obtain ⟨x11, hc9, hrun⟩ := m_bind hrun
    refine mr_get (C := RX8) (T := TX8) (N := 13) (ci := 6) hx hb hts (fun w q => m_ws_in (wi_X8 w q)) hown hR rfl 7 (by decide) (hts _ (m_ws_in wm_3_40)) (fun _ h9 => h9) (m_gr_spec hc9) dX8_begins_11 ?_
    refine lv_iload_n hx hb dX8_begins_14 rfl (lv_at hl 1 rfl) ?_
    obtain ⟨x15, hc9, hrun⟩ := m_bind hrun
    refine mr_iald hx hb hR hc9 dX8_begins_15 ?_
    refine lv_iload_n hx hb dX8_begins_16 rfl (lv_at hl 1 rfl) ?_
    refine lv_icmp_le (tgt := 24) hx hb dX8_begins_17 (by decide) (fun hc => ?_) (fun hc => ?_)
    · have hrun := mt_t hrun hc
      refine lv_iconst (v := 0) hx hb dX8_begins_24 (by decide) ?_
      exact k_X8_begins_b25 hx hb hr hml hown hts hlocks hin hE hA _ _ _ _ hrun hR hz hS (lv_sub hl [] rfl)
    · have hrun := mt_f hrun hc
      exact k_X8_begins_b20 hx hb hr hml hown hts hlocks hin hE hA _ _ _ hrun hR hz hS (lv_sub hl [] rfl)
/-! X8_fare -/
abbrev rm_X8_fare : Room := { frames := 1, cells := 0, slots := 0, locals := 22 }
theorem yk_X8_fare : m_K yX8_fare cX8_fare 3 (some .int) 1 := ⟨wm_3_165, wm_0_10, by decide +kernel⟩
theorem ys_X8_fare : Cond.instanceMethod yX8_fare ∈ wT ∧ Cond.selects RX8 yX8_fare yX8_fare ∈ wT := ⟨wm_3_164, wp_2_7⟩
set_option maxRecDepth 100000 in
set_option maxHeartbeats 4000000 in
theorem k_X8_fare_b62 {p : Program} {l : Launch} {e : Env} {s : State} {m : MethodId} {args : Array Value} {below : List Frame} {meth : Method} {c : Code} {D : va_G} {ids : m_I3} {st : m_T} {A : Nat → Prop} {z : Nat} {r : Int32} (hx : p.tables.exec = Jvm.exec) (hb : c.code = cX8_fare) (hr : meth.sig.returnType = some .int) (hml : c.maxLocals = 3) (hown : s.vm.findClass RX8 = some m.cls) (hts : ∀ w ∈ (m_ws yX8_fare cX8_fare 3 (some .int)), w.before args s = true) (hlocks : meth.locks = false) (hin : meth.name = yX8_fare.name) (hE : m_EV st A s s.heap) (hA : ∀ q, s.heap.size ≤ q → A q) {h : mH} (t0 : Int32) (t1 : Int32) (t2 : Int32) (H : Heap) (locs : List Loc) (ls : Array Slot) (hrun : s_X8_fare_b62 h t0 t1 t2 = some r) (hR : Rl D ids A h s H) (hz : H.size = z) (hS : va_S A s.heap H locs) (hl : lv_has ls 3 []) : W p l e rm_X8_fare s m args below meth c H locs 0 0 (MQ below (mQi D ids A r h z) args s 0 0 A) (F0 m 62 ls [.int t2, .int t1, .int t0]) := by
  unfold s_X8_fare_b62 at hrun
  refine lv_imul hx hb dX8_fare_62 ?_
  refine lv_iadd hx hb dX8_fare_63 ?_
  obtain rfl := Option.some.inj hrun
  exact mr_iret hx hb hr hlocks hR hz hS dX8_fare_64
set_option maxRecDepth 100000 in
set_option maxHeartbeats 4000000 in
theorem c_X8_fare (l : Launch) (D : va_G) (ids : m_I3) (st : m_T) (z : Nat) {h : mH} {v0 : Nat} {v1 : Int32} {r : Int32} (hrun : s_X8_fare h v0 v1 = some r) : Met l yX8_fare (m_ws yX8_fare cX8_fare 3 (some .int)) rm_X8_fare (mPc D ids st [.ref v0, .int v1] h z) (mQi D ids (m_A h z) r h z) rm_X8_fare.cells rm_X8_fare.slots (m_A h z) := by
  refine mr_of (cc := cX8_fare) (maxL := 3) (ret := some .int) (by decide) rfl (Nat.le_of_ble_eq_true rfl) ?_
  intro p e s m below meth c ls hx hb hr hml hown hts hlocks hin hR hE hz hl
  have hA : ∀ q, s.heap.size ≤ q → m_A h z q := fun q hq => Or.inr (by rw [← hz]; exact hq)
  have hS : va_S (m_A h z) s.heap s.heap [] := va_S.rf
  have hl : lv_has ls 3 [(0, .ref v0), (1, .int v1)] := hl
  unfold s_X8_fare at hrun
  refine lv_aload_n hx hb dX8_fare_0 rfl (lv_at hl 0 rfl) ?_
  obtain ⟨x1, hc9, hrun⟩ := m_bind hrun
  refine mr_get (C := RX8) (T := TX8) (N := 13) (ci := 6) hx hb hts (fun w q => m_ws_in (wi_X8 w q)) hown hR rfl 7 (by decide) (hts _ (m_ws_in wm_3_40)) (fun _ h9 => h9) (m_gr_spec hc9) dX8_fare_1 ?_
  refine lv_iload_n hx hb dX8_fare_4 rfl (lv_at hl 1 rfl) ?_
  obtain ⟨x5, hc9, hrun⟩ := m_bind hrun
  refine mr_iald hx hb hR hc9 dX8_fare_5 ?_
  refine lv_iconst (v := (-1)) hx hb dX8_fare_6 (by decide) ?_
  refine lv_icmp_ne (tgt := 17) hx hb dX8_fare_7 (by decide) (fun hc => ?_) (fun hc => ?_)
  · have hrun := mt_f hrun hc
    refine lv_aload_n hx hb dX8_fare_17 rfl (lv_at hl 0 rfl) ?_
    refine lv_iload_n hx hb dX8_fare_18 rfl (lv_at hl 1 rfl) ?_
    refine lv_iconst (v := 3) hx hb dX8_fare_19 (by decide) ?_
    obtain ⟨_, ho9, hrun⟩ := m_bind hrun
    obtain ⟨fs9, ho9⟩ := m_is_spec ho9
    obtain ⟨x20, hc9, hrun⟩ := m_bind hrun
    refine mr_calli (mr_runV (As := [.int v1, .int 3]) (rest := []) hx hb hml hown hts (c_X8_of l D ids st z hc9) yk_X8_of ys_X8_of wm_3_106 ⟨(Nat.le_of_ble_eq_true rfl), (Nat.le_of_ble_eq_true rfl)⟩ (mr_recv (ci := 6) hR hE hz hS hA rfl ho9) hl.1 rfl (Nat.le_of_ble_eq_true rfl) dX8_fare_20 ⟨(Nat.le_of_ble_eq_true rfl), (Nat.le_of_ble_eq_true rfl)⟩) hR hz hS hA (fun H locs hR hz hS => ?_)
    refine lv_iconst (v := 2) hx hb dX8_fare_23 (by decide) ?_
    obtain ⟨x24, hc9, hrun⟩ := m_bind hrun
    obtain ⟨hn9, rfl⟩ := m_div_spec hc9
    refine lv_idiv hx hb dX8_fare_24 hn9 ?_
    refine lv_topi (fun x24 ex24 => ?_)
    try rw [← ex24] at hrun
    refine lv_aload_n hx hb dX8_fare_25 rfl (lv_at hl 0 rfl) ?_
    refine lv_aload_n hx hb dX8_fare_26 rfl (lv_at hl 0 rfl) ?_
    obtain ⟨x27, hc9, hrun⟩ := m_bind hrun
    refine mr_get (C := RX8) (T := TX8) (N := 13) (ci := 6) hx hb hts (fun w q => m_ws_in (wi_X8 w q)) hown hR rfl 7 (by decide) (hts _ (m_ws_in wm_3_40)) (fun _ h9 => h9) (m_gr_spec hc9) dX8_fare_27 ?_
    refine lv_iload_n hx hb dX8_fare_30 rfl (lv_at hl 1 rfl) ?_
    obtain ⟨x31, hc9, hrun⟩ := m_bind hrun
    refine mr_iald hx hb hR hc9 dX8_fare_31 ?_
    refine lv_iconst (v := 3) hx hb dX8_fare_32 (by decide) ?_
    obtain ⟨_, ho9, hrun⟩ := m_bind hrun
    obtain ⟨fs9, ho9⟩ := m_is_spec ho9
    obtain ⟨x33, hc9, hrun⟩ := m_bind hrun
    refine mr_calli (mr_runV (As := [.int x31, .int 3]) (rest := [.int x24]) hx hb hml hown hts (c_X8_of l D ids st z hc9) yk_X8_of ys_X8_of wm_3_106 ⟨(Nat.le_of_ble_eq_true rfl), (Nat.le_of_ble_eq_true rfl)⟩ (mr_recv (ci := 6) hR hE hz hS hA rfl ho9) hl.1 rfl (Nat.le_of_ble_eq_true rfl) dX8_fare_33 ⟨(Nat.le_of_ble_eq_true rfl), (Nat.le_of_ble_eq_true rfl)⟩) hR hz hS hA (fun H locs hR hz hS => ?_)
    refine lv_iconst (v := 2) hx hb dX8_fare_36 (by decide) ?_
    obtain ⟨x37, hc9, hrun⟩ := m_bind hrun
    obtain ⟨hn9, rfl⟩ := m_div_spec hc9
    refine lv_idiv hx hb dX8_fare_37 hn9 ?_
    refine lv_topi (fun x37 ex37 => ?_)
    try rw [← ex37] at hrun
    refine lv_isub hx hb dX8_fare_38 ?_
    refine lv_istore_n (lv' := [(2, .int (x24 - x37)), (0, .ref v0), (1, .int v1)]) hx hb dX8_fare_39 rfl hl (by decide) rfl (fun ls hl => ?_)
    refine lv_aload_n hx hb dX8_fare_40 rfl (lv_at hl 1 rfl) ?_
    obtain ⟨x41, hc9, hrun⟩ := m_bind hrun
    refine mr_get (C := RX8) (T := TX8) (N := 13) (ci := 6) hx hb hts (fun w q => m_ws_in (wi_X8 w q)) hown hR rfl 1 (by decide) (hts _ (m_ws_in wm_3_34)) (fun _ h9 => h9) (m_gr_spec hc9) dX8_fare_41 ?_
    refine lv_iconst (v := 0) hx hb dX8_fare_44 (by decide) ?_
    obtain ⟨x45, hc9, hrun⟩ := m_bind hrun
    refine mr_iald hx hb hR hc9 dX8_fare_45 ?_
    refine lv_aload_n hx hb dX8_fare_46 rfl (lv_at hl 1 rfl) ?_
    obtain ⟨x47, hc9, hrun⟩ := m_bind hrun
    refine mr_get (C := RX8) (T := TX8) (N := 13) (ci := 6) hx hb hts (fun w q => m_ws_in (wi_X8 w q)) hown hR rfl 1 (by decide) (hts _ (m_ws_in wm_3_34)) (fun _ h9 => h9) (m_gr_spec hc9) dX8_fare_47 ?_
    refine lv_iconst (v := 1) hx hb dX8_fare_50 (by decide) ?_
    obtain ⟨x51, hc9, hrun⟩ := m_bind hrun
    refine mr_iald hx hb hR hc9 dX8_fare_51 ?_
    refine lv_iload_n hx hb dX8_fare_52 rfl (lv_at hl 0 rfl) ?_
    refine lv_if_ge (tgt := 61) hx hb dX8_fare_53 (by decide) (fun hc => ?_) (fun hc => ?_)
    · have hrun := mt_t hrun hc
      refine lv_iload_n hx hb dX8_fare_61 rfl (lv_at hl 0 rfl) ?_
      exact k_X8_fare_b62 hx hb hr hml hown hts hlocks hin hE hA _ _ _ _ _ _ hrun hR hz hS (lv_sub hl [] rfl)
    · have hrun := mt_f hrun hc
      refine lv_iload_n hx hb dX8_fare_56 rfl (lv_at hl 0 rfl) ?_
      refine lv_ineg hx hb dX8_fare_57 ?_
      refine lv_goto (tgt := 62) hx hb dX8_fare_58 (by decide) ?_
      exact k_X8_fare_b62 hx hb hr hml hown hts hlocks hin hE hA _ _ _ _ _ _ hrun hR hz hS (lv_sub hl [] rfl)
  · have hrun := mt_t hrun hc
    refine lv_aload_n hx hb dX8_fare_10 rfl (lv_at hl 0 rfl) ?_
    obtain ⟨x11, hc9, hrun⟩ := m_bind hrun
    refine mr_get (C := RX8) (T := TX8) (N := 13) (ci := 6) hx hb hts (fun w q => m_ws_in (wi_X8 w q)) hown hR rfl 1 (by decide) (hts _ (m_ws_in wm_3_34)) (fun _ h9 => h9) (m_gr_spec hc9) dX8_fare_11 ?_
    refine lv_iconst (v := 2) hx hb dX8_fare_14 (by decide) ?_
    obtain ⟨x15, hc9, hrun⟩ := m_bind hrun
    refine mr_iald hx hb hR hc9 dX8_fare_15 ?_
    obtain rfl := Option.some.inj hrun
    exact mr_iret hx hb hr hlocks hR hz hS dX8_fare_16
/-! X8_ofDay -/
abbrev rm_X8_ofDay : Room := { frames := 3, cells := 0, slots := 0, locals := 67 }
theorem yk_X8_ofDay : m_K yX8_ofDay cX8_ofDay 8 (some .int) 3 := ⟨wm_3_157, wm_0_10, by decide +kernel⟩
theorem ys_X8_ofDay : Cond.instanceMethod yX8_ofDay ∈ wT ∧ Cond.selects RX8 yX8_ofDay yX8_ofDay ∈ wT := ⟨wm_3_156, wp_2_5⟩
set_option maxRecDepth 100000 in
set_option maxHeartbeats 4000000 in
theorem k_X8_ofDay_b146 {p : Program} {l : Launch} {e : Env} {s : State} {m : MethodId} {args : Array Value} {below : List Frame} {meth : Method} {c : Code} {D : va_G} {ids : m_I3} {st : m_T} {A : Nat → Prop} {z : Nat} {r : Int32} {hF : mH} (hx : p.tables.exec = Jvm.exec) (hb : c.code = cX8_ofDay) (hr : meth.sig.returnType = some .int) (hml : c.maxLocals = 8) (hown : s.vm.findClass RX8 = some m.cls) (hts : ∀ w ∈ (m_ws yX8_ofDay cX8_ofDay 8 (some .int)), w.before args s = true) (hlocks : meth.locks = false) (hin : meth.name = yX8_ofDay.name) (hE : m_EV st A s s.heap) (hA : ∀ q, s.heap.size ≤ q → A q) (h : mH) (t0 : Int32) (H : Heap) (locs : List Loc) (ls : Array Slot) (hrun : s_X8_ofDay_b146 h t0 = some (r, hF)) (hR : Rl D ids A h s H) (hz : H.size = z) (hS : va_S A s.heap H locs) (hl : lv_has ls 8 []) : W p l e rm_X8_ofDay s m args below meth c H locs 0 0 (MQ below (mQi D ids A r hF z) args s 0 0 A) (F0 m 146 ls [.int t0]) := by
  unfold s_X8_ofDay_b146 at hrun
  obtain ⟨rfl, rfl⟩ := Prod.mk.inj (Option.some.inj hrun)
  exact mr_iret hx hb hr hlocks hR hz hS dX8_ofDay_146
set_option maxRecDepth 100000 in
set_option maxHeartbeats 4000000 in
theorem k_X8_ofDay_b135 {p : Program} {l : Launch} {e : Env} {s : State} {m : MethodId} {args : Array Value} {below : List Frame} {meth : Method} {c : Code} {D : va_G} {ids : m_I3} {st : m_T} {A : Nat → Prop} {z : Nat} {r : Int32} {hF : mH} (hx : p.tables.exec = Jvm.exec) (hb : c.code = cX8_ofDay) (hr : meth.sig.returnType = some .int) (hml : c.maxLocals = 8) (hown : s.vm.findClass RX8 = some m.cls) (hts : ∀ w ∈ (m_ws yX8_ofDay cX8_ofDay 8 (some .int)), w.before args s = true) (hlocks : meth.locks = false) (hin : meth.name = yX8_ofDay.name) (hE : m_EV st A s s.heap) (hA : ∀ q, s.heap.size ≤ q → A q) (h : mH) (v6 : Int32) (H : Heap) (locs : List Loc) (ls : Array Slot) (hrun : s_X8_ofDay_b135 h v6 = some (r, hF)) (hR : Rl D ids A h s H) (hz : H.size = z) (hS : va_S A s.heap H locs) (hl : lv_has ls 8 [(6, .int v6)]) : W p l e rm_X8_ofDay s m args below meth c H locs 0 0 (MQ below (mQi D ids A r hF z) args s 0 0 A) (F0 m 135 ls []) := by
  unfold s_X8_ofDay_b135 at hrun
  refine lv_iload hx hb dX8_ofDay_135 (lv_at hl 0 rfl) ?_
  refine lv_goto (tgt := 146) hx hb dX8_ofDay_137 (by decide) ?_
  exact k_X8_ofDay_b146 hx hb hr hml hown hts hlocks hin hE hA _ _ _ _ _ hrun hR hz hS (lv_sub hl [] rfl)
set_option maxRecDepth 100000 in
set_option maxHeartbeats 4000000 in
theorem k_X8_ofDay_b94 {p : Program} {l : Launch} {e : Env} {s : State} {m : MethodId} {args : Array Value} {below : List Frame} {meth : Method} {c : Code} {D : va_G} {ids : m_I3} {st : m_T} {A : Nat → Prop} {z : Nat} {r : Int32} {hF : mH} (hx : p.tables.exec = Jvm.exec) (hb : c.code = cX8_ofDay) (hr : meth.sig.returnType = some .int) (hml : c.maxLocals = 8) (hown : s.vm.findClass RX8 = some m.cls) (hts : ∀ w ∈ (m_ws yX8_ofDay cX8_ofDay 8 (some .int)), w.before args s = true) (hlocks : meth.locks = false) (hin : meth.name = yX8_ofDay.name) (hE : m_EV st A s s.heap) (hA : ∀ q, s.heap.size ≤ q → A q) {k16 : mH → Nat → Int32 → Int32 → Int32 → Int32 → Int32 → Int32 → Int32 → Option (Int32 × mH)} (hk16 : ∀ (h : mH) (v0 : Nat) (v1 : Int32) (v2 : Int32) (v3 : Int32) (v4 : Int32) (v5 : Int32) (v6 : Int32) (v7 : Int32) (H : Heap) (locs : List Loc) (ls : Array Slot), k16 h v0 v1 v2 v3 v4 v5 v6 v7 = some (r, hF) → Rl D ids A h s H → H.size = z → va_S A s.heap H locs → lv_has ls 8 [(0, .ref v0), (1, .int v1), (2, .int v2), (3, .int v3), (4, .int v4), (5, .int v5), (6, .int v6), (7, .int v7)] → W p l e rm_X8_ofDay s m args below meth c H locs 0 0 (MQ below (mQi D ids A r hF z) args s 0 0 A) (F0 m 16 ls [])) (h : mH) (v0 : Nat) (v1 : Int32) (v2 : Int32) (v3 : Int32) (v4 : Int32) (v5 : Int32) (v6 : Int32) (v7 : Int32) (H : Heap) (locs : List Loc) (ls : Array Slot) (hrun : s_X8_ofDay_b94 k16 h v0 v1 v2 v3 v4 v5 v6 v7 = some (r, hF)) (hR : Rl D ids A h s H) (hz : H.size = z) (hS : va_S A s.heap H locs) (hl : lv_has ls 8 [(0, .ref v0), (1, .int v1), (2, .int v2), (3, .int v3), (4, .int v4), (5, .int v5), (6, .int v6), (7, .int v7)]) : W p l e rm_X8_ofDay s m args below meth c H locs 0 0 (MQ below (mQi D ids A r hF z) args s 0 0 A) (F0 m 94 ls []) := by
  unfold s_X8_ofDay_b94 at hrun
  refine lv_iinc (v := v7 + 1) (lv' := [(7, .int (v7 + 1)), (0, .ref v0), (1, .int v1), (2, .int v2), (3, .int v3), (4, .int v4), (5, .int v5), (6, .int v6)]) hx hb dX8_ofDay_94 hl (k := 7) rfl rfl (by decide) rfl (fun ls hl => ?_)
  refine lv_goto (tgt := 16) hx hb dX8_ofDay_97 (by decide) ?_
  exact hk16 _ _ _ _ _ _ _ _ _ _ _ _ hrun hR hz hS (lv_sub hl [1, 2, 3, 4, 5, 6, 7, 0] rfl)
set_option maxRecDepth 100000 in
set_option maxHeartbeats 4000000 in
theorem k_X8_ofDay_b80 {p : Program} {l : Launch} {e : Env} {s : State} {m : MethodId} {args : Array Value} {below : List Frame} {meth : Method} {c : Code} {D : va_G} {ids : m_I3} {st : m_T} {A : Nat → Prop} {z : Nat} {r : Int32} {hF : mH} (hx : p.tables.exec = Jvm.exec) (hb : c.code = cX8_ofDay) (hr : meth.sig.returnType = some .int) (hml : c.maxLocals = 8) (hown : s.vm.findClass RX8 = some m.cls) (hts : ∀ w ∈ (m_ws yX8_ofDay cX8_ofDay 8 (some .int)), w.before args s = true) (hlocks : meth.locks = false) (hin : meth.name = yX8_ofDay.name) (hE : m_EV st A s s.heap) (hA : ∀ q, s.heap.size ≤ q → A q) {k16 : mH → Nat → Int32 → Int32 → Int32 → Int32 → Int32 → Int32 → Int32 → Option (Int32 × mH)} (hk16 : ∀ (h : mH) (v0 : Nat) (v1 : Int32) (v2 : Int32) (v3 : Int32) (v4 : Int32) (v5 : Int32) (v6 : Int32) (v7 : Int32) (H : Heap) (locs : List Loc) (ls : Array Slot), k16 h v0 v1 v2 v3 v4 v5 v6 v7 = some (r, hF) → Rl D ids A h s H → H.size = z → va_S A s.heap H locs → lv_has ls 8 [(0, .ref v0), (1, .int v1), (2, .int v2), (3, .int v3), (4, .int v4), (5, .int v5), (6, .int v6), (7, .int v7)] → W p l e rm_X8_ofDay s m args below meth c H locs 0 0 (MQ below (mQi D ids A r hF z) args s 0 0 A) (F0 m 16 ls [])) (h : mH) (v0 : Nat) (v1 : Int32) (v2 : Int32) (v3 : Int32) (v4 : Int32) (v6 : Int32) (v7 : Int32) (t0 : Int32) (t1 : Int32) (H : Heap) (locs : List Loc) (ls : Array Slot) (hrun : s_X8_ofDay_b80 k16 h v0 v1 v2 v3 v4 v6 v7 t0 t1 = some (r, hF)) (hR : Rl D ids A h s H) (hz : H.size = z) (hS : va_S A s.heap H locs) (hl : lv_has ls 8 [(0, .ref v0), (1, .int v1), (2, .int v2), (3, .int v3), (4, .int v4), (6, .int v6), (7, .int v7)]) : W p l e rm_X8_ofDay s m args below meth c H locs 0 0 (MQ below (mQi D ids A r hF z) args s 0 0 A) (F0 m 80 ls [.int t1, .int t0]) := by
  unfold s_X8_ofDay_b80 at hrun
  refine lv_iadd hx hb dX8_ofDay_80 ?_
  refine lv_istore (lv' := [(5, .int (t0 + t1)), (0, .ref v0), (1, .int v1), (2, .int v2), (3, .int v3), (4, .int v4), (6, .int v6), (7, .int v7)]) hx hb dX8_ofDay_81 hl (by decide) rfl (fun ls hl => ?_)
  refine lv_iload hx hb dX8_ofDay_83 (lv_at hl 6 rfl) ?_
  refine lv_aload_n hx hb dX8_ofDay_85 rfl (lv_at hl 1 rfl) ?_
  refine lv_iload hx hb dX8_ofDay_86 (lv_at hl 7 rfl) ?_
  obtain ⟨_, ho9, hrun⟩ := m_bind hrun
  obtain ⟨fs9, ho9⟩ := m_is_spec ho9
  obtain ⟨x88, hc9, hrun⟩ := m_bind hrun
  refine mr_calli (mr_runV (As := [.int v7]) (rest := [.int v6]) hx hb hml hown hts (c_X8_fare l D ids st z hc9) yk_X8_fare ys_X8_fare wm_3_162 ⟨(Nat.le_of_ble_eq_true rfl), (Nat.le_of_ble_eq_true rfl)⟩ (mr_recv (ci := 6) hR hE hz hS hA rfl ho9) hl.1 rfl (Nat.le_of_ble_eq_true rfl) dX8_ofDay_88 ⟨(Nat.le_of_ble_eq_true rfl), (Nat.le_of_ble_eq_true rfl)⟩) hR hz hS hA (fun H locs hR hz hS => ?_)
  refine lv_iadd hx hb dX8_ofDay_91 ?_
  refine lv_istore (lv' := [(6, .int (v6 + x88)), (5, .int (t0 + t1)), (0, .ref v0), (1, .int v1), (2, .int v2), (3, .int v3), (4, .int v4), (7, .int v7)]) hx hb dX8_ofDay_92 hl (by decide) rfl (fun ls hl => ?_)
  exact k_X8_ofDay_b94 hx hb hr hml hown hts hlocks hin hE hA hk16 _ _ _ _ _ _ _ _ _ _ _ _ hrun hR hz hS (lv_sub hl [2, 3, 4, 5, 6, 1, 0, 7] rfl)
set_option maxRecDepth 100000 in
set_option maxHeartbeats 4000000 in
theorem k_X8_ofDay_L16 {p : Program} {l : Launch} {e : Env} {s : State} {m : MethodId} {args : Array Value} {below : List Frame} {meth : Method} {c : Code} {D : va_G} {ids : m_I3} {st : m_T} {A : Nat → Prop} {z : Nat} {r : Int32} {hF : mH} (hx : p.tables.exec = Jvm.exec) (hb : c.code = cX8_ofDay) (hr : meth.sig.returnType = some .int) (hml : c.maxLocals = 8) (hown : s.vm.findClass RX8 = some m.cls) (hts : ∀ w ∈ (m_ws yX8_ofDay cX8_ofDay 8 (some .int)), w.before args s = true) (hlocks : meth.locks = false) (hin : meth.name = yX8_ofDay.name) (hE : m_EV st A s s.heap) (hA : ∀ q, s.heap.size ≤ q → A q) : ∀ (n : Nat) (h : mH) (v0 : Nat) (v1 : Int32) (v2 : Int32) (v3 : Int32) (v4 : Int32) (v5 : Int32) (v6 : Int32) (v7 : Int32) (H : Heap) (locs : List Loc) (ls : Array Slot), s_X8_ofDay_L16 n h v0 v1 v2 v3 v4 v5 v6 v7 = some (r, hF) → Rl D ids A h s H → H.size = z → va_S A s.heap H locs → lv_has ls 8 [(0, .ref v0), (1, .int v1), (2, .int v2), (3, .int v3), (4, .int v4), (5, .int v5), (6, .int v6), (7, .int v7)] → W p l e rm_X8_ofDay s m args below meth c H locs 0 0 (MQ below (mQi D ids A r hF z) args s 0 0 A) (F0 m 16 ls []) := by
  intro n
  induction n with
  | zero => intro h v0 v1 v2 v3 v4 v5 v6 v7 H locs ls hrun; exact absurd hrun (by intro h9; cases h9)
  | succ n ih =>
    intro h v0 v1 v2 v3 v4 v5 v6 v7 H locs ls hrun hR hz hS hl
    rw [s_X8_ofDay_L16] at hrun
    refine lv_iload hx hb dX8_ofDay_16 (lv_at hl 7 rfl) ?_
    refine lv_aload_n hx hb dX8_ofDay_18 rfl (lv_at hl 0 rfl) ?_
    obtain ⟨x19, hc9, hrun⟩ := m_bind hrun
    refine mr_get (C := RX8) (T := TX8) (N := 13) (ci := 6) hx hb hts (fun w q => m_ws_in (wi_X8 w q)) hown hR rfl 1 (by decide) (hts _ (m_ws_in wm_3_34)) (fun _ h9 => h9) (m_gr_spec hc9) dX8_ofDay_19 ?_
    refine lv_bipush (v := 9) hx hb dX8_ofDay_22 (by decide) ?_
    obtain ⟨x24, hc9, hrun⟩ := m_bind hrun
    refine mr_iald hx hb hR hc9 dX8_ofDay_24 ?_
    refine lv_icmp_ge (tgt := 100) hx hb dX8_ofDay_25 (by decide) (fun hc => ?_) (fun hc => ?_)
    · have hrun := mt_t hrun hc
      refine lv_iload_n hx hb dX8_ofDay_100 rfl (lv_at hl 3 rfl) ?_
      refine lv_if_ne (tgt := 109) hx hb dX8_ofDay_101 (by decide) (fun hc => ?_) (fun hc => ?_)
      · have hrun := mt_f hrun hc
        refine lv_iload_n hx hb dX8_ofDay_109 rfl (lv_at hl 3 rfl) ?_
        refine lv_iconst (v := 1) hx hb dX8_ofDay_110 (by decide) ?_
        refine lv_icmp_ne (tgt := 119) hx hb dX8_ofDay_111 (by decide) (fun hc => ?_) (fun hc => ?_)
        · have hrun := mt_f hrun hc
          refine lv_iload_n hx hb dX8_ofDay_119 rfl (lv_at hl 3 rfl) ?_
          refine lv_iconst (v := 2) hx hb dX8_ofDay_120 (by decide) ?_
          refine lv_icmp_eq (tgt := 135) hx hb dX8_ofDay_121 (by decide) (fun hc => ?_) (fun hc => ?_)
          · have hrun := mt_t hrun hc
            exact k_X8_ofDay_b135 hx hb hr hml hown hts hlocks hin hE hA _ _ _ _ _ hrun hR hz hS (lv_sub hl [6] rfl)
          · have hrun := mt_f hrun hc
            refine lv_iload hx hb dX8_ofDay_124 (lv_at hl 6 rfl) ?_
            refine lv_aload_n hx hb dX8_ofDay_126 rfl (lv_at hl 0 rfl) ?_
            obtain ⟨x127, hc9, hrun⟩ := m_bind hrun
            refine mr_get (C := RX8) (T := TX8) (N := 13) (ci := 6) hx hb hts (fun w q => m_ws_in (wi_X8 w q)) hown hR rfl 1 (by decide) (hts _ (m_ws_in wm_3_34)) (fun _ h9 => h9) (m_gr_spec hc9) dX8_ofDay_127 ?_
            refine lv_iconst (v := 4) hx hb dX8_ofDay_130 (by decide) ?_
            obtain ⟨x131, hc9, hrun⟩ := m_bind hrun
            refine mr_iald hx hb hR hc9 dX8_ofDay_131 ?_
            refine lv_icmp_ge (tgt := 140) hx hb dX8_ofDay_132 (by decide) (fun hc => ?_) (fun hc => ?_)
            · have hrun := mt_t hrun hc
              refine lv_aload_n hx hb dX8_ofDay_140 rfl (lv_at hl 0 rfl) ?_
              obtain ⟨x141, hc9, hrun⟩ := m_bind hrun
              refine mr_get (C := RX8) (T := TX8) (N := 13) (ci := 6) hx hb hts (fun w q => m_ws_in (wi_X8 w q)) hown hR rfl 1 (by decide) (hts _ (m_ws_in wm_3_34)) (fun _ h9 => h9) (m_gr_spec hc9) dX8_ofDay_141 ?_
              refine lv_iconst (v := 4) hx hb dX8_ofDay_144 (by decide) ?_
              obtain ⟨x145, hc9, hrun⟩ := m_bind hrun
              refine mr_iald hx hb hR hc9 dX8_ofDay_145 ?_
              exact k_X8_ofDay_b146 hx hb hr hml hown hts hlocks hin hE hA _ _ _ _ _ hrun hR hz hS (lv_sub hl [] rfl)
            · have hrun := mt_f hrun hc
              exact k_X8_ofDay_b135 hx hb hr hml hown hts hlocks hin hE hA _ _ _ _ _ hrun hR hz hS (lv_sub hl [6] rfl)
        · have hrun := mt_t hrun hc
          refine lv_iload hx hb dX8_ofDay_114 (lv_at hl 5 rfl) ?_
          refine lv_goto (tgt := 146) hx hb dX8_ofDay_116 (by decide) ?_
          exact k_X8_ofDay_b146 hx hb hr hml hown hts hlocks hin hE hA _ _ _ _ _ hrun hR hz hS (lv_sub hl [] rfl)
      · have hrun := mt_t hrun hc
        refine lv_iload hx hb dX8_ofDay_104 (lv_at hl 4 rfl) ?_
        refine lv_goto (tgt := 146) hx hb dX8_ofDay_106 (by decide) ?_
        exact k_X8_ofDay_b146 hx hb hr hml hown hts hlocks hin hE hA _ _ _ _ _ hrun hR hz hS (lv_sub hl [] rfl)
    · have hrun := mt_f hrun hc
      refine lv_aload_n hx hb dX8_ofDay_28 rfl (lv_at hl 0 rfl) ?_
      refine lv_iload hx hb dX8_ofDay_29 (lv_at hl 7 rfl) ?_
      refine lv_iconst (v := 0) hx hb dX8_ofDay_31 (by decide) ?_
      obtain ⟨_, ho9, hrun⟩ := m_bind hrun
      obtain ⟨fs9, ho9⟩ := m_is_spec ho9
      obtain ⟨x32, hc9, hrun⟩ := m_bind hrun
      refine mr_calli (mr_runV (As := [.int v7, .int 0]) (rest := []) hx hb hml hown hts (c_X8_of l D ids st z hc9) yk_X8_of ys_X8_of wm_3_106 ⟨(Nat.le_of_ble_eq_true rfl), (Nat.le_of_ble_eq_true rfl)⟩ (mr_recv (ci := 6) hR hE hz hS hA rfl ho9) hl.1 rfl (Nat.le_of_ble_eq_true rfl) dX8_ofDay_32 ⟨(Nat.le_of_ble_eq_true rfl), (Nat.le_of_ble_eq_true rfl)⟩) hR hz hS hA (fun H locs hR hz hS => ?_)
      refine lv_iload_n hx hb dX8_ofDay_35 rfl (lv_at hl 1 rfl) ?_
      refine lv_icmp_ne (tgt := 94) hx hb dX8_ofDay_36 (by decide) (fun hc => ?_) (fun hc => ?_)
      · have hrun := mt_f hrun hc
        exact k_X8_ofDay_b94 hx hb hr hml hown hts hlocks hin hE hA ih _ _ _ _ _ _ _ _ _ _ _ _ hrun hR hz hS (lv_sub hl [0, 1, 2, 3, 4, 5, 6, 7] rfl)
      · have hrun := mt_t hrun hc
        refine lv_aload_n hx hb dX8_ofDay_39 rfl (lv_at hl 0 rfl) ?_
        refine lv_iload hx hb dX8_ofDay_40 (lv_at hl 7 rfl) ?_
        refine lv_iconst (v := 1) hx hb dX8_ofDay_42 (by decide) ?_
        obtain ⟨_, ho9, hrun⟩ := m_bind hrun
        obtain ⟨fs9, ho9⟩ := m_is_spec ho9
        obtain ⟨x43, hc9, hrun⟩ := m_bind hrun
        refine mr_calli (mr_runV (As := [.int v7, .int 1]) (rest := []) hx hb hml hown hts (c_X8_of l D ids st z hc9) yk_X8_of ys_X8_of wm_3_106 ⟨(Nat.le_of_ble_eq_true rfl), (Nat.le_of_ble_eq_true rfl)⟩ (mr_recv (ci := 6) hR hE hz hS hA rfl ho9) hl.1 rfl (Nat.le_of_ble_eq_true rfl) dX8_ofDay_43 ⟨(Nat.le_of_ble_eq_true rfl), (Nat.le_of_ble_eq_true rfl)⟩) hR hz hS hA (fun H locs hR hz hS => ?_)
        refine lv_iload_n hx hb dX8_ofDay_46 rfl (lv_at hl 2 rfl) ?_
        refine lv_icmp_ne (tgt := 94) hx hb dX8_ofDay_47 (by decide) (fun hc => ?_) (fun hc => ?_)
        · have hrun := mt_f hrun hc
          exact k_X8_ofDay_b94 hx hb hr hml hown hts hlocks hin hE hA ih _ _ _ _ _ _ _ _ _ _ _ _ hrun hR hz hS (lv_sub hl [0, 1, 2, 3, 4, 5, 6, 7] rfl)
        · have hrun := mt_t hrun hc
          refine lv_aload_n hx hb dX8_ofDay_50 rfl (lv_at hl 0 rfl) ?_
          refine lv_iload hx hb dX8_ofDay_51 (lv_at hl 7 rfl) ?_
          obtain ⟨_, ho9, hrun⟩ := m_bind hrun
          obtain ⟨fs9, ho9⟩ := m_is_spec ho9
          obtain ⟨x53, hc9, hrun⟩ := m_bind hrun
          refine mr_calli (mr_runV (As := [.int v7]) (rest := []) hx hb hml hown hts (c_X8_begins l D ids st z hc9) yk_X8_begins ys_X8_begins wm_3_158 ⟨(Nat.le_of_ble_eq_true rfl), (Nat.le_of_ble_eq_true rfl)⟩ (mr_recv (ci := 6) hR hE hz hS hA rfl ho9) hl.1 rfl (Nat.le_of_ble_eq_true rfl) dX8_ofDay_53 ⟨(Nat.le_of_ble_eq_true rfl), (Nat.le_of_ble_eq_true rfl)⟩) hR hz hS hA (fun H locs hR hz hS => ?_)
          refine lv_if_eq (tgt := 94) hx hb dX8_ofDay_56 (by decide) (fun hc => ?_) (fun hc => ?_)
          · have hrun := mt_t hrun hc
            exact k_X8_ofDay_b94 hx hb hr hml hown hts hlocks hin hE hA ih _ _ _ _ _ _ _ _ _ _ _ _ hrun hR hz hS (lv_sub hl [0, 1, 2, 3, 4, 5, 6, 7] rfl)
          · have hrun := mt_f hrun hc
            refine lv_iinc (v := v4 + 1) (lv' := [(4, .int (v4 + 1)), (0, .ref v0), (1, .int v1), (2, .int v2), (3, .int v3), (5, .int v5), (6, .int v6), (7, .int v7)]) hx hb dX8_ofDay_59 hl (k := 4) rfl rfl (by decide) rfl (fun ls hl => ?_)
            refine lv_iload hx hb dX8_ofDay_62 (lv_at hl 5 rfl) ?_
            refine lv_aload_n hx hb dX8_ofDay_64 rfl (lv_at hl 1 rfl) ?_
            obtain ⟨x65, hc9, hrun⟩ := m_bind hrun
            refine mr_get (C := RX8) (T := TX8) (N := 13) (ci := 6) hx hb hts (fun w q => m_ws_in (wi_X8 w q)) hown hR rfl 7 (by decide) (hts _ (m_ws_in wm_3_40)) (fun _ h9 => h9) (m_gr_spec hc9) dX8_ofDay_65 ?_
            refine lv_iload hx hb dX8_ofDay_68 (lv_at hl 7 rfl) ?_
            obtain ⟨x70, hc9, hrun⟩ := m_bind hrun
            refine mr_iald hx hb hR hc9 dX8_ofDay_70 ?_
            refine lv_iconst (v := (-1)) hx hb dX8_ofDay_71 (by decide) ?_
            refine lv_icmp_ne (tgt := 79) hx hb dX8_ofDay_72 (by decide) (fun hc => ?_) (fun hc => ?_)
            · have hrun := mt_f hrun hc
              refine lv_iconst (v := 0) hx hb dX8_ofDay_79 (by decide) ?_
              exact k_X8_ofDay_b80 hx hb hr hml hown hts hlocks hin hE hA ih _ _ _ _ _ _ _ _ _ _ _ _ _ hrun hR hz hS (lv_sub hl [1, 2, 3, 4, 0, 6, 7] rfl)
            · have hrun := mt_t hrun hc
              refine lv_iconst (v := 1) hx hb dX8_ofDay_75 (by decide) ?_
              refine lv_goto (tgt := 80) hx hb dX8_ofDay_76 (by decide) ?_
              exact k_X8_ofDay_b80 hx hb hr hml hown hts hlocks hin hE hA ih _ _ _ _ _ _ _ _ _ _ _ _ _ hrun hR hz hS (lv_sub hl [1, 2, 3, 4, 0, 6, 7] rfl)
set_option maxRecDepth 100000 in
set_option maxHeartbeats 4000000 in
theorem c_X8_ofDay (l : Launch) (D : va_G) (ids : m_I3) (st : m_T) (z : Nat) {h : mH} {v0 : Nat} {v1 : Int32} {v2 : Int32} {v3 : Int32} {r : Int32} {hF : mH} (hrun : s_X8_ofDay h v0 v1 v2 v3 = some (r, hF)) : Met l yX8_ofDay (m_ws yX8_ofDay cX8_ofDay 8 (some .int)) rm_X8_ofDay (mPc D ids st [.ref v0, .int v1, .int v2, .int v3] h z) (mQi D ids (m_A h z) r hF z) rm_X8_ofDay.cells rm_X8_ofDay.slots (m_A h z) := by
  refine mr_of (cc := cX8_ofDay) (maxL := 8) (ret := some .int) (by decide) rfl (Nat.le_of_ble_eq_true rfl) ?_
  intro p e s m below meth c ls hx hb hr hml hown hts hlocks hin hR hE hz hl
  have hA : ∀ q, s.heap.size ≤ q → m_A h z q := fun q hq => Or.inr (by rw [← hz]; exact hq)
  have hS : va_S (m_A h z) s.heap s.heap [] := va_S.rf
  have hl : lv_has ls 8 [(0, .ref v0), (1, .int v1), (2, .int v2), (3, .int v3)] := hl
  unfold s_X8_ofDay at hrun
  refine lv_aload_n hx hb dX8_ofDay_0 rfl (lv_at hl 0 rfl) ?_
  obtain ⟨_, ho9, hrun⟩ := m_bind hrun
  obtain ⟨fs9, ho9⟩ := m_is_spec ho9
  obtain ⟨h1, hc9, hrun⟩ := m_bind hrun
  refine mr_callv (mr_runV (As := []) (rest := []) hx hb hml hown hts (c_X8_laysRides l D ids st z hc9) yk_X8_laysRides ys_X8_laysRides wm_3_130 ⟨(Nat.le_of_ble_eq_true rfl), (Nat.le_of_ble_eq_true rfl)⟩ (mr_recv (ci := 6) hR hE hz hS hA rfl ho9) hl.1 rfl (Nat.le_of_ble_eq_true rfl) dX8_ofDay_1 ⟨(Nat.le_of_ble_eq_true rfl), (Nat.le_of_ble_eq_true rfl)⟩) hR hz hS hA (fun H locs hR hz hS => ?_)
  refine lv_iconst (v := 0) hx hb dX8_ofDay_4 (by decide) ?_
  refine lv_istore (lv' := [(4, .int 0), (0, .ref v0), (1, .int v1), (2, .int v2), (3, .int v3)]) hx hb dX8_ofDay_5 hl (by decide) rfl (fun ls hl => ?_)
  refine lv_iconst (v := 0) hx hb dX8_ofDay_7 (by decide) ?_
  refine lv_istore (lv' := [(5, .int 0), (4, .int 0), (0, .ref v0), (1, .int v1), (2, .int v2), (3, .int v3)]) hx hb dX8_ofDay_8 hl (by decide) rfl (fun ls hl => ?_)
  refine lv_iconst (v := 0) hx hb dX8_ofDay_10 (by decide) ?_
  refine lv_istore (lv' := [(6, .int 0), (5, .int 0), (4, .int 0), (0, .ref v0), (1, .int v1), (2, .int v2), (3, .int v3)]) hx hb dX8_ofDay_11 hl (by decide) rfl (fun ls hl => ?_)
  refine lv_iconst (v := 0) hx hb dX8_ofDay_13 (by decide) ?_
  refine lv_istore (lv' := [(7, .int 0), (6, .int 0), (5, .int 0), (4, .int 0), (0, .ref v0), (1, .int v1), (2, .int v2), (3, .int v3)]) hx hb dX8_ofDay_14 hl (by decide) rfl (fun ls hl => ?_)
  exact k_X8_ofDay_L16 hx hb hr hml hown hts hlocks hin hE hA _ _ _ _ _ _ _ _ _ _ _ _ _ hrun hR hz hS (lv_sub hl [4, 5, 6, 7, 3, 2, 1, 0] rfl)
/-! X8_overDays -/
abbrev rm_X8_overDays : Room := { frames := 4, cells := 0, slots := 0, locals := 94 }
theorem yk_X8_overDays : m_K yX8_overDays cX8_overDays 6 (some .int) 3 := ⟨wm_3_153, wm_0_10, by decide +kernel⟩
theorem ys_X8_overDays : Cond.instanceMethod yX8_overDays ∈ wT ∧ Cond.selects RX8 yX8_overDays yX8_overDays ∈ wT := ⟨wm_3_152, wp_2_4⟩
set_option maxRecDepth 100000 in
set_option maxHeartbeats 4000000 in
theorem k_X8_overDays_L9 {p : Program} {l : Launch} {e : Env} {s : State} {m : MethodId} {args : Array Value} {below : List Frame} {meth : Method} {c : Code} {D : va_G} {ids : m_I3} {st : m_T} {A : Nat → Prop} {z : Nat} {r : Int32} {hF : mH} (hx : p.tables.exec = Jvm.exec) (hb : c.code = cX8_overDays) (hr : meth.sig.returnType = some .int) (hml : c.maxLocals = 6) (hown : s.vm.findClass RX8 = some m.cls) (hts : ∀ w ∈ (m_ws yX8_overDays cX8_overDays 6 (some .int)), w.before args s = true) (hlocks : meth.locks = false) (hin : meth.name = yX8_overDays.name) (hE : m_EV st A s s.heap) (hA : ∀ q, s.heap.size ≤ q → A q) : ∀ (n : Nat) (h : mH) (v0 : Nat) (v1 : Int32) (v2 : Int32) (v3 : Int32) (v4 : Int32) (v5 : Int32) (H : Heap) (locs : List Loc) (ls : Array Slot), s_X8_overDays_L9 n h v0 v1 v2 v3 v4 v5 = some (r, hF) → Rl D ids A h s H → H.size = z → va_S A s.heap H locs → lv_has ls 6 [(0, .ref v0), (1, .int v1), (2, .int v2), (3, .int v3), (4, .int v4), (5, .int v5)] → W p l e rm_X8_overDays s m args below meth c H locs 0 0 (MQ below (mQi D ids A r hF z) args s 0 0 A) (F0 m 9 ls []) := by
  intro n
  induction n with
  | zero => intro h v0 v1 v2 v3 v4 v5 H locs ls hrun; exact absurd hrun (by intro h9; cases h9)
  | succ n ih =>
    intro h v0 v1 v2 v3 v4 v5 H locs ls hrun hR hz hS hl
    rw [s_X8_overDays_L9] at hrun
    refine lv_iload hx hb dX8_overDays_9 (lv_at hl 5 rfl) ?_
    refine lv_bipush (v := 7) hx hb dX8_overDays_11 (by decide) ?_
    refine lv_iload_n hx hb dX8_overDays_13 rfl (lv_at hl 2 rfl) ?_
    refine lv_imul hx hb dX8_overDays_14 ?_
    refine lv_bipush (v := 7) hx hb dX8_overDays_15 (by decide) ?_
    refine lv_iadd hx hb dX8_overDays_17 ?_
    refine lv_icmp_ge (tgt := 40) hx hb dX8_overDays_18 (by decide) (fun hc => ?_) (fun hc => ?_)
    · have hrun := mt_t hrun hc
      refine lv_iload hx hb dX8_overDays_40 (lv_at hl 4 rfl) ?_
      obtain ⟨rfl, rfl⟩ := Prod.mk.inj (Option.some.inj hrun)
      exact mr_iret hx hb hr hlocks hR hz hS dX8_overDays_42
    · have hrun := mt_f hrun hc
      refine lv_iload hx hb dX8_overDays_21 (lv_at hl 4 rfl) ?_
      refine lv_aload_n hx hb dX8_overDays_23 rfl (lv_at hl 0 rfl) ?_
      refine lv_iload_n hx hb dX8_overDays_24 rfl (lv_at hl 1 rfl) ?_
      refine lv_iload hx hb dX8_overDays_25 (lv_at hl 5 rfl) ?_
      refine lv_iload_n hx hb dX8_overDays_27 rfl (lv_at hl 3 rfl) ?_
      obtain ⟨_, ho9, hrun⟩ := m_bind hrun
      obtain ⟨fs9, ho9⟩ := m_is_spec ho9
      obtain ⟨⟨x28, h28⟩, hc9, hrun⟩ := m_bind hrun
      refine mr_calli (mr_runV (As := [.int v1, .int v5, .int v3]) (rest := [.int v4]) hx hb hml hown hts (c_X8_ofDay l D ids st z hc9) yk_X8_ofDay ys_X8_ofDay wm_3_154 ⟨(Nat.le_of_ble_eq_true rfl), (Nat.le_of_ble_eq_true rfl)⟩ (mr_recv (ci := 6) hR hE hz hS hA rfl ho9) hl.1 rfl (Nat.le_of_ble_eq_true rfl) dX8_overDays_28 ⟨(Nat.le_of_ble_eq_true rfl), (Nat.le_of_ble_eq_true rfl)⟩) hR hz hS hA (fun H locs hR hz hS => ?_)
      refine lv_iadd hx hb dX8_overDays_31 ?_
      refine lv_istore (lv' := [(4, .int (v4 + x28)), (0, .ref v0), (1, .int v1), (2, .int v2), (3, .int v3), (5, .int v5)]) hx hb dX8_overDays_32 hl (by decide) rfl (fun ls hl => ?_)
      refine lv_iinc (v := v5 + 1) (lv' := [(5, .int (v5 + 1)), (4, .int (v4 + x28)), (0, .ref v0), (1, .int v1), (2, .int v2), (3, .int v3)]) hx hb dX8_overDays_34 hl (k := 5) rfl rfl (by decide) rfl (fun ls hl => ?_)
      refine lv_goto (tgt := 9) hx hb dX8_overDays_37 (by decide) ?_
      exact ih _ _ _ _ _ _ _ _ _ _ hrun hR hz hS (lv_sub hl [2, 3, 4, 5, 1, 0] rfl)
set_option maxRecDepth 100000 in
set_option maxHeartbeats 4000000 in
theorem c_X8_overDays (l : Launch) (D : va_G) (ids : m_I3) (st : m_T) (z : Nat) {h : mH} {v0 : Nat} {v1 : Int32} {v2 : Int32} {v3 : Int32} {r : Int32} {hF : mH} (hrun : s_X8_overDays h v0 v1 v2 v3 = some (r, hF)) : Met l yX8_overDays (m_ws yX8_overDays cX8_overDays 6 (some .int)) rm_X8_overDays (mPc D ids st [.ref v0, .int v1, .int v2, .int v3] h z) (mQi D ids (m_A h z) r hF z) rm_X8_overDays.cells rm_X8_overDays.slots (m_A h z) := by
  refine mr_of (cc := cX8_overDays) (maxL := 6) (ret := some .int) (by decide) rfl (Nat.le_of_ble_eq_true rfl) ?_
  intro p e s m below meth c ls hx hb hr hml hown hts hlocks hin hR hE hz hl
  have hA : ∀ q, s.heap.size ≤ q → m_A h z q := fun q hq => Or.inr (by rw [← hz]; exact hq)
  have hS : va_S (m_A h z) s.heap s.heap [] := va_S.rf
  have hl : lv_has ls 6 [(0, .ref v0), (1, .int v1), (2, .int v2), (3, .int v3)] := hl
  unfold s_X8_overDays at hrun
  refine lv_iconst (v := 0) hx hb dX8_overDays_0 (by decide) ?_
  refine lv_istore (lv' := [(4, .int 0), (0, .ref v0), (1, .int v1), (2, .int v2), (3, .int v3)]) hx hb dX8_overDays_1 hl (by decide) rfl (fun ls hl => ?_)
  refine lv_bipush (v := 7) hx hb dX8_overDays_3 (by decide) ?_
  refine lv_iload_n hx hb dX8_overDays_5 rfl (lv_at hl 3 rfl) ?_
  refine lv_imul hx hb dX8_overDays_6 ?_
  refine lv_istore (lv' := [(5, .int (7 * v2)), (4, .int 0), (0, .ref v0), (1, .int v1), (2, .int v2), (3, .int v3)]) hx hb dX8_overDays_7 hl (by decide) rfl (fun ls hl => ?_)
  exact k_X8_overDays_L9 hx hb hr hml hown hts hlocks hin hE hA _ _ _ _ _ _ _ _ _ _ _ hrun hR hz hS (lv_sub hl [2, 3, 4, 5, 1, 0] rfl)
/-! X8_costs -/
abbrev rm_X8_costs : Room := { frames := 5, cells := 0, slots := 0, locals := 119 }
theorem yk_X8_costs : m_K yX8_costs cX8_costs 4 (some .int) 2 := ⟨wm_3_149, wm_0_10, by decide +kernel⟩
theorem ys_X8_costs : Cond.instanceMethod yX8_costs ∈ wT ∧ Cond.selects RX8 yX8_costs yX8_costs ∈ wT := ⟨wm_3_148, wp_2_3⟩
set_option maxRecDepth 100000 in
set_option maxHeartbeats 4000000 in
theorem k_X8_costs_b28 {p : Program} {l : Launch} {e : Env} {s : State} {m : MethodId} {args : Array Value} {below : List Frame} {meth : Method} {c : Code} {D : va_G} {ids : m_I3} {st : m_T} {A : Nat → Prop} {z : Nat} {r : Int32} {hF : mH} (hx : p.tables.exec = Jvm.exec) (hb : c.code = cX8_costs) (hr : meth.sig.returnType = some .int) (hml : c.maxLocals = 4) (hown : s.vm.findClass RX8 = some m.cls) (hts : ∀ w ∈ (m_ws yX8_costs cX8_costs 4 (some .int)), w.before args s = true) (hlocks : meth.locks = false) (hin : meth.name = yX8_costs.name) (hE : m_EV st A s s.heap) (hA : ∀ q, s.heap.size ≤ q → A q) (h : mH) (t0 : Int32) (H : Heap) (locs : List Loc) (ls : Array Slot) (hrun : s_X8_costs_b28 h t0 = some (r, hF)) (hR : Rl D ids A h s H) (hz : H.size = z) (hS : va_S A s.heap H locs) (hl : lv_has ls 4 []) : W p l e rm_X8_costs s m args below meth c H locs 0 0 (MQ below (mQi D ids A r hF z) args s 0 0 A) (F0 m 28 ls [.int t0]) := by
  unfold s_X8_costs_b28 at hrun
  obtain ⟨rfl, rfl⟩ := Prod.mk.inj (Option.some.inj hrun)
  exact mr_iret hx hb hr hlocks hR hz hS dX8_costs_28
set_option maxRecDepth 100000 in
set_option maxHeartbeats 4000000 in
theorem c_X8_costs (l : Launch) (D : va_G) (ids : m_I3) (st : m_T) (z : Nat) {h : mH} {v0 : Nat} {v1 : Int32} {v2 : Int32} {r : Int32} {hF : mH} (hrun : s_X8_costs h v0 v1 v2 = some (r, hF)) : Met l yX8_costs (m_ws yX8_costs cX8_costs 4 (some .int)) rm_X8_costs (mPc D ids st [.ref v0, .int v1, .int v2] h z) (mQi D ids (m_A h z) r hF z) rm_X8_costs.cells rm_X8_costs.slots (m_A h z) := by
  refine mr_of (cc := cX8_costs) (maxL := 4) (ret := some .int) (by decide) rfl (Nat.le_of_ble_eq_true rfl) ?_
  intro p e s m below meth c ls hx hb hr hml hown hts hlocks hin hR hE hz hl
  have hA : ∀ q, s.heap.size ≤ q → m_A h z q := fun q hq => Or.inr (by rw [← hz]; exact hq)
  have hS : va_S (m_A h z) s.heap s.heap [] := va_S.rf
  have hl : lv_has ls 4 [(0, .ref v0), (1, .int v1), (2, .int v2)] := hl
  unfold s_X8_costs at hrun
  refine lv_aload_n hx hb dX8_costs_0 rfl (lv_at hl 0 rfl) ?_
  refine lv_iload_n hx hb dX8_costs_1 rfl (lv_at hl 1 rfl) ?_
  refine lv_iload_n hx hb dX8_costs_2 rfl (lv_at hl 2 rfl) ?_
  refine lv_iconst (v := 3) hx hb dX8_costs_3 (by decide) ?_
  obtain ⟨_, ho9, hrun⟩ := m_bind hrun
  obtain ⟨fs9, ho9⟩ := m_is_spec ho9
  obtain ⟨⟨x4, h4⟩, hc9, hrun⟩ := m_bind hrun
  refine mr_calli (mr_runV (As := [.int v1, .int v2, .int 3]) (rest := []) hx hb hml hown hts (c_X8_overDays l D ids st z hc9) yk_X8_overDays ys_X8_overDays wm_3_150 ⟨(Nat.le_of_ble_eq_true rfl), (Nat.le_of_ble_eq_true rfl)⟩ (mr_recv (ci := 6) hR hE hz hS hA rfl ho9) hl.1 rfl (Nat.le_of_ble_eq_true rfl) dX8_costs_4 ⟨(Nat.le_of_ble_eq_true rfl), (Nat.le_of_ble_eq_true rfl)⟩) hR hz hS hA (fun H locs hR hz hS => ?_)
  refine lv_istore_n (lv' := [(3, .int x4), (0, .ref v0), (1, .int v1), (2, .int v2)]) hx hb dX8_costs_7 rfl hl (by decide) rfl (fun ls hl => ?_)
  refine lv_iload_n hx hb dX8_costs_8 rfl (lv_at hl 0 rfl) ?_
  refine lv_aload_n hx hb dX8_costs_9 rfl (lv_at hl 1 rfl) ?_
  obtain ⟨x10, hc9, hrun⟩ := m_bind hrun
  refine mr_get (C := RX8) (T := TX8) (N := 13) (ci := 6) hx hb hts (fun w q => m_ws_in (wi_X8 w q)) hown hR rfl 1 (by decide) (hts _ (m_ws_in wm_3_34)) (fun _ h9 => h9) (m_gr_spec hc9) dX8_costs_10 ?_
  refine lv_iconst (v := 5) hx hb dX8_costs_13 (by decide) ?_
  obtain ⟨x14, hc9, hrun⟩ := m_bind hrun
  refine mr_iald hx hb hR hc9 dX8_costs_14 ?_
  refine lv_icmp_ge (tgt := 22) hx hb dX8_costs_15 (by decide) (fun hc => ?_) (fun hc => ?_)
  · have hrun := mt_t hrun hc
    refine lv_aload_n hx hb dX8_costs_22 rfl (lv_at hl 1 rfl) ?_
    obtain ⟨x23, hc9, hrun⟩ := m_bind hrun
    refine mr_get (C := RX8) (T := TX8) (N := 13) (ci := 6) hx hb hts (fun w q => m_ws_in (wi_X8 w q)) hown hR rfl 1 (by decide) (hts _ (m_ws_in wm_3_34)) (fun _ h9 => h9) (m_gr_spec hc9) dX8_costs_23 ?_
    refine lv_iconst (v := 5) hx hb dX8_costs_26 (by decide) ?_
    obtain ⟨x27, hc9, hrun⟩ := m_bind hrun
    refine mr_iald hx hb hR hc9 dX8_costs_27 ?_
    exact k_X8_costs_b28 hx hb hr hml hown hts hlocks hin hE hA _ _ _ _ _ hrun hR hz hS (lv_sub hl [] rfl)
  · have hrun := mt_f hrun hc
    refine lv_iload_n hx hb dX8_costs_18 rfl (lv_at hl 0 rfl) ?_
    refine lv_goto (tgt := 28) hx hb dX8_costs_19 (by decide) ?_
    exact k_X8_costs_b28 hx hb hr hml hown hts hlocks hin hE hA _ _ _ _ _ hrun hR hz hS (lv_sub hl [] rfl)
