/-! the machine does it: laid by program -/
/-! X0_init -/
abbrev rm_X0_init : Room := { frames := 1, cells := 7, slots := 472, locals := 20 }
theorem yk_X0_init : m_K yX0_init cX0_init 1 (none) 0 := ⟨wm_0_97, wm_0_5, by decide +kernel⟩
theorem ys_X0_init : Cond.instanceMethod yX0_init ∈ wT := wm_0_96
set_option maxRecDepth 100000 in
set_option maxHeartbeats 4000000 in
theorem c_X0_init (l : Launch) (D : va_G) (ids : m_I3) (st : m_T) (z : Nat) {h : mH} {v0 : Nat} {hF : mH} {zF : Nat} (hrun : s_X0_init h z v0 = some (hF, zF)) : Met l yX0_init (m_ws yX0_init cX0_init 1 (none)) rm_X0_init (mPc D ids st [.ref v0] h z) (mQv D ids (m_A h z) hF zF) rm_X0_init.cells rm_X0_init.slots (m_A h z) := by
  refine mr_of (cc := cX0_init) (maxL := 1) (ret := none) (by decide) rfl (Nat.le_of_ble_eq_true rfl) ?_
  intro p e s m below meth c ls hx hb hr hml hown hts hlocks hin hR hE hz hl
  have hA : ∀ q, s.heap.size ≤ q → m_A h z q := fun q hq => Or.inr (by rw [← hz]; exact hq)
  have hS : va_S (m_A h z) s.heap s.heap [] := va_S.rf
  have hl : lv_has ls 1 [(0, .ref v0)] := hl
  unfold s_X0_init at hrun
  refine lv_aload_n hx hb dX0_init_0 rfl (lv_at hl 0 rfl) ?_
  refine W.objInit hx hb hown (hts _ (m_ws_in wm_0_98)) (hts _ (m_ws_in wm_0_22)) (hts _ (m_ws_in wm_0_23)) rfl (by rw [hml]; exact hl.1) rfl dX0_init_1 (Nat.le_of_ble_eq_true rfl) (Nat.le_of_ble_eq_true rfl) ?_
  refine W.eq (g2 := F0 m 4 ls []) rfl ?_
  refine lv_aload_n hx hb dX0_init_4 rfl (lv_at hl 0 rfl) ?_
  refine lv_bipush (v := 61) hx hb dX0_init_5 (by decide) ?_
  obtain ⟨h7, hc9, hrun⟩ := m_bind hrun
  refine mr_newi (N := 61) hx hb (hts _ (m_ws_in wm_0_45)) hR hz hS hA (by decide) (by decide) (Nat.le_of_ble_eq_true rfl) (Nat.le_of_ble_eq_true rfl) (Nat.le_of_ble_eq_true rfl) dX0_init_7 (fun H hR hz hS => ?_)
  rw [Option.some.inj hc9] at hR
  obtain ⟨h9, hc9, hrun⟩ := m_bind hrun
  refine mr_putF (C := RX0) (T := TX0) (N := 9) (ci := 0) hx hb hts (fun w q => m_ws_in (wi_X0 w q)) tyX0 tyX0_ok nmX0 hown hR hz hS rfl 0 (by decide) (hts _ (m_ws_in wm_0_99)) (fun _ h9 => h9) rfl hin rfl (tyX0_ok 0 (by decide)) rfl rfl hc9 dX0_init_9 (fun H locs hR hz hS => ?_)
  refine lv_aload_n hx hb dX0_init_12 rfl (lv_at hl 0 rfl) ?_
  refine lv_bipush (v := 61) hx hb dX0_init_13 (by decide) ?_
  obtain ⟨h15, hc9, hrun⟩ := m_bind hrun
  refine mr_newi (N := 61) hx hb (hts _ (m_ws_in wm_0_45)) hR hz hS hA (by decide) (by decide) (Nat.le_of_ble_eq_true rfl) (Nat.le_of_ble_eq_true rfl) (Nat.le_of_ble_eq_true rfl) dX0_init_15 (fun H hR hz hS => ?_)
  rw [Option.some.inj hc9] at hR
  obtain ⟨h17, hc9, hrun⟩ := m_bind hrun
  refine mr_putF (C := RX0) (T := TX0) (N := 9) (ci := 0) hx hb hts (fun w q => m_ws_in (wi_X0 w q)) tyX0 tyX0_ok nmX0 hown hR hz hS rfl 1 (by decide) (hts _ (m_ws_in wm_0_101)) (fun _ h9 => h9) rfl hin rfl (tyX0_ok 1 (by decide)) rfl rfl hc9 dX0_init_17 (fun H locs hR hz hS => ?_)
  refine lv_aload_n hx hb dX0_init_20 rfl (lv_at hl 0 rfl) ?_
  refine lv_bipush (v := 112) hx hb dX0_init_21 (by decide) ?_
  obtain ⟨h23, hc9, hrun⟩ := m_bind hrun
  refine mr_newi (N := 112) hx hb (hts _ (m_ws_in wm_0_45)) hR hz hS hA (by decide) (by decide) (Nat.le_of_ble_eq_true rfl) (Nat.le_of_ble_eq_true rfl) (Nat.le_of_ble_eq_true rfl) dX0_init_23 (fun H hR hz hS => ?_)
  rw [Option.some.inj hc9] at hR
  obtain ⟨h25, hc9, hrun⟩ := m_bind hrun
  refine mr_putF (C := RX0) (T := TX0) (N := 9) (ci := 0) hx hb hts (fun w q => m_ws_in (wi_X0 w q)) tyX0 tyX0_ok nmX0 hown hR hz hS rfl 2 (by decide) (hts _ (m_ws_in wm_0_103)) (fun _ h9 => h9) rfl hin rfl (tyX0_ok 2 (by decide)) rfl rfl hc9 dX0_init_25 (fun H locs hR hz hS => ?_)
  refine lv_aload_n hx hb dX0_init_28 rfl (lv_at hl 0 rfl) ?_
  refine lv_bipush (v := 112) hx hb dX0_init_29 (by decide) ?_
  obtain ⟨h31, hc9, hrun⟩ := m_bind hrun
  refine mr_newi (N := 112) hx hb (hts _ (m_ws_in wm_0_45)) hR hz hS hA (by decide) (by decide) (Nat.le_of_ble_eq_true rfl) (Nat.le_of_ble_eq_true rfl) (Nat.le_of_ble_eq_true rfl) dX0_init_31 (fun H hR hz hS => ?_)
  rw [Option.some.inj hc9] at hR
  obtain ⟨h33, hc9, hrun⟩ := m_bind hrun
  refine mr_putF (C := RX0) (T := TX0) (N := 9) (ci := 0) hx hb hts (fun w q => m_ws_in (wi_X0 w q)) tyX0 tyX0_ok nmX0 hown hR hz hS rfl 3 (by decide) (hts _ (m_ws_in wm_0_105)) (fun _ h9 => h9) rfl hin rfl (tyX0_ok 3 (by decide)) rfl rfl hc9 dX0_init_33 (fun H locs hR hz hS => ?_)
  refine lv_aload_n hx hb dX0_init_36 rfl (lv_at hl 0 rfl) ?_
  refine lv_bipush (v := 112) hx hb dX0_init_37 (by decide) ?_
  obtain ⟨h39, hc9, hrun⟩ := m_bind hrun
  refine mr_newi (N := 112) hx hb (hts _ (m_ws_in wm_0_45)) hR hz hS hA (by decide) (by decide) (Nat.le_of_ble_eq_true rfl) (Nat.le_of_ble_eq_true rfl) (Nat.le_of_ble_eq_true rfl) dX0_init_39 (fun H hR hz hS => ?_)
  rw [Option.some.inj hc9] at hR
  obtain ⟨h41, hc9, hrun⟩ := m_bind hrun
  refine mr_putF (C := RX0) (T := TX0) (N := 9) (ci := 0) hx hb hts (fun w q => m_ws_in (wi_X0 w q)) tyX0 tyX0_ok nmX0 hown hR hz hS rfl 4 (by decide) (hts _ (m_ws_in wm_0_107)) (fun _ h9 => h9) rfl hin rfl (tyX0_ok 4 (by decide)) rfl rfl hc9 dX0_init_41 (fun H locs hR hz hS => ?_)
  refine lv_aload_n hx hb dX0_init_44 rfl (lv_at hl 0 rfl) ?_
  refine lv_bipush (v := 10) hx hb dX0_init_45 (by decide) ?_
  obtain ⟨h47, hc9, hrun⟩ := m_bind hrun
  refine mr_newi (N := 10) hx hb (hts _ (m_ws_in wm_0_45)) hR hz hS hA (by decide) (by decide) (Nat.le_of_ble_eq_true rfl) (Nat.le_of_ble_eq_true rfl) (Nat.le_of_ble_eq_true rfl) dX0_init_47 (fun H hR hz hS => ?_)
  rw [Option.some.inj hc9] at hR
  obtain ⟨h49, hc9, hrun⟩ := m_bind hrun
  refine mr_putF (C := RX0) (T := TX0) (N := 9) (ci := 0) hx hb hts (fun w q => m_ws_in (wi_X0 w q)) tyX0 tyX0_ok nmX0 hown hR hz hS rfl 5 (by decide) (hts _ (m_ws_in wm_0_109)) (fun _ h9 => h9) rfl hin rfl (tyX0_ok 5 (by decide)) rfl rfl hc9 dX0_init_49 (fun H locs hR hz hS => ?_)
  refine lv_aload_n hx hb dX0_init_52 rfl (lv_at hl 0 rfl) ?_
  refine lv_iconst (v := 4) hx hb dX0_init_53 (by decide) ?_
  obtain ⟨h54, hc9, hrun⟩ := m_bind hrun
  refine mr_newi (N := 4) hx hb (hts _ (m_ws_in wm_0_45)) hR hz hS hA (by decide) (by decide) (Nat.le_of_ble_eq_true rfl) (Nat.le_of_ble_eq_true rfl) (Nat.le_of_ble_eq_true rfl) dX0_init_54 (fun H hR hz hS => ?_)
  rw [Option.some.inj hc9] at hR
  obtain ⟨h56, hc9, hrun⟩ := m_bind hrun
  refine mr_putF (C := RX0) (T := TX0) (N := 9) (ci := 0) hx hb hts (fun w q => m_ws_in (wi_X0 w q)) tyX0 tyX0_ok nmX0 hown hR hz hS rfl 6 (by decide) (hts _ (m_ws_in wm_0_111)) (fun _ h9 => h9) rfl hin rfl (tyX0_ok 6 (by decide)) rfl rfl hc9 dX0_init_56 (fun H locs hR hz hS => ?_)
  refine lv_aload_n hx hb dX0_init_59 rfl (lv_at hl 0 rfl) ?_
  refine lv_iconst (v := 0) hx hb dX0_init_60 (by decide) ?_
  obtain ⟨h61, hc9, hrun⟩ := m_bind hrun
  refine mr_put (C := RX0) (T := TX0) (N := 9) (ci := 0) hx hb hts (fun w q => m_ws_in (wi_X0 w q)) tyX0 tyX0_ok nmX0 hown hR hz hS rfl 7 (by decide) (hts _ (m_ws_in wm_0_112)) (fun _ h9 => h9) rfl (tyX0_ok 7 (by decide)) rfl rfl hc9 dX0_init_61 (fun H locs hR hz hS => ?_)
  refine lv_aload_n hx hb dX0_init_64 rfl (lv_at hl 0 rfl) ?_
  refine lv_iconst (v := 0) hx hb dX0_init_65 (by decide) ?_
  obtain ⟨h66, hc9, hrun⟩ := m_bind hrun
  refine mr_put (C := RX0) (T := TX0) (N := 9) (ci := 0) hx hb hts (fun w q => m_ws_in (wi_X0 w q)) tyX0 tyX0_ok nmX0 hown hR hz hS rfl 8 (by decide) (hts _ (m_ws_in wm_0_113)) (fun _ h9 => h9) rfl (tyX0_ok 8 (by decide)) rfl rfl hc9 dX0_init_66 (fun H locs hR hz hS => ?_)
  obtain ⟨rfl, rfl⟩ := Prod.mk.inj (Option.some.inj hrun)
  refine W.widen (k := 7) (n := 472) (Nat.le_of_ble_eq_true rfl) (Nat.le_of_ble_eq_true rfl) ?_
  exact mr_vret hx hb hr hlocks hR hz hS dX0_init_69
/-! X2_init -/
abbrev rm_X2_init : Room := { frames := 3, cells := 64, slots := 1343, locals := 60 }
theorem yk_X2_init : m_K yX2_init cX2_init 2 (none) 0 := ⟨wm_0_137, wm_0_6, by decide +kernel⟩
theorem ys_X2_init : Cond.instanceMethod yX2_init ∈ wT := wm_0_136
set_option maxRecDepth 100000 in
set_option maxHeartbeats 4000000 in
theorem k_X2_init_L15_7 {p : Program} {l : Launch} {e : Env} {s : State} {m : MethodId} {args : Array Value} {below : List Frame} {meth : Method} {c : Code} {D : va_G} {ids : m_I3} {st : m_T} {A : Nat → Prop} {hF : mH} {zF : Nat} (hx : p.tables.exec = Jvm.exec) (hb : c.code = cX2_init) (hr : meth.sig.returnType = none) (hml : c.maxLocals = 2) (hown : s.vm.findClass RX2 = some m.cls) (hts : ∀ w ∈ (m_ws yX2_init cX2_init 2 (none)), w.before args s = true) (hlocks : meth.locks = false) (hin : meth.name = yX2_init.name) (hE : m_EV st A s s.heap) (hA : ∀ q, s.heap.size ≤ q → A q) (h : mH) (z : Nat) (v0 : Nat) (v1 : Int32) (H : Heap) (locs : List Loc) (ls : Array Slot) (hrun : s_X2_init_L15_7 st h z v0 v1 = some (hF, zF)) (hR : Rl D ids A h s H) (hz : H.size = z) (hS : va_S A s.heap H locs) (hl : lv_has ls 2 [(0, .ref v0), (1, .int v1)]) : W p l e rm_X2_init s m args below meth c H locs 64 1343 (MQ below (mQv D ids A hF zF) args s 64 1343 A) (F0 m 15 ls []) := by
  unfold s_X2_init_L15_7 at hrun
  exact absurd hrun (fun h9 => nomatch h9)
set_option maxRecDepth 100000 in
set_option maxHeartbeats 4000000 in
theorem k_X2_init_L15_6 {p : Program} {l : Launch} {e : Env} {s : State} {m : MethodId} {args : Array Value} {below : List Frame} {meth : Method} {c : Code} {D : va_G} {ids : m_I3} {st : m_T} {A : Nat → Prop} {hF : mH} {zF : Nat} (hx : p.tables.exec = Jvm.exec) (hb : c.code = cX2_init) (hr : meth.sig.returnType = none) (hml : c.maxLocals = 2) (hown : s.vm.findClass RX2 = some m.cls) (hts : ∀ w ∈ (m_ws yX2_init cX2_init 2 (none)), w.before args s = true) (hlocks : meth.locks = false) (hin : meth.name = yX2_init.name) (hE : m_EV st A s s.heap) (hA : ∀ q, s.heap.size ≤ q → A q) (h : mH) (z : Nat) (v0 : Nat) (v1 : Int32) (H : Heap) (locs : List Loc) (ls : Array Slot) (hrun : s_X2_init_L15_6 st h z v0 v1 = some (hF, zF)) (hR : Rl D ids A h s H) (hz : H.size = z) (hS : va_S A s.heap H locs) (hl : lv_has ls 2 [(0, .ref v0), (1, .int v1)]) : W p l e rm_X2_init s m args below meth c H locs 55 1152 (MQ below (mQv D ids A hF zF) args s 64 1343 A) (F0 m 15 ls []) := by
  unfold s_X2_init_L15_6 at hrun
  refine lv_iload_n hx hb dX2_init_15 rfl (lv_at hl 1 rfl) ?_
  refine lv_aload_n hx hb dX2_init_16 rfl (lv_at hl 0 rfl) ?_
  obtain ⟨x17, hc9, hrun⟩ := m_bind hrun
  refine mr_get (C := RX2) (T := TX2) (N := 3) (ci := 1) hx hb hts (fun w q => m_ws_in (wi_X2 w q)) hown hR rfl 0 (by decide) (hts _ (m_ws_in wm_0_142)) (fun _ h9 => h9) (m_gr_spec hc9) dX2_init_17 ?_
  obtain ⟨x20, hc9, hrun⟩ := m_bind hrun
  refine mr_alen hx hb hR hc9 dX2_init_20 ?_
  refine lv_icmp_ge (tgt := 43) hx hb dX2_init_21 (by decide) (fun hc => ?_) (fun hc => ?_)
  · have hrun := mt_t hrun hc
    refine lv_aload_n hx hb dX2_init_43 rfl (lv_at hl 0 rfl) ?_
    refine lv_iconst (v := 0) hx hb dX2_init_44 (by decide) ?_
    obtain ⟨h45, hc9, hrun⟩ := m_bind hrun
    refine mr_put (C := RX2) (T := TX2) (N := 3) (ci := 1) hx hb hts (fun w q => m_ws_in (wi_X2 w q)) tyX2 tyX2_ok nmX2 hown hR hz hS rfl 1 (by decide) (hts _ (m_ws_in wm_0_143)) (fun _ h9 => h9) rfl (tyX2_ok 1 (by decide)) rfl rfl hc9 dX2_init_45 (fun H locs hR hz hS => ?_)
    refine lv_aload_n hx hb dX2_init_48 rfl (lv_at hl 0 rfl) ?_
    refine lv_iconst (v := 0) hx hb dX2_init_49 (by decide) ?_
    obtain ⟨h50, hc9, hrun⟩ := m_bind hrun
    refine mr_put (C := RX2) (T := TX2) (N := 3) (ci := 1) hx hb hts (fun w q => m_ws_in (wi_X2 w q)) tyX2 tyX2_ok nmX2 hown hR hz hS rfl 2 (by decide) (hts _ (m_ws_in wm_0_144)) (fun _ h9 => h9) rfl (tyX2_ok 2 (by decide)) rfl rfl hc9 dX2_init_50 (fun H locs hR hz hS => ?_)
    obtain ⟨rfl, rfl⟩ := Prod.mk.inj (Option.some.inj hrun)
    refine W.widen (k := 64) (n := 1343) (Nat.le_of_ble_eq_true rfl) (Nat.le_of_ble_eq_true rfl) ?_
    exact mr_vret hx hb hr hlocks hR hz hS dX2_init_53
  · have hrun := mt_f hrun hc
    refine lv_aload_n hx hb dX2_init_24 rfl (lv_at hl 0 rfl) ?_
    obtain ⟨x25, hc9, hrun⟩ := m_bind hrun
    refine mr_get (C := RX2) (T := TX2) (N := 3) (ci := 1) hx hb hts (fun w q => m_ws_in (wi_X2 w q)) hown hR rfl 0 (by decide) (hts _ (m_ws_in wm_0_142)) (fun _ h9 => h9) (m_gr_spec hc9) dX2_init_25 ?_
    refine lv_iload_n hx hb dX2_init_28 rfl (lv_at hl 1 rfl) ?_
    obtain ⟨h29, hc9, hrun⟩ := m_bind hrun
    refine mr_new (C := RX3) (T := TX3) (N := 10) (ci := 2) (fs := [.null, .null, .null, .null, .null, .null, .null, .int 0, .int 0, .int 0]) hx hb hts (fun w q => m_ws_in (wi_X3 w q)) tyX3 tyX3_ok hown (hts _ (m_ws_in wm_0_139)) (hts _ (m_ws_in wm_0_25)) (hts _ (m_ws_in wm_0_2)) hR hz hS hA rfl (fun j hj => by rcases (show j = 0 ∨ j = 1 ∨ j = 2 ∨ j = 3 ∨ j = 4 ∨ j = 5 ∨ j = 6 ∨ j = 7 ∨ j = 8 ∨ j = 9 by omega) with rfl | rfl | rfl | rfl | rfl | rfl | rfl | rfl | rfl | rfl <;> rfl) (Nat.le_of_ble_eq_true rfl) (Nat.le_of_ble_eq_true rfl) dX2_init_29 (fun H hR hz hS => ?_)
    rw [Option.some.inj hc9] at hR
    refine lv_dup hx hb dX2_init_32 rfl ?_
    obtain ⟨⟨h33, z33⟩, hc9, hrun⟩ := m_bind hrun
    refine mr_callv (mr_runI (As := []) (rest := [.ref z, .int v1, .ref x25]) hx hb hml hown hts (c_X3_init l D ids st (z + 1) hc9) yk_X3_init ys_X3_init rfl wm_0_141 ⟨(Nat.le_of_ble_eq_true rfl), (Nat.le_of_ble_eq_true rfl)⟩ (mr_recvS hR hE hz hS hA) hl.1 rfl (Nat.le_of_ble_eq_true rfl) dX2_init_33 ⟨(Nat.le_of_ble_eq_true rfl), (Nat.le_of_ble_eq_true rfl)⟩) hR hz hS hA (fun H locs hR hz hS => ?_)
    obtain ⟨h36, hc9, hrun⟩ := m_bind hrun
    refine mr_aast hx hb hR hz hS hc9 dX2_init_36 (fun H locs hR hz hS => ?_)
    refine lv_iinc (v := v1 + 1) (lv' := [(1, .int (v1 + 1)), (0, .ref v0)]) hx hb dX2_init_37 hl (k := 1) rfl rfl (by decide) rfl (fun ls hl => ?_)
    refine lv_goto (tgt := 15) hx hb dX2_init_40 (by decide) ?_
    exact k_X2_init_L15_7 hx hb hr hml hown hts hlocks hin hE hA _ _ _ _ _ _ _ hrun hR hz hS (lv_sub hl [1, 0] rfl)
set_option maxRecDepth 100000 in
set_option maxHeartbeats 4000000 in
theorem k_X2_init_L15_5 {p : Program} {l : Launch} {e : Env} {s : State} {m : MethodId} {args : Array Value} {below : List Frame} {meth : Method} {c : Code} {D : va_G} {ids : m_I3} {st : m_T} {A : Nat → Prop} {hF : mH} {zF : Nat} (hx : p.tables.exec = Jvm.exec) (hb : c.code = cX2_init) (hr : meth.sig.returnType = none) (hml : c.maxLocals = 2) (hown : s.vm.findClass RX2 = some m.cls) (hts : ∀ w ∈ (m_ws yX2_init cX2_init 2 (none)), w.before args s = true) (hlocks : meth.locks = false) (hin : meth.name = yX2_init.name) (hE : m_EV st A s s.heap) (hA : ∀ q, s.heap.size ≤ q → A q) (h : mH) (z : Nat) (v0 : Nat) (v1 : Int32) (H : Heap) (locs : List Loc) (ls : Array Slot) (hrun : s_X2_init_L15_5 st h z v0 v1 = some (hF, zF)) (hR : Rl D ids A h s H) (hz : H.size = z) (hS : va_S A s.heap H locs) (hl : lv_has ls 2 [(0, .ref v0), (1, .int v1)]) : W p l e rm_X2_init s m args below meth c H locs 46 961 (MQ below (mQv D ids A hF zF) args s 64 1343 A) (F0 m 15 ls []) := by
  unfold s_X2_init_L15_5 at hrun
  refine lv_iload_n hx hb dX2_init_15 rfl (lv_at hl 1 rfl) ?_
  refine lv_aload_n hx hb dX2_init_16 rfl (lv_at hl 0 rfl) ?_
  obtain ⟨x17, hc9, hrun⟩ := m_bind hrun
  refine mr_get (C := RX2) (T := TX2) (N := 3) (ci := 1) hx hb hts (fun w q => m_ws_in (wi_X2 w q)) hown hR rfl 0 (by decide) (hts _ (m_ws_in wm_0_142)) (fun _ h9 => h9) (m_gr_spec hc9) dX2_init_17 ?_
  obtain ⟨x20, hc9, hrun⟩ := m_bind hrun
  refine mr_alen hx hb hR hc9 dX2_init_20 ?_
  refine lv_icmp_ge (tgt := 43) hx hb dX2_init_21 (by decide) (fun hc => ?_) (fun hc => ?_)
  · have hrun := mt_t hrun hc
    refine lv_aload_n hx hb dX2_init_43 rfl (lv_at hl 0 rfl) ?_
    refine lv_iconst (v := 0) hx hb dX2_init_44 (by decide) ?_
    obtain ⟨h45, hc9, hrun⟩ := m_bind hrun
    refine mr_put (C := RX2) (T := TX2) (N := 3) (ci := 1) hx hb hts (fun w q => m_ws_in (wi_X2 w q)) tyX2 tyX2_ok nmX2 hown hR hz hS rfl 1 (by decide) (hts _ (m_ws_in wm_0_143)) (fun _ h9 => h9) rfl (tyX2_ok 1 (by decide)) rfl rfl hc9 dX2_init_45 (fun H locs hR hz hS => ?_)
    refine lv_aload_n hx hb dX2_init_48 rfl (lv_at hl 0 rfl) ?_
    refine lv_iconst (v := 0) hx hb dX2_init_49 (by decide) ?_
    obtain ⟨h50, hc9, hrun⟩ := m_bind hrun
    refine mr_put (C := RX2) (T := TX2) (N := 3) (ci := 1) hx hb hts (fun w q => m_ws_in (wi_X2 w q)) tyX2 tyX2_ok nmX2 hown hR hz hS rfl 2 (by decide) (hts _ (m_ws_in wm_0_144)) (fun _ h9 => h9) rfl (tyX2_ok 2 (by decide)) rfl rfl hc9 dX2_init_50 (fun H locs hR hz hS => ?_)
    obtain ⟨rfl, rfl⟩ := Prod.mk.inj (Option.some.inj hrun)
    refine W.widen (k := 64) (n := 1343) (Nat.le_of_ble_eq_true rfl) (Nat.le_of_ble_eq_true rfl) ?_
    exact mr_vret hx hb hr hlocks hR hz hS dX2_init_53
  · have hrun := mt_f hrun hc
    refine lv_aload_n hx hb dX2_init_24 rfl (lv_at hl 0 rfl) ?_
    obtain ⟨x25, hc9, hrun⟩ := m_bind hrun
    refine mr_get (C := RX2) (T := TX2) (N := 3) (ci := 1) hx hb hts (fun w q => m_ws_in (wi_X2 w q)) hown hR rfl 0 (by decide) (hts _ (m_ws_in wm_0_142)) (fun _ h9 => h9) (m_gr_spec hc9) dX2_init_25 ?_
    refine lv_iload_n hx hb dX2_init_28 rfl (lv_at hl 1 rfl) ?_
    obtain ⟨h29, hc9, hrun⟩ := m_bind hrun
    refine mr_new (C := RX3) (T := TX3) (N := 10) (ci := 2) (fs := [.null, .null, .null, .null, .null, .null, .null, .int 0, .int 0, .int 0]) hx hb hts (fun w q => m_ws_in (wi_X3 w q)) tyX3 tyX3_ok hown (hts _ (m_ws_in wm_0_139)) (hts _ (m_ws_in wm_0_25)) (hts _ (m_ws_in wm_0_2)) hR hz hS hA rfl (fun j hj => by rcases (show j = 0 ∨ j = 1 ∨ j = 2 ∨ j = 3 ∨ j = 4 ∨ j = 5 ∨ j = 6 ∨ j = 7 ∨ j = 8 ∨ j = 9 by omega) with rfl | rfl | rfl | rfl | rfl | rfl | rfl | rfl | rfl | rfl <;> rfl) (Nat.le_of_ble_eq_true rfl) (Nat.le_of_ble_eq_true rfl) dX2_init_29 (fun H hR hz hS => ?_)
    rw [Option.some.inj hc9] at hR
    refine lv_dup hx hb dX2_init_32 rfl ?_
    obtain ⟨⟨h33, z33⟩, hc9, hrun⟩ := m_bind hrun
    refine mr_callv (mr_runI (As := []) (rest := [.ref z, .int v1, .ref x25]) hx hb hml hown hts (c_X3_init l D ids st (z + 1) hc9) yk_X3_init ys_X3_init rfl wm_0_141 ⟨(Nat.le_of_ble_eq_true rfl), (Nat.le_of_ble_eq_true rfl)⟩ (mr_recvS hR hE hz hS hA) hl.1 rfl (Nat.le_of_ble_eq_true rfl) dX2_init_33 ⟨(Nat.le_of_ble_eq_true rfl), (Nat.le_of_ble_eq_true rfl)⟩) hR hz hS hA (fun H locs hR hz hS => ?_)
    obtain ⟨h36, hc9, hrun⟩ := m_bind hrun
    refine mr_aast hx hb hR hz hS hc9 dX2_init_36 (fun H locs hR hz hS => ?_)
    refine lv_iinc (v := v1 + 1) (lv' := [(1, .int (v1 + 1)), (0, .ref v0)]) hx hb dX2_init_37 hl (k := 1) rfl rfl (by decide) rfl (fun ls hl => ?_)
    refine lv_goto (tgt := 15) hx hb dX2_init_40 (by decide) ?_
    exact k_X2_init_L15_6 hx hb hr hml hown hts hlocks hin hE hA _ _ _ _ _ _ _ hrun hR hz hS (lv_sub hl [1, 0] rfl)
set_option maxRecDepth 100000 in
set_option maxHeartbeats 4000000 in
theorem k_X2_init_L15_4 {p : Program} {l : Launch} {e : Env} {s : State} {m : MethodId} {args : Array Value} {below : List Frame} {meth : Method} {c : Code} {D : va_G} {ids : m_I3} {st : m_T} {A : Nat → Prop} {hF : mH} {zF : Nat} (hx : p.tables.exec = Jvm.exec) (hb : c.code = cX2_init) (hr : meth.sig.returnType = none) (hml : c.maxLocals = 2) (hown : s.vm.findClass RX2 = some m.cls) (hts : ∀ w ∈ (m_ws yX2_init cX2_init 2 (none)), w.before args s = true) (hlocks : meth.locks = false) (hin : meth.name = yX2_init.name) (hE : m_EV st A s s.heap) (hA : ∀ q, s.heap.size ≤ q → A q) (h : mH) (z : Nat) (v0 : Nat) (v1 : Int32) (H : Heap) (locs : List Loc) (ls : Array Slot) (hrun : s_X2_init_L15_4 st h z v0 v1 = some (hF, zF)) (hR : Rl D ids A h s H) (hz : H.size = z) (hS : va_S A s.heap H locs) (hl : lv_has ls 2 [(0, .ref v0), (1, .int v1)]) : W p l e rm_X2_init s m args below meth c H locs 37 770 (MQ below (mQv D ids A hF zF) args s 64 1343 A) (F0 m 15 ls []) := by
  unfold s_X2_init_L15_4 at hrun
  refine lv_iload_n hx hb dX2_init_15 rfl (lv_at hl 1 rfl) ?_
  refine lv_aload_n hx hb dX2_init_16 rfl (lv_at hl 0 rfl) ?_
  obtain ⟨x17, hc9, hrun⟩ := m_bind hrun
  refine mr_get (C := RX2) (T := TX2) (N := 3) (ci := 1) hx hb hts (fun w q => m_ws_in (wi_X2 w q)) hown hR rfl 0 (by decide) (hts _ (m_ws_in wm_0_142)) (fun _ h9 => h9) (m_gr_spec hc9) dX2_init_17 ?_
  obtain ⟨x20, hc9, hrun⟩ := m_bind hrun
  refine mr_alen hx hb hR hc9 dX2_init_20 ?_
  refine lv_icmp_ge (tgt := 43) hx hb dX2_init_21 (by decide) (fun hc => ?_) (fun hc => ?_)
  · have hrun := mt_t hrun hc
    refine lv_aload_n hx hb dX2_init_43 rfl (lv_at hl 0 rfl) ?_
    refine lv_iconst (v := 0) hx hb dX2_init_44 (by decide) ?_
    obtain ⟨h45, hc9, hrun⟩ := m_bind hrun
    refine mr_put (C := RX2) (T := TX2) (N := 3) (ci := 1) hx hb hts (fun w q => m_ws_in (wi_X2 w q)) tyX2 tyX2_ok nmX2 hown hR hz hS rfl 1 (by decide) (hts _ (m_ws_in wm_0_143)) (fun _ h9 => h9) rfl (tyX2_ok 1 (by decide)) rfl rfl hc9 dX2_init_45 (fun H locs hR hz hS => ?_)
    refine lv_aload_n hx hb dX2_init_48 rfl (lv_at hl 0 rfl) ?_
    refine lv_iconst (v := 0) hx hb dX2_init_49 (by decide) ?_
    obtain ⟨h50, hc9, hrun⟩ := m_bind hrun
    refine mr_put (C := RX2) (T := TX2) (N := 3) (ci := 1) hx hb hts (fun w q => m_ws_in (wi_X2 w q)) tyX2 tyX2_ok nmX2 hown hR hz hS rfl 2 (by decide) (hts _ (m_ws_in wm_0_144)) (fun _ h9 => h9) rfl (tyX2_ok 2 (by decide)) rfl rfl hc9 dX2_init_50 (fun H locs hR hz hS => ?_)
    obtain ⟨rfl, rfl⟩ := Prod.mk.inj (Option.some.inj hrun)
    refine W.widen (k := 64) (n := 1343) (Nat.le_of_ble_eq_true rfl) (Nat.le_of_ble_eq_true rfl) ?_
    exact mr_vret hx hb hr hlocks hR hz hS dX2_init_53
  · have hrun := mt_f hrun hc
    refine lv_aload_n hx hb dX2_init_24 rfl (lv_at hl 0 rfl) ?_
    obtain ⟨x25, hc9, hrun⟩ := m_bind hrun
    refine mr_get (C := RX2) (T := TX2) (N := 3) (ci := 1) hx hb hts (fun w q => m_ws_in (wi_X2 w q)) hown hR rfl 0 (by decide) (hts _ (m_ws_in wm_0_142)) (fun _ h9 => h9) (m_gr_spec hc9) dX2_init_25 ?_
    refine lv_iload_n hx hb dX2_init_28 rfl (lv_at hl 1 rfl) ?_
    obtain ⟨h29, hc9, hrun⟩ := m_bind hrun
    refine mr_new (C := RX3) (T := TX3) (N := 10) (ci := 2) (fs := [.null, .null, .null, .null, .null, .null, .null, .int 0, .int 0, .int 0]) hx hb hts (fun w q => m_ws_in (wi_X3 w q)) tyX3 tyX3_ok hown (hts _ (m_ws_in wm_0_139)) (hts _ (m_ws_in wm_0_25)) (hts _ (m_ws_in wm_0_2)) hR hz hS hA rfl (fun j hj => by rcases (show j = 0 ∨ j = 1 ∨ j = 2 ∨ j = 3 ∨ j = 4 ∨ j = 5 ∨ j = 6 ∨ j = 7 ∨ j = 8 ∨ j = 9 by omega) with rfl | rfl | rfl | rfl | rfl | rfl | rfl | rfl | rfl | rfl <;> rfl) (Nat.le_of_ble_eq_true rfl) (Nat.le_of_ble_eq_true rfl) dX2_init_29 (fun H hR hz hS => ?_)
    rw [Option.some.inj hc9] at hR
    refine lv_dup hx hb dX2_init_32 rfl ?_
    obtain ⟨⟨h33, z33⟩, hc9, hrun⟩ := m_bind hrun
    refine mr_callv (mr_runI (As := []) (rest := [.ref z, .int v1, .ref x25]) hx hb hml hown hts (c_X3_init l D ids st (z + 1) hc9) yk_X3_init ys_X3_init rfl wm_0_141 ⟨(Nat.le_of_ble_eq_true rfl), (Nat.le_of_ble_eq_true rfl)⟩ (mr_recvS hR hE hz hS hA) hl.1 rfl (Nat.le_of_ble_eq_true rfl) dX2_init_33 ⟨(Nat.le_of_ble_eq_true rfl), (Nat.le_of_ble_eq_true rfl)⟩) hR hz hS hA (fun H locs hR hz hS => ?_)
    obtain ⟨h36, hc9, hrun⟩ := m_bind hrun
    refine mr_aast hx hb hR hz hS hc9 dX2_init_36 (fun H locs hR hz hS => ?_)
    refine lv_iinc (v := v1 + 1) (lv' := [(1, .int (v1 + 1)), (0, .ref v0)]) hx hb dX2_init_37 hl (k := 1) rfl rfl (by decide) rfl (fun ls hl => ?_)
    refine lv_goto (tgt := 15) hx hb dX2_init_40 (by decide) ?_
    exact k_X2_init_L15_5 hx hb hr hml hown hts hlocks hin hE hA _ _ _ _ _ _ _ hrun hR hz hS (lv_sub hl [1, 0] rfl)
set_option maxRecDepth 100000 in
set_option maxHeartbeats 4000000 in
theorem k_X2_init_L15_3 {p : Program} {l : Launch} {e : Env} {s : State} {m : MethodId} {args : Array Value} {below : List Frame} {meth : Method} {c : Code} {D : va_G} {ids : m_I3} {st : m_T} {A : Nat → Prop} {hF : mH} {zF : Nat} (hx : p.tables.exec = Jvm.exec) (hb : c.code = cX2_init) (hr : meth.sig.returnType = none) (hml : c.maxLocals = 2) (hown : s.vm.findClass RX2 = some m.cls) (hts : ∀ w ∈ (m_ws yX2_init cX2_init 2 (none)), w.before args s = true) (hlocks : meth.locks = false) (hin : meth.name = yX2_init.name) (hE : m_EV st A s s.heap) (hA : ∀ q, s.heap.size ≤ q → A q) (h : mH) (z : Nat) (v0 : Nat) (v1 : Int32) (H : Heap) (locs : List Loc) (ls : Array Slot) (hrun : s_X2_init_L15_3 st h z v0 v1 = some (hF, zF)) (hR : Rl D ids A h s H) (hz : H.size = z) (hS : va_S A s.heap H locs) (hl : lv_has ls 2 [(0, .ref v0), (1, .int v1)]) : W p l e rm_X2_init s m args below meth c H locs 28 579 (MQ below (mQv D ids A hF zF) args s 64 1343 A) (F0 m 15 ls []) := by
  unfold s_X2_init_L15_3 at hrun
  refine lv_iload_n hx hb dX2_init_15 rfl (lv_at hl 1 rfl) ?_
  refine lv_aload_n hx hb dX2_init_16 rfl (lv_at hl 0 rfl) ?_
  obtain ⟨x17, hc9, hrun⟩ := m_bind hrun
  refine mr_get (C := RX2) (T := TX2) (N := 3) (ci := 1) hx hb hts (fun w q => m_ws_in (wi_X2 w q)) hown hR rfl 0 (by decide) (hts _ (m_ws_in wm_0_142)) (fun _ h9 => h9) (m_gr_spec hc9) dX2_init_17 ?_
  obtain ⟨x20, hc9, hrun⟩ := m_bind hrun
  refine mr_alen hx hb hR hc9 dX2_init_20 ?_
  refine lv_icmp_ge (tgt := 43) hx hb dX2_init_21 (by decide) (fun hc => ?_) (fun hc => ?_)
  · have hrun := mt_t hrun hc
    refine lv_aload_n hx hb dX2_init_43 rfl (lv_at hl 0 rfl) ?_
    refine lv_iconst (v := 0) hx hb dX2_init_44 (by decide) ?_
    obtain ⟨h45, hc9, hrun⟩ := m_bind hrun
    refine mr_put (C := RX2) (T := TX2) (N := 3) (ci := 1) hx hb hts (fun w q => m_ws_in (wi_X2 w q)) tyX2 tyX2_ok nmX2 hown hR hz hS rfl 1 (by decide) (hts _ (m_ws_in wm_0_143)) (fun _ h9 => h9) rfl (tyX2_ok 1 (by decide)) rfl rfl hc9 dX2_init_45 (fun H locs hR hz hS => ?_)
    refine lv_aload_n hx hb dX2_init_48 rfl (lv_at hl 0 rfl) ?_
    refine lv_iconst (v := 0) hx hb dX2_init_49 (by decide) ?_
    obtain ⟨h50, hc9, hrun⟩ := m_bind hrun
    refine mr_put (C := RX2) (T := TX2) (N := 3) (ci := 1) hx hb hts (fun w q => m_ws_in (wi_X2 w q)) tyX2 tyX2_ok nmX2 hown hR hz hS rfl 2 (by decide) (hts _ (m_ws_in wm_0_144)) (fun _ h9 => h9) rfl (tyX2_ok 2 (by decide)) rfl rfl hc9 dX2_init_50 (fun H locs hR hz hS => ?_)
    obtain ⟨rfl, rfl⟩ := Prod.mk.inj (Option.some.inj hrun)
    refine W.widen (k := 64) (n := 1343) (Nat.le_of_ble_eq_true rfl) (Nat.le_of_ble_eq_true rfl) ?_
    exact mr_vret hx hb hr hlocks hR hz hS dX2_init_53
  · have hrun := mt_f hrun hc
    refine lv_aload_n hx hb dX2_init_24 rfl (lv_at hl 0 rfl) ?_
    obtain ⟨x25, hc9, hrun⟩ := m_bind hrun
    refine mr_get (C := RX2) (T := TX2) (N := 3) (ci := 1) hx hb hts (fun w q => m_ws_in (wi_X2 w q)) hown hR rfl 0 (by decide) (hts _ (m_ws_in wm_0_142)) (fun _ h9 => h9) (m_gr_spec hc9) dX2_init_25 ?_
    refine lv_iload_n hx hb dX2_init_28 rfl (lv_at hl 1 rfl) ?_
    obtain ⟨h29, hc9, hrun⟩ := m_bind hrun
    refine mr_new (C := RX3) (T := TX3) (N := 10) (ci := 2) (fs := [.null, .null, .null, .null, .null, .null, .null, .int 0, .int 0, .int 0]) hx hb hts (fun w q => m_ws_in (wi_X3 w q)) tyX3 tyX3_ok hown (hts _ (m_ws_in wm_0_139)) (hts _ (m_ws_in wm_0_25)) (hts _ (m_ws_in wm_0_2)) hR hz hS hA rfl (fun j hj => by rcases (show j = 0 ∨ j = 1 ∨ j = 2 ∨ j = 3 ∨ j = 4 ∨ j = 5 ∨ j = 6 ∨ j = 7 ∨ j = 8 ∨ j = 9 by omega) with rfl | rfl | rfl | rfl | rfl | rfl | rfl | rfl | rfl | rfl <;> rfl) (Nat.le_of_ble_eq_true rfl) (Nat.le_of_ble_eq_true rfl) dX2_init_29 (fun H hR hz hS => ?_)
    rw [Option.some.inj hc9] at hR
    refine lv_dup hx hb dX2_init_32 rfl ?_
    obtain ⟨⟨h33, z33⟩, hc9, hrun⟩ := m_bind hrun
    refine mr_callv (mr_runI (As := []) (rest := [.ref z, .int v1, .ref x25]) hx hb hml hown hts (c_X3_init l D ids st (z + 1) hc9) yk_X3_init ys_X3_init rfl wm_0_141 ⟨(Nat.le_of_ble_eq_true rfl), (Nat.le_of_ble_eq_true rfl)⟩ (mr_recvS hR hE hz hS hA) hl.1 rfl (Nat.le_of_ble_eq_true rfl) dX2_init_33 ⟨(Nat.le_of_ble_eq_true rfl), (Nat.le_of_ble_eq_true rfl)⟩) hR hz hS hA (fun H locs hR hz hS => ?_)
    obtain ⟨h36, hc9, hrun⟩ := m_bind hrun
    refine mr_aast hx hb hR hz hS hc9 dX2_init_36 (fun H locs hR hz hS => ?_)
    refine lv_iinc (v := v1 + 1) (lv' := [(1, .int (v1 + 1)), (0, .ref v0)]) hx hb dX2_init_37 hl (k := 1) rfl rfl (by decide) rfl (fun ls hl => ?_)
    refine lv_goto (tgt := 15) hx hb dX2_init_40 (by decide) ?_
    exact k_X2_init_L15_4 hx hb hr hml hown hts hlocks hin hE hA _ _ _ _ _ _ _ hrun hR hz hS (lv_sub hl [1, 0] rfl)
set_option maxRecDepth 100000 in
set_option maxHeartbeats 4000000 in
theorem k_X2_init_L15_2 {p : Program} {l : Launch} {e : Env} {s : State} {m : MethodId} {args : Array Value} {below : List Frame} {meth : Method} {c : Code} {D : va_G} {ids : m_I3} {st : m_T} {A : Nat → Prop} {hF : mH} {zF : Nat} (hx : p.tables.exec = Jvm.exec) (hb : c.code = cX2_init) (hr : meth.sig.returnType = none) (hml : c.maxLocals = 2) (hown : s.vm.findClass RX2 = some m.cls) (hts : ∀ w ∈ (m_ws yX2_init cX2_init 2 (none)), w.before args s = true) (hlocks : meth.locks = false) (hin : meth.name = yX2_init.name) (hE : m_EV st A s s.heap) (hA : ∀ q, s.heap.size ≤ q → A q) (h : mH) (z : Nat) (v0 : Nat) (v1 : Int32) (H : Heap) (locs : List Loc) (ls : Array Slot) (hrun : s_X2_init_L15_2 st h z v0 v1 = some (hF, zF)) (hR : Rl D ids A h s H) (hz : H.size = z) (hS : va_S A s.heap H locs) (hl : lv_has ls 2 [(0, .ref v0), (1, .int v1)]) : W p l e rm_X2_init s m args below meth c H locs 19 388 (MQ below (mQv D ids A hF zF) args s 64 1343 A) (F0 m 15 ls []) := by
  unfold s_X2_init_L15_2 at hrun
  refine lv_iload_n hx hb dX2_init_15 rfl (lv_at hl 1 rfl) ?_
  refine lv_aload_n hx hb dX2_init_16 rfl (lv_at hl 0 rfl) ?_
  obtain ⟨x17, hc9, hrun⟩ := m_bind hrun
  refine mr_get (C := RX2) (T := TX2) (N := 3) (ci := 1) hx hb hts (fun w q => m_ws_in (wi_X2 w q)) hown hR rfl 0 (by decide) (hts _ (m_ws_in wm_0_142)) (fun _ h9 => h9) (m_gr_spec hc9) dX2_init_17 ?_
  obtain ⟨x20, hc9, hrun⟩ := m_bind hrun
  refine mr_alen hx hb hR hc9 dX2_init_20 ?_
  refine lv_icmp_ge (tgt := 43) hx hb dX2_init_21 (by decide) (fun hc => ?_) (fun hc => ?_)
  · have hrun := mt_t hrun hc
    refine lv_aload_n hx hb dX2_init_43 rfl (lv_at hl 0 rfl) ?_
    refine lv_iconst (v := 0) hx hb dX2_init_44 (by decide) ?_
    obtain ⟨h45, hc9, hrun⟩ := m_bind hrun
    refine mr_put (C := RX2) (T := TX2) (N := 3) (ci := 1) hx hb hts (fun w q => m_ws_in (wi_X2 w q)) tyX2 tyX2_ok nmX2 hown hR hz hS rfl 1 (by decide) (hts _ (m_ws_in wm_0_143)) (fun _ h9 => h9) rfl (tyX2_ok 1 (by decide)) rfl rfl hc9 dX2_init_45 (fun H locs hR hz hS => ?_)
    refine lv_aload_n hx hb dX2_init_48 rfl (lv_at hl 0 rfl) ?_
    refine lv_iconst (v := 0) hx hb dX2_init_49 (by decide) ?_
    obtain ⟨h50, hc9, hrun⟩ := m_bind hrun
    refine mr_put (C := RX2) (T := TX2) (N := 3) (ci := 1) hx hb hts (fun w q => m_ws_in (wi_X2 w q)) tyX2 tyX2_ok nmX2 hown hR hz hS rfl 2 (by decide) (hts _ (m_ws_in wm_0_144)) (fun _ h9 => h9) rfl (tyX2_ok 2 (by decide)) rfl rfl hc9 dX2_init_50 (fun H locs hR hz hS => ?_)
    obtain ⟨rfl, rfl⟩ := Prod.mk.inj (Option.some.inj hrun)
    refine W.widen (k := 64) (n := 1343) (Nat.le_of_ble_eq_true rfl) (Nat.le_of_ble_eq_true rfl) ?_
    exact mr_vret hx hb hr hlocks hR hz hS dX2_init_53
  · have hrun := mt_f hrun hc
    refine lv_aload_n hx hb dX2_init_24 rfl (lv_at hl 0 rfl) ?_
    obtain ⟨x25, hc9, hrun⟩ := m_bind hrun
    refine mr_get (C := RX2) (T := TX2) (N := 3) (ci := 1) hx hb hts (fun w q => m_ws_in (wi_X2 w q)) hown hR rfl 0 (by decide) (hts _ (m_ws_in wm_0_142)) (fun _ h9 => h9) (m_gr_spec hc9) dX2_init_25 ?_
    refine lv_iload_n hx hb dX2_init_28 rfl (lv_at hl 1 rfl) ?_
    obtain ⟨h29, hc9, hrun⟩ := m_bind hrun
    refine mr_new (C := RX3) (T := TX3) (N := 10) (ci := 2) (fs := [.null, .null, .null, .null, .null, .null, .null, .int 0, .int 0, .int 0]) hx hb hts (fun w q => m_ws_in (wi_X3 w q)) tyX3 tyX3_ok hown (hts _ (m_ws_in wm_0_139)) (hts _ (m_ws_in wm_0_25)) (hts _ (m_ws_in wm_0_2)) hR hz hS hA rfl (fun j hj => by rcases (show j = 0 ∨ j = 1 ∨ j = 2 ∨ j = 3 ∨ j = 4 ∨ j = 5 ∨ j = 6 ∨ j = 7 ∨ j = 8 ∨ j = 9 by omega) with rfl | rfl | rfl | rfl | rfl | rfl | rfl | rfl | rfl | rfl <;> rfl) (Nat.le_of_ble_eq_true rfl) (Nat.le_of_ble_eq_true rfl) dX2_init_29 (fun H hR hz hS => ?_)
    rw [Option.some.inj hc9] at hR
    refine lv_dup hx hb dX2_init_32 rfl ?_
    obtain ⟨⟨h33, z33⟩, hc9, hrun⟩ := m_bind hrun
    refine mr_callv (mr_runI (As := []) (rest := [.ref z, .int v1, .ref x25]) hx hb hml hown hts (c_X3_init l D ids st (z + 1) hc9) yk_X3_init ys_X3_init rfl wm_0_141 ⟨(Nat.le_of_ble_eq_true rfl), (Nat.le_of_ble_eq_true rfl)⟩ (mr_recvS hR hE hz hS hA) hl.1 rfl (Nat.le_of_ble_eq_true rfl) dX2_init_33 ⟨(Nat.le_of_ble_eq_true rfl), (Nat.le_of_ble_eq_true rfl)⟩) hR hz hS hA (fun H locs hR hz hS => ?_)
    obtain ⟨h36, hc9, hrun⟩ := m_bind hrun
    refine mr_aast hx hb hR hz hS hc9 dX2_init_36 (fun H locs hR hz hS => ?_)
    refine lv_iinc (v := v1 + 1) (lv' := [(1, .int (v1 + 1)), (0, .ref v0)]) hx hb dX2_init_37 hl (k := 1) rfl rfl (by decide) rfl (fun ls hl => ?_)
    refine lv_goto (tgt := 15) hx hb dX2_init_40 (by decide) ?_
    exact k_X2_init_L15_3 hx hb hr hml hown hts hlocks hin hE hA _ _ _ _ _ _ _ hrun hR hz hS (lv_sub hl [1, 0] rfl)
set_option maxRecDepth 100000 in
set_option maxHeartbeats 4000000 in
theorem k_X2_init_L15_1 {p : Program} {l : Launch} {e : Env} {s : State} {m : MethodId} {args : Array Value} {below : List Frame} {meth : Method} {c : Code} {D : va_G} {ids : m_I3} {st : m_T} {A : Nat → Prop} {hF : mH} {zF : Nat} (hx : p.tables.exec = Jvm.exec) (hb : c.code = cX2_init) (hr : meth.sig.returnType = none) (hml : c.maxLocals = 2) (hown : s.vm.findClass RX2 = some m.cls) (hts : ∀ w ∈ (m_ws yX2_init cX2_init 2 (none)), w.before args s = true) (hlocks : meth.locks = false) (hin : meth.name = yX2_init.name) (hE : m_EV st A s s.heap) (hA : ∀ q, s.heap.size ≤ q → A q) (h : mH) (z : Nat) (v0 : Nat) (v1 : Int32) (H : Heap) (locs : List Loc) (ls : Array Slot) (hrun : s_X2_init_L15_1 st h z v0 v1 = some (hF, zF)) (hR : Rl D ids A h s H) (hz : H.size = z) (hS : va_S A s.heap H locs) (hl : lv_has ls 2 [(0, .ref v0), (1, .int v1)]) : W p l e rm_X2_init s m args below meth c H locs 10 197 (MQ below (mQv D ids A hF zF) args s 64 1343 A) (F0 m 15 ls []) := by
  unfold s_X2_init_L15_1 at hrun
  refine lv_iload_n hx hb dX2_init_15 rfl (lv_at hl 1 rfl) ?_
  refine lv_aload_n hx hb dX2_init_16 rfl (lv_at hl 0 rfl) ?_
  obtain ⟨x17, hc9, hrun⟩ := m_bind hrun
  refine mr_get (C := RX2) (T := TX2) (N := 3) (ci := 1) hx hb hts (fun w q => m_ws_in (wi_X2 w q)) hown hR rfl 0 (by decide) (hts _ (m_ws_in wm_0_142)) (fun _ h9 => h9) (m_gr_spec hc9) dX2_init_17 ?_
  obtain ⟨x20, hc9, hrun⟩ := m_bind hrun
  refine mr_alen hx hb hR hc9 dX2_init_20 ?_
  refine lv_icmp_ge (tgt := 43) hx hb dX2_init_21 (by decide) (fun hc => ?_) (fun hc => ?_)
  · have hrun := mt_t hrun hc
    refine lv_aload_n hx hb dX2_init_43 rfl (lv_at hl 0 rfl) ?_
    refine lv_iconst (v := 0) hx hb dX2_init_44 (by decide) ?_
    obtain ⟨h45, hc9, hrun⟩ := m_bind hrun
    refine mr_put (C := RX2) (T := TX2) (N := 3) (ci := 1) hx hb hts (fun w q => m_ws_in (wi_X2 w q)) tyX2 tyX2_ok nmX2 hown hR hz hS rfl 1 (by decide) (hts _ (m_ws_in wm_0_143)) (fun _ h9 => h9) rfl (tyX2_ok 1 (by decide)) rfl rfl hc9 dX2_init_45 (fun H locs hR hz hS => ?_)
    refine lv_aload_n hx hb dX2_init_48 rfl (lv_at hl 0 rfl) ?_
    refine lv_iconst (v := 0) hx hb dX2_init_49 (by decide) ?_
    obtain ⟨h50, hc9, hrun⟩ := m_bind hrun
    refine mr_put (C := RX2) (T := TX2) (N := 3) (ci := 1) hx hb hts (fun w q => m_ws_in (wi_X2 w q)) tyX2 tyX2_ok nmX2 hown hR hz hS rfl 2 (by decide) (hts _ (m_ws_in wm_0_144)) (fun _ h9 => h9) rfl (tyX2_ok 2 (by decide)) rfl rfl hc9 dX2_init_50 (fun H locs hR hz hS => ?_)
    obtain ⟨rfl, rfl⟩ := Prod.mk.inj (Option.some.inj hrun)
    refine W.widen (k := 64) (n := 1343) (Nat.le_of_ble_eq_true rfl) (Nat.le_of_ble_eq_true rfl) ?_
    exact mr_vret hx hb hr hlocks hR hz hS dX2_init_53
  · have hrun := mt_f hrun hc
    refine lv_aload_n hx hb dX2_init_24 rfl (lv_at hl 0 rfl) ?_
    obtain ⟨x25, hc9, hrun⟩ := m_bind hrun
    refine mr_get (C := RX2) (T := TX2) (N := 3) (ci := 1) hx hb hts (fun w q => m_ws_in (wi_X2 w q)) hown hR rfl 0 (by decide) (hts _ (m_ws_in wm_0_142)) (fun _ h9 => h9) (m_gr_spec hc9) dX2_init_25 ?_
    refine lv_iload_n hx hb dX2_init_28 rfl (lv_at hl 1 rfl) ?_
    obtain ⟨h29, hc9, hrun⟩ := m_bind hrun
    refine mr_new (C := RX3) (T := TX3) (N := 10) (ci := 2) (fs := [.null, .null, .null, .null, .null, .null, .null, .int 0, .int 0, .int 0]) hx hb hts (fun w q => m_ws_in (wi_X3 w q)) tyX3 tyX3_ok hown (hts _ (m_ws_in wm_0_139)) (hts _ (m_ws_in wm_0_25)) (hts _ (m_ws_in wm_0_2)) hR hz hS hA rfl (fun j hj => by rcases (show j = 0 ∨ j = 1 ∨ j = 2 ∨ j = 3 ∨ j = 4 ∨ j = 5 ∨ j = 6 ∨ j = 7 ∨ j = 8 ∨ j = 9 by omega) with rfl | rfl | rfl | rfl | rfl | rfl | rfl | rfl | rfl | rfl <;> rfl) (Nat.le_of_ble_eq_true rfl) (Nat.le_of_ble_eq_true rfl) dX2_init_29 (fun H hR hz hS => ?_)
    rw [Option.some.inj hc9] at hR
    refine lv_dup hx hb dX2_init_32 rfl ?_
    obtain ⟨⟨h33, z33⟩, hc9, hrun⟩ := m_bind hrun
    refine mr_callv (mr_runI (As := []) (rest := [.ref z, .int v1, .ref x25]) hx hb hml hown hts (c_X3_init l D ids st (z + 1) hc9) yk_X3_init ys_X3_init rfl wm_0_141 ⟨(Nat.le_of_ble_eq_true rfl), (Nat.le_of_ble_eq_true rfl)⟩ (mr_recvS hR hE hz hS hA) hl.1 rfl (Nat.le_of_ble_eq_true rfl) dX2_init_33 ⟨(Nat.le_of_ble_eq_true rfl), (Nat.le_of_ble_eq_true rfl)⟩) hR hz hS hA (fun H locs hR hz hS => ?_)
    obtain ⟨h36, hc9, hrun⟩ := m_bind hrun
    refine mr_aast hx hb hR hz hS hc9 dX2_init_36 (fun H locs hR hz hS => ?_)
    refine lv_iinc (v := v1 + 1) (lv' := [(1, .int (v1 + 1)), (0, .ref v0)]) hx hb dX2_init_37 hl (k := 1) rfl rfl (by decide) rfl (fun ls hl => ?_)
    refine lv_goto (tgt := 15) hx hb dX2_init_40 (by decide) ?_
    exact k_X2_init_L15_2 hx hb hr hml hown hts hlocks hin hE hA _ _ _ _ _ _ _ hrun hR hz hS (lv_sub hl [1, 0] rfl)
set_option maxRecDepth 100000 in
set_option maxHeartbeats 4000000 in
theorem k_X2_init_L15_0 {p : Program} {l : Launch} {e : Env} {s : State} {m : MethodId} {args : Array Value} {below : List Frame} {meth : Method} {c : Code} {D : va_G} {ids : m_I3} {st : m_T} {A : Nat → Prop} {hF : mH} {zF : Nat} (hx : p.tables.exec = Jvm.exec) (hb : c.code = cX2_init) (hr : meth.sig.returnType = none) (hml : c.maxLocals = 2) (hown : s.vm.findClass RX2 = some m.cls) (hts : ∀ w ∈ (m_ws yX2_init cX2_init 2 (none)), w.before args s = true) (hlocks : meth.locks = false) (hin : meth.name = yX2_init.name) (hE : m_EV st A s s.heap) (hA : ∀ q, s.heap.size ≤ q → A q) (h : mH) (z : Nat) (v0 : Nat) (v1 : Int32) (H : Heap) (locs : List Loc) (ls : Array Slot) (hrun : s_X2_init_L15_0 st h z v0 v1 = some (hF, zF)) (hR : Rl D ids A h s H) (hz : H.size = z) (hS : va_S A s.heap H locs) (hl : lv_has ls 2 [(0, .ref v0), (1, .int v1)]) : W p l e rm_X2_init s m args below meth c H locs 1 6 (MQ below (mQv D ids A hF zF) args s 64 1343 A) (F0 m 15 ls []) := by
  unfold s_X2_init_L15_0 at hrun
  refine lv_iload_n hx hb dX2_init_15 rfl (lv_at hl 1 rfl) ?_
  refine lv_aload_n hx hb dX2_init_16 rfl (lv_at hl 0 rfl) ?_
  obtain ⟨x17, hc9, hrun⟩ := m_bind hrun
  refine mr_get (C := RX2) (T := TX2) (N := 3) (ci := 1) hx hb hts (fun w q => m_ws_in (wi_X2 w q)) hown hR rfl 0 (by decide) (hts _ (m_ws_in wm_0_142)) (fun _ h9 => h9) (m_gr_spec hc9) dX2_init_17 ?_
  obtain ⟨x20, hc9, hrun⟩ := m_bind hrun
  refine mr_alen hx hb hR hc9 dX2_init_20 ?_
  refine lv_icmp_ge (tgt := 43) hx hb dX2_init_21 (by decide) (fun hc => ?_) (fun hc => ?_)
  · have hrun := mt_t hrun hc
    refine lv_aload_n hx hb dX2_init_43 rfl (lv_at hl 0 rfl) ?_
    refine lv_iconst (v := 0) hx hb dX2_init_44 (by decide) ?_
    obtain ⟨h45, hc9, hrun⟩ := m_bind hrun
    refine mr_put (C := RX2) (T := TX2) (N := 3) (ci := 1) hx hb hts (fun w q => m_ws_in (wi_X2 w q)) tyX2 tyX2_ok nmX2 hown hR hz hS rfl 1 (by decide) (hts _ (m_ws_in wm_0_143)) (fun _ h9 => h9) rfl (tyX2_ok 1 (by decide)) rfl rfl hc9 dX2_init_45 (fun H locs hR hz hS => ?_)
    refine lv_aload_n hx hb dX2_init_48 rfl (lv_at hl 0 rfl) ?_
    refine lv_iconst (v := 0) hx hb dX2_init_49 (by decide) ?_
    obtain ⟨h50, hc9, hrun⟩ := m_bind hrun
    refine mr_put (C := RX2) (T := TX2) (N := 3) (ci := 1) hx hb hts (fun w q => m_ws_in (wi_X2 w q)) tyX2 tyX2_ok nmX2 hown hR hz hS rfl 2 (by decide) (hts _ (m_ws_in wm_0_144)) (fun _ h9 => h9) rfl (tyX2_ok 2 (by decide)) rfl rfl hc9 dX2_init_50 (fun H locs hR hz hS => ?_)
    obtain ⟨rfl, rfl⟩ := Prod.mk.inj (Option.some.inj hrun)
    refine W.widen (k := 64) (n := 1343) (Nat.le_of_ble_eq_true rfl) (Nat.le_of_ble_eq_true rfl) ?_
    exact mr_vret hx hb hr hlocks hR hz hS dX2_init_53
  · have hrun := mt_f hrun hc
    refine lv_aload_n hx hb dX2_init_24 rfl (lv_at hl 0 rfl) ?_
    obtain ⟨x25, hc9, hrun⟩ := m_bind hrun
    refine mr_get (C := RX2) (T := TX2) (N := 3) (ci := 1) hx hb hts (fun w q => m_ws_in (wi_X2 w q)) hown hR rfl 0 (by decide) (hts _ (m_ws_in wm_0_142)) (fun _ h9 => h9) (m_gr_spec hc9) dX2_init_25 ?_
    refine lv_iload_n hx hb dX2_init_28 rfl (lv_at hl 1 rfl) ?_
    obtain ⟨h29, hc9, hrun⟩ := m_bind hrun
    refine mr_new (C := RX3) (T := TX3) (N := 10) (ci := 2) (fs := [.null, .null, .null, .null, .null, .null, .null, .int 0, .int 0, .int 0]) hx hb hts (fun w q => m_ws_in (wi_X3 w q)) tyX3 tyX3_ok hown (hts _ (m_ws_in wm_0_139)) (hts _ (m_ws_in wm_0_25)) (hts _ (m_ws_in wm_0_2)) hR hz hS hA rfl (fun j hj => by rcases (show j = 0 ∨ j = 1 ∨ j = 2 ∨ j = 3 ∨ j = 4 ∨ j = 5 ∨ j = 6 ∨ j = 7 ∨ j = 8 ∨ j = 9 by omega) with rfl | rfl | rfl | rfl | rfl | rfl | rfl | rfl | rfl | rfl <;> rfl) (Nat.le_of_ble_eq_true rfl) (Nat.le_of_ble_eq_true rfl) dX2_init_29 (fun H hR hz hS => ?_)
    rw [Option.some.inj hc9] at hR
    refine lv_dup hx hb dX2_init_32 rfl ?_
    obtain ⟨⟨h33, z33⟩, hc9, hrun⟩ := m_bind hrun
    refine mr_callv (mr_runI (As := []) (rest := [.ref z, .int v1, .ref x25]) hx hb hml hown hts (c_X3_init l D ids st (z + 1) hc9) yk_X3_init ys_X3_init rfl wm_0_141 ⟨(Nat.le_of_ble_eq_true rfl), (Nat.le_of_ble_eq_true rfl)⟩ (mr_recvS hR hE hz hS hA) hl.1 rfl (Nat.le_of_ble_eq_true rfl) dX2_init_33 ⟨(Nat.le_of_ble_eq_true rfl), (Nat.le_of_ble_eq_true rfl)⟩) hR hz hS hA (fun H locs hR hz hS => ?_)
    obtain ⟨h36, hc9, hrun⟩ := m_bind hrun
    refine mr_aast hx hb hR hz hS hc9 dX2_init_36 (fun H locs hR hz hS => ?_)
    refine lv_iinc (v := v1 + 1) (lv' := [(1, .int (v1 + 1)), (0, .ref v0)]) hx hb dX2_init_37 hl (k := 1) rfl rfl (by decide) rfl (fun ls hl => ?_)
    refine lv_goto (tgt := 15) hx hb dX2_init_40 (by decide) ?_
    exact k_X2_init_L15_1 hx hb hr hml hown hts hlocks hin hE hA _ _ _ _ _ _ _ hrun hR hz hS (lv_sub hl [1, 0] rfl)
set_option maxRecDepth 100000 in
set_option maxHeartbeats 4000000 in
theorem c_X2_init (l : Launch) (D : va_G) (ids : m_I3) (st : m_T) (z : Nat) {h : mH} {v0 : Nat} {hF : mH} {zF : Nat} (hrun : s_X2_init st h z v0 = some (hF, zF)) : Met l yX2_init (m_ws yX2_init cX2_init 2 (none)) rm_X2_init (mPc D ids st [.ref v0] h z) (mQv D ids (m_A h z) hF zF) rm_X2_init.cells rm_X2_init.slots (m_A h z) := by
  refine mr_of (cc := cX2_init) (maxL := 2) (ret := none) (by decide) rfl (Nat.le_of_ble_eq_true rfl) ?_
  intro p e s m below meth c ls hx hb hr hml hown hts hlocks hin hR hE hz hl
  have hA : ∀ q, s.heap.size ≤ q → m_A h z q := fun q hq => Or.inr (by rw [← hz]; exact hq)
  have hS : va_S (m_A h z) s.heap s.heap [] := va_S.rf
  have hl : lv_has ls 2 [(0, .ref v0)] := hl
  unfold s_X2_init at hrun
  refine lv_aload_n hx hb dX2_init_0 rfl (lv_at hl 0 rfl) ?_
  refine W.objInit hx hb hown (hts _ (m_ws_in wm_0_138)) (hts _ (m_ws_in wm_0_22)) (hts _ (m_ws_in wm_0_23)) rfl (by rw [hml]; exact hl.1) rfl dX2_init_1 (Nat.le_of_ble_eq_true rfl) (Nat.le_of_ble_eq_true rfl) ?_
  refine W.eq (g2 := F0 m 4 ls []) rfl ?_
  refine lv_aload_n hx hb dX2_init_4 rfl (lv_at hl 0 rfl) ?_
  refine lv_bipush (v := 6) hx hb dX2_init_5 (by decide) ?_
  obtain ⟨h7, hc9, hrun⟩ := m_bind hrun
  refine mr_newr (N := 6) hx hb hown (hts _ (m_ws_in wm_0_139)) hE hR hz hS hA (by decide) (by decide) (Nat.le_of_ble_eq_true rfl) (Nat.le_of_ble_eq_true rfl) (Nat.le_of_ble_eq_true rfl) dX2_init_7 (fun H hR hz hS => ?_)
  rw [Option.some.inj hc9] at hR
  obtain ⟨h10, hc9, hrun⟩ := m_bind hrun
  refine mr_putF (C := RX2) (T := TX2) (N := 3) (ci := 1) hx hb hts (fun w q => m_ws_in (wi_X2 w q)) tyX2 tyX2_ok nmX2 hown hR hz hS rfl 0 (by decide) (hts _ (m_ws_in wm_0_142)) (fun _ h9 => h9) rfl hin rfl (tyX2_ok 0 (by decide)) rfl rfl hc9 dX2_init_10 (fun H locs hR hz hS => ?_)
  refine lv_iconst (v := 0) hx hb dX2_init_13 (by decide) ?_
  refine lv_istore_n (lv' := [(1, .int 0), (0, .ref v0)]) hx hb dX2_init_14 rfl hl (by decide) rfl (fun ls hl => ?_)
  exact k_X2_init_L15_0 hx hb hr hml hown hts hlocks hin hE hA _ _ _ _ _ _ _ hrun hR hz hS (lv_sub hl [1, 0] rfl)
/-! X6_init -/
abbrev rm_X6_init : Room := { frames := 1, cells := 1, slots := 10, locals := 20 }
theorem yk_X6_init : m_K yX6_init cX6_init 1 (none) 0 := ⟨wm_0_159, wm_0_7, by decide +kernel⟩
theorem ys_X6_init : Cond.instanceMethod yX6_init ∈ wT := wm_0_158
set_option maxRecDepth 100000 in
set_option maxHeartbeats 4000000 in
theorem c_X6_init (l : Launch) (D : va_G) (ids : m_I3) (st : m_T) (z : Nat) {h : mH} {v0 : Nat} {hF : mH} {zF : Nat} (hrun : s_X6_init h z v0 = some (hF, zF)) : Met l yX6_init (m_ws yX6_init cX6_init 1 (none)) rm_X6_init (mPc D ids st [.ref v0] h z) (mQv D ids (m_A h z) hF zF) rm_X6_init.cells rm_X6_init.slots (m_A h z) := by
  refine mr_of (cc := cX6_init) (maxL := 1) (ret := none) (by decide) rfl (Nat.le_of_ble_eq_true rfl) ?_
  intro p e s m below meth c ls hx hb hr hml hown hts hlocks hin hR hE hz hl
  have hA : ∀ q, s.heap.size ≤ q → m_A h z q := fun q hq => Or.inr (by rw [← hz]; exact hq)
  have hS : va_S (m_A h z) s.heap s.heap [] := va_S.rf
  have hl : lv_has ls 1 [(0, .ref v0)] := hl
  unfold s_X6_init at hrun
  refine lv_aload_n hx hb dX6_init_0 rfl (lv_at hl 0 rfl) ?_
  refine W.objInit hx hb hown (hts _ (m_ws_in wm_0_160)) (hts _ (m_ws_in wm_0_22)) (hts _ (m_ws_in wm_0_23)) rfl (by rw [hml]; exact hl.1) rfl dX6_init_1 (Nat.le_of_ble_eq_true rfl) (Nat.le_of_ble_eq_true rfl) ?_
  refine W.eq (g2 := F0 m 4 ls []) rfl ?_
  refine lv_aload_n hx hb dX6_init_4 rfl (lv_at hl 0 rfl) ?_
  refine lv_bipush (v := 10) hx hb dX6_init_5 (by decide) ?_
  obtain ⟨h7, hc9, hrun⟩ := m_bind hrun
  refine mr_newi (N := 10) hx hb (hts _ (m_ws_in wm_0_45)) hR hz hS hA (by decide) (by decide) (Nat.le_of_ble_eq_true rfl) (Nat.le_of_ble_eq_true rfl) (Nat.le_of_ble_eq_true rfl) dX6_init_7 (fun H hR hz hS => ?_)
  rw [Option.some.inj hc9] at hR
  obtain ⟨h9, hc9, hrun⟩ := m_bind hrun
  refine mr_putF (C := RX6) (T := TX6) (N := 8) (ci := 4) hx hb hts (fun w q => m_ws_in (wi_X6 w q)) tyX6 tyX6_ok nmX6 hown hR hz hS rfl 0 (by decide) (hts _ (m_ws_in wm_0_161)) (fun _ h9 => h9) rfl hin rfl (tyX6_ok 0 (by decide)) rfl rfl hc9 dX6_init_9 (fun H locs hR hz hS => ?_)
  refine lv_aload_n hx hb dX6_init_12 rfl (lv_at hl 0 rfl) ?_
  refine lv_iconst (v := 0) hx hb dX6_init_13 (by decide) ?_
  obtain ⟨h14, hc9, hrun⟩ := m_bind hrun
  refine mr_put (C := RX6) (T := TX6) (N := 8) (ci := 4) hx hb hts (fun w q => m_ws_in (wi_X6 w q)) tyX6 tyX6_ok nmX6 hown hR hz hS rfl 1 (by decide) (hts _ (m_ws_in wm_0_162)) (fun _ h9 => h9) rfl (tyX6_ok 1 (by decide)) rfl rfl hc9 dX6_init_14 (fun H locs hR hz hS => ?_)
  refine lv_aload_n hx hb dX6_init_17 rfl (lv_at hl 0 rfl) ?_
  refine lv_iconst (v := 0) hx hb dX6_init_18 (by decide) ?_
  obtain ⟨h19, hc9, hrun⟩ := m_bind hrun
  refine mr_put (C := RX6) (T := TX6) (N := 8) (ci := 4) hx hb hts (fun w q => m_ws_in (wi_X6 w q)) tyX6 tyX6_ok nmX6 hown hR hz hS rfl 2 (by decide) (hts _ (m_ws_in wm_0_163)) (fun _ h9 => h9) rfl (tyX6_ok 2 (by decide)) rfl rfl hc9 dX6_init_19 (fun H locs hR hz hS => ?_)
  refine lv_aload_n hx hb dX6_init_22 rfl (lv_at hl 0 rfl) ?_
  refine lv_iconst (v := 0) hx hb dX6_init_23 (by decide) ?_
  obtain ⟨h24, hc9, hrun⟩ := m_bind hrun
  refine mr_put (C := RX6) (T := TX6) (N := 8) (ci := 4) hx hb hts (fun w q => m_ws_in (wi_X6 w q)) tyX6 tyX6_ok nmX6 hown hR hz hS rfl 3 (by decide) (hts _ (m_ws_in wm_0_164)) (fun _ h9 => h9) rfl (tyX6_ok 3 (by decide)) rfl rfl hc9 dX6_init_24 (fun H locs hR hz hS => ?_)
  refine lv_aload_n hx hb dX6_init_27 rfl (lv_at hl 0 rfl) ?_
  refine lv_iconst (v := 0) hx hb dX6_init_28 (by decide) ?_
  obtain ⟨h29, hc9, hrun⟩ := m_bind hrun
  refine mr_put (C := RX6) (T := TX6) (N := 8) (ci := 4) hx hb hts (fun w q => m_ws_in (wi_X6 w q)) tyX6 tyX6_ok nmX6 hown hR hz hS rfl 4 (by decide) (hts _ (m_ws_in wm_0_165)) (fun _ h9 => h9) rfl (tyX6_ok 4 (by decide)) rfl rfl hc9 dX6_init_29 (fun H locs hR hz hS => ?_)
  refine lv_aload_n hx hb dX6_init_32 rfl (lv_at hl 0 rfl) ?_
  refine lv_iconst (v := 0) hx hb dX6_init_33 (by decide) ?_
  obtain ⟨h34, hc9, hrun⟩ := m_bind hrun
  refine mr_put (C := RX6) (T := TX6) (N := 8) (ci := 4) hx hb hts (fun w q => m_ws_in (wi_X6 w q)) tyX6 tyX6_ok nmX6 hown hR hz hS rfl 5 (by decide) (hts _ (m_ws_in wm_0_166)) (fun _ h9 => h9) rfl (tyX6_ok 5 (by decide)) rfl rfl hc9 dX6_init_34 (fun H locs hR hz hS => ?_)
  refine lv_aload_n hx hb dX6_init_37 rfl (lv_at hl 0 rfl) ?_
  refine lv_iconst (v := 0) hx hb dX6_init_38 (by decide) ?_
  obtain ⟨h39, hc9, hrun⟩ := m_bind hrun
  refine mr_put (C := RX6) (T := TX6) (N := 8) (ci := 4) hx hb hts (fun w q => m_ws_in (wi_X6 w q)) tyX6 tyX6_ok nmX6 hown hR hz hS rfl 6 (by decide) (hts _ (m_ws_in wm_0_167)) (fun _ h9 => h9) rfl (tyX6_ok 6 (by decide)) rfl rfl hc9 dX6_init_39 (fun H locs hR hz hS => ?_)
  refine lv_aload_n hx hb dX6_init_42 rfl (lv_at hl 0 rfl) ?_
  refine lv_iconst (v := 0) hx hb dX6_init_43 (by decide) ?_
  obtain ⟨_, hz9, hrun⟩ := m_bind hrun
  obtain ⟨h44, hc9, hrun⟩ := m_bind hrun
  refine mr_put (C := RX6) (T := TX6) (N := 8) (ci := 4) hx hb hts (fun w q => m_ws_in (wi_X6 w q)) tyX6 tyX6_ok nmX6 hown hR hz hS rfl 7 (by decide) (hts _ (m_ws_in wm_0_168)) (fun _ h9 => h9) rfl (tyX6_ok 7 (by decide)) (m_z_spec hz9).2 (m_z_fit hz9) hc9 dX6_init_44 (fun H locs hR hz hS => ?_)
  obtain ⟨rfl, rfl⟩ := Prod.mk.inj (Option.some.inj hrun)
  refine W.widen (k := 1) (n := 10) (Nat.le_of_ble_eq_true rfl) (Nat.le_of_ble_eq_true rfl) ?_
  exact mr_vret hx hb hr hlocks hR hz hS dX6_init_47
/-! X7_init -/
abbrev rm_X7_init : Room := { frames := 4, cells := 95, slots := 2640, locals := 91 }
theorem yk_X7_init : m_K yX7_init cX7_init 1 (none) 0 := ⟨wm_0_20, wm_0_1, by decide +kernel⟩
theorem ys_X7_init : Cond.instanceMethod yX7_init ∈ wT := wm_0_19
set_option maxRecDepth 100000 in
set_option maxHeartbeats 4000000 in
theorem c_X7_init (l : Launch) (D : va_G) (ids : m_I3) (st : m_T) (z : Nat) {h : mH} {v0 : Nat} {hF : mH} {zF : Nat} (hrun : s_X7_init st h z v0 = some (hF, zF)) : Met l yX7_init (m_ws yX7_init cX7_init 1 (none)) rm_X7_init (mPc D ids st [.ref v0] h z) (mQv D ids (m_A h z) hF zF) rm_X7_init.cells rm_X7_init.slots (m_A h z) := by
  refine mr_of (cc := cX7_init) (maxL := 1) (ret := none) (by decide) rfl (Nat.le_of_ble_eq_true rfl) ?_
  intro p e s m below meth c ls hx hb hr hml hown hts hlocks hin hR hE hz hl
  have hA : ∀ q, s.heap.size ≤ q → m_A h z q := fun q hq => Or.inr (by rw [← hz]; exact hq)
  have hS : va_S (m_A h z) s.heap s.heap [] := va_S.rf
  have hl : lv_has ls 1 [(0, .ref v0)] := hl
  unfold s_X7_init at hrun
  refine lv_aload_n hx hb dX7_init_0 rfl (lv_at hl 0 rfl) ?_
  refine W.objInit hx hb hown (hts _ (m_ws_in wm_0_21)) (hts _ (m_ws_in wm_0_22)) (hts _ (m_ws_in wm_0_23)) rfl (by rw [hml]; exact hl.1) rfl dX7_init_1 (Nat.le_of_ble_eq_true rfl) (Nat.le_of_ble_eq_true rfl) ?_
  refine W.eq (g2 := F0 m 4 ls []) rfl ?_
  refine lv_aload_n hx hb dX7_init_4 rfl (lv_at hl 0 rfl) ?_
  obtain ⟨h5, hc9, hrun⟩ := m_bind hrun
  refine mr_new (C := RX3) (T := TX3) (N := 10) (ci := 2) (fs := [.null, .null, .null, .null, .null, .null, .null, .int 0, .int 0, .int 0]) hx hb hts (fun w q => m_ws_in (wi_X3 w q)) tyX3 tyX3_ok hown (hts _ (m_ws_in wm_0_24)) (hts _ (m_ws_in wm_0_25)) (hts _ (m_ws_in wm_0_2)) hR hz hS hA rfl (fun j hj => by rcases (show j = 0 ∨ j = 1 ∨ j = 2 ∨ j = 3 ∨ j = 4 ∨ j = 5 ∨ j = 6 ∨ j = 7 ∨ j = 8 ∨ j = 9 by omega) with rfl | rfl | rfl | rfl | rfl | rfl | rfl | rfl | rfl | rfl <;> rfl) (Nat.le_of_ble_eq_true rfl) (Nat.le_of_ble_eq_true rfl) dX7_init_5 (fun H hR hz hS => ?_)
  rw [Option.some.inj hc9] at hR
  refine lv_dup hx hb dX7_init_8 rfl ?_
  obtain ⟨⟨h9, z9⟩, hc9, hrun⟩ := m_bind hrun
  refine mr_callv (mr_runI (As := []) (rest := [.ref z, .ref v0]) hx hb hml hown hts (c_X3_init l D ids st (z + 1) hc9) yk_X3_init ys_X3_init rfl wm_0_26 ⟨(Nat.le_of_ble_eq_true rfl), (Nat.le_of_ble_eq_true rfl)⟩ (mr_recvS hR hE hz hS hA) hl.1 rfl (Nat.le_of_ble_eq_true rfl) dX7_init_9 ⟨(Nat.le_of_ble_eq_true rfl), (Nat.le_of_ble_eq_true rfl)⟩) hR hz hS hA (fun H locs hR hz hS => ?_)
  obtain ⟨h12, hc9, hrun⟩ := m_bind hrun
  refine mr_putF (C := RX7) (T := TX7) (N := 8) (ci := 5) hx hb hts (fun w q => m_ws_in (wi_X7 w q)) tyX7 tyX7_ok nmX7 hown hR hz hS rfl 0 (by decide) (hts _ (m_ws_in wm_1_7)) (fun _ h9 => h9) rfl hin rfl (tyX7_ok 0 (by decide)) rfl rfl hc9 dX7_init_12 (fun H locs hR hz hS => ?_)
  refine lv_aload_n hx hb dX7_init_15 rfl (lv_at hl 0 rfl) ?_
  obtain ⟨h16, hc9, hrun⟩ := m_bind hrun
  refine mr_new (C := RX0) (T := TX0) (N := 9) (ci := 0) (fs := [.null, .null, .null, .null, .null, .null, .null, .int 0, .int 0]) hx hb hts (fun w q => m_ws_in (wi_X0 w q)) tyX0 tyX0_ok hown (hts _ (m_ws_in wm_0_93)) (hts _ (m_ws_in wm_0_94)) (hts _ (m_ws_in wm_0_5)) hR hz hS hA rfl (fun j hj => by rcases (show j = 0 ∨ j = 1 ∨ j = 2 ∨ j = 3 ∨ j = 4 ∨ j = 5 ∨ j = 6 ∨ j = 7 ∨ j = 8 by omega) with rfl | rfl | rfl | rfl | rfl | rfl | rfl | rfl | rfl <;> rfl) (Nat.le_of_ble_eq_true rfl) (Nat.le_of_ble_eq_true rfl) dX7_init_16 (fun H hR hz hS => ?_)
  rw [Option.some.inj hc9] at hR
  refine lv_dup hx hb dX7_init_19 rfl ?_
  obtain ⟨⟨h20, z20⟩, hc9, hrun⟩ := m_bind hrun
  refine mr_callv (mr_runI (As := []) (rest := [.ref z9, .ref v0]) hx hb hml hown hts (c_X0_init l D ids st (z9 + 1) hc9) yk_X0_init ys_X0_init rfl wm_0_95 ⟨(Nat.le_of_ble_eq_true rfl), (Nat.le_of_ble_eq_true rfl)⟩ (mr_recvS hR hE hz hS hA) hl.1 rfl (Nat.le_of_ble_eq_true rfl) dX7_init_20 ⟨(Nat.le_of_ble_eq_true rfl), (Nat.le_of_ble_eq_true rfl)⟩) hR hz hS hA (fun H locs hR hz hS => ?_)
  obtain ⟨h23, hc9, hrun⟩ := m_bind hrun
  refine mr_putF (C := RX7) (T := TX7) (N := 8) (ci := 5) hx hb hts (fun w q => m_ws_in (wi_X7 w q)) tyX7 tyX7_ok nmX7 hown hR hz hS rfl 1 (by decide) (hts _ (m_ws_in wm_1_8)) (fun _ h9 => h9) rfl hin rfl (tyX7_ok 1 (by decide)) rfl rfl hc9 dX7_init_23 (fun H locs hR hz hS => ?_)
  refine lv_aload_n hx hb dX7_init_26 rfl (lv_at hl 0 rfl) ?_
  obtain ⟨h27, hc9, hrun⟩ := m_bind hrun
  refine mr_new (C := RX2) (T := TX2) (N := 3) (ci := 1) (fs := [.null, .int 0, .int 0]) hx hb hts (fun w q => m_ws_in (wi_X2 w q)) tyX2 tyX2_ok hown (hts _ (m_ws_in wm_0_133)) (hts _ (m_ws_in wm_0_134)) (hts _ (m_ws_in wm_0_6)) hR hz hS hA rfl (fun j hj => by rcases (show j = 0 ∨ j = 1 ∨ j = 2 by omega) with rfl | rfl | rfl <;> rfl) (Nat.le_of_ble_eq_true rfl) (Nat.le_of_ble_eq_true rfl) dX7_init_27 (fun H hR hz hS => ?_)
  rw [Option.some.inj hc9] at hR
  refine lv_dup hx hb dX7_init_30 rfl ?_
  obtain ⟨⟨h31, z31⟩, hc9, hrun⟩ := m_bind hrun
  refine mr_callv (mr_runI (As := []) (rest := [.ref z20, .ref v0]) hx hb hml hown hts (c_X2_init l D ids st (z20 + 1) hc9) yk_X2_init ys_X2_init rfl wm_0_135 ⟨(Nat.le_of_ble_eq_true rfl), (Nat.le_of_ble_eq_true rfl)⟩ (mr_recvS hR hE hz hS hA) hl.1 rfl (Nat.le_of_ble_eq_true rfl) dX7_init_31 ⟨(Nat.le_of_ble_eq_true rfl), (Nat.le_of_ble_eq_true rfl)⟩) hR hz hS hA (fun H locs hR hz hS => ?_)
  obtain ⟨h34, hc9, hrun⟩ := m_bind hrun
  refine mr_putF (C := RX7) (T := TX7) (N := 8) (ci := 5) hx hb hts (fun w q => m_ws_in (wi_X7 w q)) tyX7 tyX7_ok nmX7 hown hR hz hS rfl 2 (by decide) (hts _ (m_ws_in wm_1_9)) (fun _ h9 => h9) rfl hin rfl (tyX7_ok 2 (by decide)) rfl rfl hc9 dX7_init_34 (fun H locs hR hz hS => ?_)
  refine lv_aload_n hx hb dX7_init_37 rfl (lv_at hl 0 rfl) ?_
  obtain ⟨h38, hc9, hrun⟩ := m_bind hrun
  refine mr_new (C := RX5) (T := TX5) (N := 2) (ci := 3) (fs := [.null, .int 0]) hx hb hts (fun w q => m_ws_in (wi_X5 w q)) tyX5 tyX5_ok hown (hts _ (m_ws_in wm_0_153)) (hts _ (m_ws_in wm_0_31)) (hts _ (m_ws_in wm_0_3)) hR hz hS hA rfl (fun j hj => by rcases (show j = 0 ∨ j = 1 by omega) with rfl | rfl <;> rfl) (Nat.le_of_ble_eq_true rfl) (Nat.le_of_ble_eq_true rfl) dX7_init_38 (fun H hR hz hS => ?_)
  rw [Option.some.inj hc9] at hR
  refine lv_dup hx hb dX7_init_41 rfl ?_
  obtain ⟨⟨h42, z42⟩, hc9, hrun⟩ := m_bind hrun
  refine mr_callv (mr_runI (As := []) (rest := [.ref z31, .ref v0]) hx hb hml hown hts (c_X5_init l D ids st (z31 + 1) hc9) yk_X5_init ys_X5_init rfl wm_0_154 ⟨(Nat.le_of_ble_eq_true rfl), (Nat.le_of_ble_eq_true rfl)⟩ (mr_recvS hR hE hz hS hA) hl.1 rfl (Nat.le_of_ble_eq_true rfl) dX7_init_42 ⟨(Nat.le_of_ble_eq_true rfl), (Nat.le_of_ble_eq_true rfl)⟩) hR hz hS hA (fun H locs hR hz hS => ?_)
  obtain ⟨h45, hc9, hrun⟩ := m_bind hrun
  refine mr_putF (C := RX7) (T := TX7) (N := 8) (ci := 5) hx hb hts (fun w q => m_ws_in (wi_X7 w q)) tyX7 tyX7_ok nmX7 hown hR hz hS rfl 3 (by decide) (hts _ (m_ws_in wm_1_10)) (fun _ h9 => h9) rfl hin rfl (tyX7_ok 3 (by decide)) rfl rfl hc9 dX7_init_45 (fun H locs hR hz hS => ?_)
  refine lv_aload_n hx hb dX7_init_48 rfl (lv_at hl 0 rfl) ?_
  obtain ⟨h49, hc9, hrun⟩ := m_bind hrun
  refine mr_new (C := RX0) (T := TX0) (N := 9) (ci := 0) (fs := [.null, .null, .null, .null, .null, .null, .null, .int 0, .int 0]) hx hb hts (fun w q => m_ws_in (wi_X0 w q)) tyX0 tyX0_ok hown (hts _ (m_ws_in wm_0_93)) (hts _ (m_ws_in wm_0_94)) (hts _ (m_ws_in wm_0_5)) hR hz hS hA rfl (fun j hj => by rcases (show j = 0 ∨ j = 1 ∨ j = 2 ∨ j = 3 ∨ j = 4 ∨ j = 5 ∨ j = 6 ∨ j = 7 ∨ j = 8 by omega) with rfl | rfl | rfl | rfl | rfl | rfl | rfl | rfl | rfl <;> rfl) (Nat.le_of_ble_eq_true rfl) (Nat.le_of_ble_eq_true rfl) dX7_init_49 (fun H hR hz hS => ?_)
  rw [Option.some.inj hc9] at hR
  refine lv_dup hx hb dX7_init_52 rfl ?_
  obtain ⟨⟨h53, z53⟩, hc9, hrun⟩ := m_bind hrun
  refine mr_callv (mr_runI (As := []) (rest := [.ref z42, .ref v0]) hx hb hml hown hts (c_X0_init l D ids st (z42 + 1) hc9) yk_X0_init ys_X0_init rfl wm_0_95 ⟨(Nat.le_of_ble_eq_true rfl), (Nat.le_of_ble_eq_true rfl)⟩ (mr_recvS hR hE hz hS hA) hl.1 rfl (Nat.le_of_ble_eq_true rfl) dX7_init_53 ⟨(Nat.le_of_ble_eq_true rfl), (Nat.le_of_ble_eq_true rfl)⟩) hR hz hS hA (fun H locs hR hz hS => ?_)
  obtain ⟨h56, hc9, hrun⟩ := m_bind hrun
  refine mr_putF (C := RX7) (T := TX7) (N := 8) (ci := 5) hx hb hts (fun w q => m_ws_in (wi_X7 w q)) tyX7 tyX7_ok nmX7 hown hR hz hS rfl 4 (by decide) (hts _ (m_ws_in wm_1_11)) (fun _ h9 => h9) rfl hin rfl (tyX7_ok 4 (by decide)) rfl rfl hc9 dX7_init_56 (fun H locs hR hz hS => ?_)
  refine lv_aload_n hx hb dX7_init_59 rfl (lv_at hl 0 rfl) ?_
  refine lv_bipush (v := 60) hx hb dX7_init_60 (by decide) ?_
  obtain ⟨h62, hc9, hrun⟩ := m_bind hrun
  refine mr_newi (N := 60) hx hb (hts _ (m_ws_in wm_0_45)) hR hz hS hA (by decide) (by decide) (Nat.le_of_ble_eq_true rfl) (Nat.le_of_ble_eq_true rfl) (Nat.le_of_ble_eq_true rfl) dX7_init_62 (fun H hR hz hS => ?_)
  rw [Option.some.inj hc9] at hR
  obtain ⟨h64, hc9, hrun⟩ := m_bind hrun
  refine mr_putF (C := RX7) (T := TX7) (N := 8) (ci := 5) hx hb hts (fun w q => m_ws_in (wi_X7 w q)) tyX7 tyX7_ok nmX7 hown hR hz hS rfl 5 (by decide) (hts _ (m_ws_in wm_1_12)) (fun _ h9 => h9) rfl hin rfl (tyX7_ok 5 (by decide)) rfl rfl hc9 dX7_init_64 (fun H locs hR hz hS => ?_)
  refine lv_aload_n hx hb dX7_init_67 rfl (lv_at hl 0 rfl) ?_
  refine lv_iconst (v := 0) hx hb dX7_init_68 (by decide) ?_
  obtain ⟨h69, hc9, hrun⟩ := m_bind hrun
  refine mr_put (C := RX7) (T := TX7) (N := 8) (ci := 5) hx hb hts (fun w q => m_ws_in (wi_X7 w q)) tyX7 tyX7_ok nmX7 hown hR hz hS rfl 6 (by decide) (hts _ (m_ws_in wm_1_13)) (fun _ h9 => h9) rfl (tyX7_ok 6 (by decide)) rfl rfl hc9 dX7_init_69 (fun H locs hR hz hS => ?_)
  refine lv_aload_n hx hb dX7_init_72 rfl (lv_at hl 0 rfl) ?_
  obtain ⟨h73, hc9, hrun⟩ := m_bind hrun
  refine mr_new (C := RX6) (T := TX6) (N := 8) (ci := 4) (fs := [.null, .int 0, .int 0, .int 0, .int 0, .int 0, .int 0, .int 0]) hx hb hts (fun w q => m_ws_in (wi_X6 w q)) tyX6 tyX6_ok hown (hts _ (m_ws_in wm_0_155)) (hts _ (m_ws_in wm_0_156)) (hts _ (m_ws_in wm_0_7)) hR hz hS hA rfl (fun j hj => by rcases (show j = 0 ∨ j = 1 ∨ j = 2 ∨ j = 3 ∨ j = 4 ∨ j = 5 ∨ j = 6 ∨ j = 7 by omega) with rfl | rfl | rfl | rfl | rfl | rfl | rfl | rfl <;> rfl) (Nat.le_of_ble_eq_true rfl) (Nat.le_of_ble_eq_true rfl) dX7_init_73 (fun H hR hz hS => ?_)
  rw [Option.some.inj hc9] at hR
  refine lv_dup hx hb dX7_init_76 rfl ?_
  obtain ⟨⟨h77, z77⟩, hc9, hrun⟩ := m_bind hrun
  refine mr_callv (mr_runI (As := []) (rest := [.ref (z53 + 1), .ref v0]) hx hb hml hown hts (c_X6_init l D ids st (z53 + 1 + 1) hc9) yk_X6_init ys_X6_init rfl wm_0_157 ⟨(Nat.le_of_ble_eq_true rfl), (Nat.le_of_ble_eq_true rfl)⟩ (mr_recvS hR hE hz hS hA) hl.1 rfl (Nat.le_of_ble_eq_true rfl) dX7_init_77 ⟨(Nat.le_of_ble_eq_true rfl), (Nat.le_of_ble_eq_true rfl)⟩) hR hz hS hA (fun H locs hR hz hS => ?_)
  obtain ⟨h80, hc9, hrun⟩ := m_bind hrun
  refine mr_putF (C := RX7) (T := TX7) (N := 8) (ci := 5) hx hb hts (fun w q => m_ws_in (wi_X7 w q)) tyX7 tyX7_ok nmX7 hown hR hz hS rfl 7 (by decide) (hts _ (m_ws_in wm_1_14)) (fun _ h9 => h9) rfl hin rfl (tyX7_ok 7 (by decide)) rfl rfl hc9 dX7_init_80 (fun H locs hR hz hS => ?_)
  refine lv_aload_n hx hb dX7_init_83 rfl (lv_at hl 0 rfl) ?_
  obtain ⟨x84, hc9, hrun⟩ := m_bind hrun
  refine mr_get (C := RX7) (T := TX7) (N := 8) (ci := 5) hx hb hts (fun w q => m_ws_in (wi_X7 w q)) hown hR rfl 1 (by decide) (hts _ (m_ws_in wm_1_8)) (fun _ h9 => h9) (m_gr_spec hc9) dX7_init_84 ?_
  refine lv_aload_n hx hb dX7_init_87 rfl (lv_at hl 0 rfl) ?_
  obtain ⟨x88, hc9, hrun⟩ := m_bind hrun
  refine mr_get (C := RX7) (T := TX7) (N := 8) (ci := 5) hx hb hts (fun w q => m_ws_in (wi_X7 w q)) hown hR rfl 0 (by decide) (hts _ (m_ws_in wm_1_7)) (fun _ h9 => h9) (m_gr_spec hc9) dX7_init_88 ?_
  obtain ⟨x91, hc9, hrun⟩ := m_bind hrun
  refine mr_getN (C := RX3) (T := TX3) (N := 10) (ci := 2) hx hb hts (fun w q => m_ws_in (wi_X3 w q)) hown hR rfl 0 (by decide) (hE.nf (i := 3) rfl) (fun _ h9 => h9) (m_gr_spec hc9) dX7_init_91 ?_
  refine lv_aload_n hx hb dX7_init_94 rfl (lv_at hl 0 rfl) ?_
  obtain ⟨x95, hc9, hrun⟩ := m_bind hrun
  refine mr_get (C := RX7) (T := TX7) (N := 8) (ci := 5) hx hb hts (fun w q => m_ws_in (wi_X7 w q)) hown hR rfl 0 (by decide) (hts _ (m_ws_in wm_1_7)) (fun _ h9 => h9) (m_gr_spec hc9) dX7_init_95 ?_
  obtain ⟨x98, hc9, hrun⟩ := m_bind hrun
  refine mr_getN (C := RX3) (T := TX3) (N := 10) (ci := 2) hx hb hts (fun w q => m_ws_in (wi_X3 w q)) hown hR rfl 1 (by decide) (hE.nf (i := 4) rfl) (fun _ h9 => h9) (m_gr_spec hc9) dX7_init_98 ?_
  obtain ⟨_, ho9, hrun⟩ := m_bind hrun
  obtain ⟨fs9, ho9⟩ := m_is_spec ho9
  obtain ⟨h101, hc9, hrun⟩ := m_bind hrun
  refine mr_callv (mr_runV (As := [.ref x91, .ref x98]) (rest := []) hx hb hml hown hts (c_X0_readFrom l D ids st z77 hc9) yk_X0_readFrom ys_X0_readFrom wm_0_186 ⟨(Nat.le_of_ble_eq_true rfl), (Nat.le_of_ble_eq_true rfl)⟩ (mr_recv (ci := 0) hR hE hz hS hA rfl ho9) hl.1 rfl (Nat.le_of_ble_eq_true rfl) dX7_init_101 ⟨(Nat.le_of_ble_eq_true rfl), (Nat.le_of_ble_eq_true rfl)⟩) hR hz hS hA (fun H locs hR hz hS => ?_)
  obtain ⟨rfl, rfl⟩ := Prod.mk.inj (Option.some.inj hrun)
  refine W.widen (k := 95) (n := 2640) (Nat.le_of_ble_eq_true rfl) (Nat.le_of_ble_eq_true rfl) ?_
  exact mr_vret hx hb hr hlocks hR hz hS dX7_init_104
/-! L_law -/
set_option maxRecDepth 100000 in
set_option maxHeartbeats 4000000 in
theorem k_L_law_b134 {p : Program} {l : Launch} {e : Env} {s : State} {m : MethodId} {args : Array Value} {below : List Frame} {meth : Method} {c : Code} {D : va_G} {ids : m_I3} {st : m_T} {Q : State → Prop} {z : Nat} (hx : p.tables.exec = Jvm.exec) (hb : c.code = cL_law) (hml : c.maxLocals = 12) (hown : s.vm.findClass RL = some m.cls) (hts : ∀ w ∈ (m_ws yX1_at cX1_at 2 (some .int)), w.before args s = true) (hE : m_EV st (fun q : Nat => s.heap.size ≤ q) s s.heap) (hA : ∀ q, s.heap.size ≤ q → (fun q : Nat => s.heap.size ≤ q) q) (hend : ∀ (H : Heap) (ls : Array Slot), W p l e room_1 s m args below meth c H [] 600086 7301442 Q (F0 m 263 ls [.int 1])) (h : mH) (H : Heap) (locs : List Loc) (ls : Array Slot) (hrun : s_L_law_b134 st h = some 1) (hR : Rl D ids (fun q : Nat => s.heap.size ≤ q) h s H) (hz : H.size = z) (hS : va_S (fun q : Nat => s.heap.size ≤ q) s.heap H locs) (hl : lv_has ls 12 []) : W p l e room_1 s m args below meth c H locs 96 2648 Q (F0 m 134 ls []) := by
  unfold s_L_law_b134 at hrun
  refine lv_iconst (v := 0) hx hb dL_law_134 (by decide) ?_
  exact absurd (Option.some.inj hrun) (by decide)
set_option maxRecDepth 100000 in
set_option maxHeartbeats 4000000 in
theorem k_L_law_b256 {p : Program} {l : Launch} {e : Env} {s : State} {m : MethodId} {args : Array Value} {below : List Frame} {meth : Method} {c : Code} {D : va_G} {ids : m_I3} {st : m_T} {Q : State → Prop} {z : Nat} (hx : p.tables.exec = Jvm.exec) (hb : c.code = cL_law) (hml : c.maxLocals = 12) (hown : s.vm.findClass RL = some m.cls) (hts : ∀ w ∈ (m_ws yX1_at cX1_at 2 (some .int)), w.before args s = true) (hE : m_EV st (fun q : Nat => s.heap.size ≤ q) s s.heap) (hA : ∀ q, s.heap.size ≤ q → (fun q : Nat => s.heap.size ≤ q) q) (hend : ∀ (H : Heap) (ls : Array Slot), W p l e room_1 s m args below meth c H [] 600086 7301442 Q (F0 m 263 ls [.int 1])) {k10 : mH → Nat → Nat → Int32 → Option (Int32)} (hk10 : ∀ (h : mH) (v0 : Nat) (v1 : Nat) (v2 : Int32) (H : Heap) (locs : List Loc) (ls : Array Slot), k10 h v0 v1 v2 = some 1 → Rl D ids (fun q : Nat => s.heap.size ≤ q) h s H → H.size = z → va_S (fun q : Nat => s.heap.size ≤ q) s.heap H locs → lv_has ls 12 [(0, .ref v0), (1, .ref v1), (2, .int v2)] → W p l e room_1 s m args below meth c H locs 96 2648 Q (F0 m 10 ls [])) (h : mH) (v0 : Nat) (v1 : Nat) (v2 : Int32) (H : Heap) (locs : List Loc) (ls : Array Slot) (hrun : s_L_law_b256 st k10 h v0 v1 v2 = some 1) (hR : Rl D ids (fun q : Nat => s.heap.size ≤ q) h s H) (hz : H.size = z) (hS : va_S (fun q : Nat => s.heap.size ≤ q) s.heap H locs) (hl : lv_has ls 12 [(0, .ref v0), (1, .ref v1), (2, .int v2)]) : W p l e room_1 s m args below meth c H locs 96 2648 Q (F0 m 256 ls []) := by
  unfold s_L_law_b256 at hrun
  refine lv_iinc (v := v2 + 1) (lv' := [(2, .int (v2 + 1)), (0, .ref v0), (1, .ref v1)]) hx hb dL_law_256 hl (k := 2) rfl rfl (by decide) rfl (fun ls hl => ?_)
  refine lv_goto (tgt := 10) hx hb dL_law_259 (by decide) ?_
  exact hk10 _ _ _ _ _ _ _ hrun hR hz hS (lv_sub hl [1, 2, 0] rfl)
set_option maxRecDepth 100000 in
set_option maxHeartbeats 4000000 in
theorem k_L_law_b254 {p : Program} {l : Launch} {e : Env} {s : State} {m : MethodId} {args : Array Value} {below : List Frame} {meth : Method} {c : Code} {D : va_G} {ids : m_I3} {st : m_T} {Q : State → Prop} {z : Nat} (hx : p.tables.exec = Jvm.exec) (hb : c.code = cL_law) (hml : c.maxLocals = 12) (hown : s.vm.findClass RL = some m.cls) (hts : ∀ w ∈ (m_ws yX1_at cX1_at 2 (some .int)), w.before args s = true) (hE : m_EV st (fun q : Nat => s.heap.size ≤ q) s s.heap) (hA : ∀ q, s.heap.size ≤ q → (fun q : Nat => s.heap.size ≤ q) q) (hend : ∀ (H : Heap) (ls : Array Slot), W p l e room_1 s m args below meth c H [] 600086 7301442 Q (F0 m 263 ls [.int 1])) (h : mH) (H : Heap) (locs : List Loc) (ls : Array Slot) (hrun : s_L_law_b254 st h = some 1) (hR : Rl D ids (fun q : Nat => s.heap.size ≤ q) h s H) (hz : H.size = z) (hS : va_S (fun q : Nat => s.heap.size ≤ q) s.heap H locs) (hl : lv_has ls 12 []) : W p l e room_1 s m args below meth c H locs 96 2648 Q (F0 m 254 ls []) := by
  unfold s_L_law_b254 at hrun
  refine lv_iconst (v := 0) hx hb dL_law_254 (by decide) ?_
  exact absurd (Option.some.inj hrun) (by decide)
set_option maxRecDepth 100000 in
set_option maxHeartbeats 4000000 in
theorem k_L_law_b230 {p : Program} {l : Launch} {e : Env} {s : State} {m : MethodId} {args : Array Value} {below : List Frame} {meth : Method} {c : Code} {D : va_G} {ids : m_I3} {st : m_T} {Q : State → Prop} {z : Nat} (hx : p.tables.exec = Jvm.exec) (hb : c.code = cL_law) (hml : c.maxLocals = 12) (hown : s.vm.findClass RL = some m.cls) (hts : ∀ w ∈ (m_ws yX1_at cX1_at 2 (some .int)), w.before args s = true) (hE : m_EV st (fun q : Nat => s.heap.size ≤ q) s s.heap) (hA : ∀ q, s.heap.size ≤ q → (fun q : Nat => s.heap.size ≤ q) q) (hend : ∀ (H : Heap) (ls : Array Slot), W p l e room_1 s m args below meth c H [] 600086 7301442 Q (F0 m 263 ls [.int 1])) {k10 : mH → Nat → Nat → Int32 → Option (Int32)} (hk10 : ∀ (h : mH) (v0 : Nat) (v1 : Nat) (v2 : Int32) (H : Heap) (locs : List Loc) (ls : Array Slot), k10 h v0 v1 v2 = some 1 → Rl D ids (fun q : Nat => s.heap.size ≤ q) h s H → H.size = z → va_S (fun q : Nat => s.heap.size ≤ q) s.heap H locs → lv_has ls 12 [(0, .ref v0), (1, .ref v1), (2, .int v2)] → W p l e room_1 s m args below meth c H locs 96 2648 Q (F0 m 10 ls [])) (h : mH) (v0 : Nat) (v1 : Nat) (v2 : Int32) (v10 : Int64) (H : Heap) (locs : List Loc) (ls : Array Slot) (hrun : s_L_law_b230 st k10 h v0 v1 v2 v10 = some 1) (hR : Rl D ids (fun q : Nat => s.heap.size ≤ q) h s H) (hz : H.size = z) (hS : va_S (fun q : Nat => s.heap.size ≤ q) s.heap H locs) (hl : lv_has ls 12 [(0, .ref v0), (1, .ref v1), (2, .int v2), (10, .long v10)]) : W p l e room_1 s m args below meth c H locs 96 2648 Q (F0 m 230 ls []) := by
  unfold s_L_law_b230 at hrun
  refine lv_iload_n hx hb dL_law_230 rfl (lv_at hl 2 rfl) ?_
  refine lv_iconst (v := 2) hx hb dL_law_231 (by decide) ?_
  obtain ⟨x232, hc9, hrun⟩ := m_bind hrun
  obtain ⟨hn9, rfl⟩ := m_rem_spec hc9
  refine lv_irem hx hb dL_law_232 hn9 ?_
  refine lv_topi (fun x232 ex232 => ?_)
  try rw [← ex232] at hrun
  refine lv_iconst (v := 1) hx hb dL_law_233 (by decide) ?_
  refine lv_icmp_ne (tgt := 256) hx hb dL_law_234 (by decide) (fun hc => ?_) (fun hc => ?_)
  · have hrun := mt_f hrun hc
    exact k_L_law_b256 hx hb hml hown hts hE hA hend hk10 _ _ _ _ _ _ _ hrun hR hz hS (lv_sub hl [0, 1, 2] rfl)
  · have hrun := mt_t hrun hc
    refine lv_aload_n hx hb dL_law_237 rfl (lv_at hl 1 rfl) ?_
    obtain ⟨⟨x238, h238⟩, hc9, hrun⟩ := m_bind hrun
    refine mr_calli (mr_runS (As := [.ref v1]) (rest := []) hx hb hml hown hts (c_L_holds l D ids st z hc9) yk_L_holds ys_L_holds wm_2_114 ⟨(Nat.le_of_ble_eq_true rfl), (Nat.le_of_ble_eq_true rfl)⟩ (mr_recvS hR hE hz hS hA) hl.1 rfl (Nat.le_of_ble_eq_true rfl) dL_law_238 ⟨(Nat.le_of_ble_eq_true rfl), (Nat.le_of_ble_eq_true rfl)⟩) hR hz hS hA (fun H locs hR hz hS => ?_)
    refine lv_if_eq (tgt := 254) hx hb dL_law_241 (by decide) (fun hc => ?_) (fun hc => ?_)
    · have hrun := mt_t hrun hc
      exact k_L_law_b254 hx hb hml hown hts hE hA hend _ _ _ _ hrun hR hz hS (lv_sub hl [] rfl)
    · have hrun := mt_f hrun hc
      refine lv_aload_n hx hb dL_law_244 rfl (lv_at hl 1 rfl) ?_
      obtain ⟨⟨x245, h245⟩, hc9, hrun⟩ := m_bind hrun
      refine mr_calll (mr_runS (As := [.ref v1]) (rest := []) hx hb hml hown hts (c_L_told l D ids st z hc9) yk_L_told ys_L_told wm_1_185 ⟨(Nat.le_of_ble_eq_true rfl), (Nat.le_of_ble_eq_true rfl)⟩ (mr_recvS hR hE hz hS hA) hl.1 rfl (Nat.le_of_ble_eq_true rfl) dL_law_245 ⟨(Nat.le_of_ble_eq_true rfl), (Nat.le_of_ble_eq_true rfl)⟩) hR hz hS hA (fun H locs hR hz hS => ?_)
      refine lv_lload hx hb dL_law_248 (lv_at hl 3 rfl) ?_
      refine W.lcmp hx hb dL_law_250 ?_
      refine lv_if_eq (tgt := 256) hx hb dL_law_251 (by decide) (fun hc => ?_) (fun hc => ?_)
      · have hrun := mt_t hrun hc
        exact k_L_law_b256 hx hb hml hown hts hE hA hend hk10 _ _ _ _ _ _ _ hrun hR hz hS (lv_sub hl [0, 1, 2] rfl)
      · have hrun := mt_f hrun hc
        exact k_L_law_b254 hx hb hml hown hts hE hA hend _ _ _ _ hrun hR hz hS (lv_sub hl [] rfl)
set_option maxRecDepth 100000 in
set_option maxHeartbeats 4000000 in
theorem k_L_law_b228 {p : Program} {l : Launch} {e : Env} {s : State} {m : MethodId} {args : Array Value} {below : List Frame} {meth : Method} {c : Code} {D : va_G} {ids : m_I3} {st : m_T} {Q : State → Prop} {z : Nat} (hx : p.tables.exec = Jvm.exec) (hb : c.code = cL_law) (hml : c.maxLocals = 12) (hown : s.vm.findClass RL = some m.cls) (hts : ∀ w ∈ (m_ws yX1_at cX1_at 2 (some .int)), w.before args s = true) (hE : m_EV st (fun q : Nat => s.heap.size ≤ q) s s.heap) (hA : ∀ q, s.heap.size ≤ q → (fun q : Nat => s.heap.size ≤ q) q) (hend : ∀ (H : Heap) (ls : Array Slot), W p l e room_1 s m args below meth c H [] 600086 7301442 Q (F0 m 263 ls [.int 1])) (h : mH) (H : Heap) (locs : List Loc) (ls : Array Slot) (hrun : s_L_law_b228 st h = some 1) (hR : Rl D ids (fun q : Nat => s.heap.size ≤ q) h s H) (hz : H.size = z) (hS : va_S (fun q : Nat => s.heap.size ≤ q) s.heap H locs) (hl : lv_has ls 12 []) : W p l e room_1 s m args below meth c H locs 96 2648 Q (F0 m 228 ls []) := by
  unfold s_L_law_b228 at hrun
  refine lv_iconst (v := 0) hx hb dL_law_228 (by decide) ?_
  exact absurd (Option.some.inj hrun) (by decide)
set_option maxRecDepth 100000 in
set_option maxHeartbeats 4000000 in
theorem k_L_law_b171 {p : Program} {l : Launch} {e : Env} {s : State} {m : MethodId} {args : Array Value} {below : List Frame} {meth : Method} {c : Code} {D : va_G} {ids : m_I3} {st : m_T} {Q : State → Prop} {z : Nat} (hx : p.tables.exec = Jvm.exec) (hb : c.code = cL_law) (hml : c.maxLocals = 12) (hown : s.vm.findClass RL = some m.cls) (hts : ∀ w ∈ (m_ws yX1_at cX1_at 2 (some .int)), w.before args s = true) (hE : m_EV st (fun q : Nat => s.heap.size ≤ q) s s.heap) (hA : ∀ q, s.heap.size ≤ q → (fun q : Nat => s.heap.size ≤ q) q) (hend : ∀ (H : Heap) (ls : Array Slot), W p l e room_1 s m args below meth c H [] 600086 7301442 Q (F0 m 263 ls [.int 1])) {k10 : mH → Nat → Nat → Int32 → Option (Int32)} (hk10 : ∀ (h : mH) (v0 : Nat) (v1 : Nat) (v2 : Int32) (H : Heap) (locs : List Loc) (ls : Array Slot), k10 h v0 v1 v2 = some 1 → Rl D ids (fun q : Nat => s.heap.size ≤ q) h s H → H.size = z → va_S (fun q : Nat => s.heap.size ≤ q) s.heap H locs → lv_has ls 12 [(0, .ref v0), (1, .ref v1), (2, .int v2)] → W p l e room_1 s m args below meth c H locs 96 2648 Q (F0 m 10 ls [])) (h : mH) (v0 : Nat) (v1 : Nat) (v2 : Int32) (v3 : Int32) (v4 : Int32) (v5 : Int32) (v6 : Int64) (v9 : Int32) (v10 : Int64) (H : Heap) (locs : List Loc) (ls : Array Slot) (hrun : s_L_law_b171 st k10 h v0 v1 v2 v3 v4 v5 v6 v9 v10 = some 1) (hR : Rl D ids (fun q : Nat => s.heap.size ≤ q) h s H) (hz : H.size = z) (hS : va_S (fun q : Nat => s.heap.size ≤ q) s.heap H locs) (hl : lv_has ls 12 [(0, .ref v0), (1, .ref v1), (2, .int v2), (3, .int v3), (4, .int v4), (5, .int v5), (6, .long v6), (9, .int v9), (10, .long v10)]) : W p l e room_1 s m args below meth c H locs 96 2648 Q (F0 m 171 ls []) := by
  unfold s_L_law_b171 at hrun
  refine lv_iload hx hb dL_law_171 (lv_at hl 7 rfl) ?_
  refine lv_bipush (v := (-9)) hx hb dL_law_173 (by decide) ?_
  refine lv_icmp_le (tgt := 230) hx hb dL_law_175 (by decide) (fun hc => ?_) (fun hc => ?_)
  · have hrun := mt_t hrun hc
    exact k_L_law_b230 hx hb hml hown hts hE hA hend hk10 _ _ _ _ _ _ _ _ hrun hR hz hS (lv_sub hl [0, 1, 2, 8] rfl)
  · have hrun := mt_f hrun hc
    refine lv_iload_n hx hb dL_law_178 rfl (lv_at hl 3 rfl) ?_
    refine lv_bipush (v := 10) hx hb dL_law_179 (by decide) ?_
    refine lv_ishr hx hb dL_law_181 ?_
    refine lv_iconst (v := 1) hx hb dL_law_182 (by decide) ?_
    refine lv_iand hx hb dL_law_183 ?_
    refine lv_if_ne (tgt := 230) hx hb dL_law_184 (by decide) (fun hc => ?_) (fun hc => ?_)
    · have hrun := mt_f hrun hc
      exact k_L_law_b230 hx hb hml hown hts hE hA hend hk10 _ _ _ _ _ _ _ _ hrun hR hz hS (lv_sub hl [0, 1, 2, 8] rfl)
    · have hrun := mt_t hrun hc
      refine lv_aload_n hx hb dL_law_187 rfl (lv_at hl 1 rfl) ?_
      obtain ⟨_, ho9, hrun⟩ := m_bind hrun
      obtain ⟨fs9, ho9⟩ := m_is_spec ho9
      obtain ⟨⟨x188, h188⟩, hc9, hrun⟩ := m_bind hrun
      refine mr_calli (mr_runV (As := []) (rest := []) hx hb hml hown hts (c_X7_undo l D ids st z (m_ok_spec hc9)) yk_X7_undo ys_X7_undo wm_1_32 ⟨(Nat.le_of_ble_eq_true rfl), (Nat.le_of_ble_eq_true rfl)⟩ (mr_recv (ci := 5) hR hE hz hS hA rfl ho9) hl.1 rfl (Nat.le_of_ble_eq_true rfl) dL_law_188 ⟨(Nat.le_of_ble_eq_true rfl), (Nat.le_of_ble_eq_true rfl)⟩) hR hz hS hA (fun H locs hR hz hS => ?_)
      refine lv_iload hx hb dL_law_191 (lv_at hl 5 rfl) ?_
      refine lv_icmp_ne (tgt := 228) hx hb dL_law_193 (by decide) (fun hc => ?_) (fun hc => ?_)
      · have hrun := mt_f hrun hc
        exact k_L_law_b228 hx hb hml hown hts hE hA hend _ _ _ _ hrun hR hz hS (lv_sub hl [] rfl)
      · have hrun := mt_t hrun hc
        refine lv_aload_n hx hb dL_law_196 rfl (lv_at hl 1 rfl) ?_
        obtain ⟨⟨x197, h197⟩, hc9, hrun⟩ := m_bind hrun
        refine mr_calll (mr_runS (As := [.ref v1]) (rest := []) hx hb hml hown hts (c_L_told l D ids st z hc9) yk_L_told ys_L_told wm_1_185 ⟨(Nat.le_of_ble_eq_true rfl), (Nat.le_of_ble_eq_true rfl)⟩ (mr_recvS hR hE hz hS hA) hl.1 rfl (Nat.le_of_ble_eq_true rfl) dL_law_197 ⟨(Nat.le_of_ble_eq_true rfl), (Nat.le_of_ble_eq_true rfl)⟩) hR hz hS hA (fun H locs hR hz hS => ?_)
        refine lv_lload hx hb dL_law_200 (lv_at hl 6 rfl) ?_
        refine W.lcmp hx hb dL_law_202 ?_
        refine lv_if_ne (tgt := 228) hx hb dL_law_203 (by decide) (fun hc => ?_) (fun hc => ?_)
        · have hrun := mt_f hrun hc
          exact k_L_law_b228 hx hb hml hown hts hE hA hend _ _ _ _ hrun hR hz hS (lv_sub hl [] rfl)
        · have hrun := mt_t hrun hc
          refine lv_aload_n hx hb dL_law_206 rfl (lv_at hl 1 rfl) ?_
          refine lv_iload_n hx hb dL_law_207 rfl (lv_at hl 3 rfl) ?_
          refine lv_iload hx hb dL_law_208 (lv_at hl 4 rfl) ?_
          obtain ⟨⟨x210, h210⟩, hc9, hrun⟩ := m_bind hrun
          refine mr_calli (mr_runS (As := [.ref v1, .int v3, .int v4]) (rest := []) hx hb hml hown hts (c_L_act l D ids st z hc9) yk_L_act ys_L_act wm_2_10 ⟨(Nat.le_of_ble_eq_true rfl), (Nat.le_of_ble_eq_true rfl)⟩ (mr_recvS hR hE hz hS hA) hl.1 rfl (Nat.le_of_ble_eq_true rfl) dL_law_210 ⟨(Nat.le_of_ble_eq_true rfl), (Nat.le_of_ble_eq_true rfl)⟩) hR hz hS hA (fun H locs hR hz hS => ?_)
          refine lv_iload hx hb dL_law_213 (lv_at hl 7 rfl) ?_
          refine lv_icmp_ne (tgt := 228) hx hb dL_law_215 (by decide) (fun hc => ?_) (fun hc => ?_)
          · have hrun := mt_f hrun hc
            exact k_L_law_b228 hx hb hml hown hts hE hA hend _ _ _ _ hrun hR hz hS (lv_sub hl [] rfl)
          · have hrun := mt_t hrun hc
            refine lv_aload_n hx hb dL_law_218 rfl (lv_at hl 1 rfl) ?_
            obtain ⟨⟨x219, h219⟩, hc9, hrun⟩ := m_bind hrun
            refine mr_calll (mr_runS (As := [.ref v1]) (rest := []) hx hb hml hown hts (c_L_told l D ids st z hc9) yk_L_told ys_L_told wm_1_185 ⟨(Nat.le_of_ble_eq_true rfl), (Nat.le_of_ble_eq_true rfl)⟩ (mr_recvS hR hE hz hS hA) hl.1 rfl (Nat.le_of_ble_eq_true rfl) dL_law_219 ⟨(Nat.le_of_ble_eq_true rfl), (Nat.le_of_ble_eq_true rfl)⟩) hR hz hS hA (fun H locs hR hz hS => ?_)
            refine lv_lload hx hb dL_law_222 (lv_at hl 8 rfl) ?_
            refine W.lcmp hx hb dL_law_224 ?_
            refine lv_if_eq (tgt := 230) hx hb dL_law_225 (by decide) (fun hc => ?_) (fun hc => ?_)
            · have hrun := mt_t hrun hc
              exact k_L_law_b230 hx hb hml hown hts hE hA hend hk10 _ _ _ _ _ _ _ _ hrun hR hz hS (lv_sub hl [0, 1, 2, 8] rfl)
            · have hrun := mt_f hrun hc
              exact k_L_law_b228 hx hb hml hown hts hE hA hend _ _ _ _ hrun hR hz hS (lv_sub hl [] rfl)
set_option maxRecDepth 100000 in
set_option maxHeartbeats 4000000 in
theorem k_L_law_b136 {p : Program} {l : Launch} {e : Env} {s : State} {m : MethodId} {args : Array Value} {below : List Frame} {meth : Method} {c : Code} {D : va_G} {ids : m_I3} {st : m_T} {Q : State → Prop} {z : Nat} (hx : p.tables.exec = Jvm.exec) (hb : c.code = cL_law) (hml : c.maxLocals = 12) (hown : s.vm.findClass RL = some m.cls) (hts : ∀ w ∈ (m_ws yX1_at cX1_at 2 (some .int)), w.before args s = true) (hE : m_EV st (fun q : Nat => s.heap.size ≤ q) s s.heap) (hA : ∀ q, s.heap.size ≤ q → (fun q : Nat => s.heap.size ≤ q) q) (hend : ∀ (H : Heap) (ls : Array Slot), W p l e room_1 s m args below meth c H [] 600086 7301442 Q (F0 m 263 ls [.int 1])) {k10 : mH → Nat → Nat → Int32 → Option (Int32)} (hk10 : ∀ (h : mH) (v0 : Nat) (v1 : Nat) (v2 : Int32) (H : Heap) (locs : List Loc) (ls : Array Slot), k10 h v0 v1 v2 = some 1 → Rl D ids (fun q : Nat => s.heap.size ≤ q) h s H → H.size = z → va_S (fun q : Nat => s.heap.size ≤ q) s.heap H locs → lv_has ls 12 [(0, .ref v0), (1, .ref v1), (2, .int v2)] → W p l e room_1 s m args below meth c H locs 96 2648 Q (F0 m 10 ls [])) (h : mH) (v0 : Nat) (v1 : Nat) (v2 : Int32) (v3 : Int32) (v4 : Int32) (v5 : Int32) (v6 : Int64) (v8 : Int32) (v9 : Int32) (v10 : Int64) (H : Heap) (locs : List Loc) (ls : Array Slot) (hrun : s_L_law_b136 st k10 h v0 v1 v2 v3 v4 v5 v6 v8 v9 v10 = some 1) (hR : Rl D ids (fun q : Nat => s.heap.size ≤ q) h s H) (hz : H.size = z) (hS : va_S (fun q : Nat => s.heap.size ≤ q) s.heap H locs) (hl : lv_has ls 12 [(0, .ref v0), (1, .ref v1), (2, .int v2), (3, .int v3), (4, .int v4), (5, .int v5), (6, .long v6), (8, .int v8), (9, .int v9), (10, .long v10)]) : W p l e room_1 s m args below meth c H locs 96 2648 Q (F0 m 136 ls []) := by
  unfold s_L_law_b136 at hrun
  refine lv_iload_n hx hb dL_law_136 rfl (lv_at hl 3 rfl) ?_
  refine lv_bipush (v := 15) hx hb dL_law_137 (by decide) ?_
  refine lv_iand hx hb dL_law_139 ?_
  refine lv_iconst (v := 2) hx hb dL_law_140 (by decide) ?_
  refine lv_icmp_le (tgt := 171) hx hb dL_law_141 (by decide) (fun hc => ?_) (fun hc => ?_)
  · have hrun := mt_t hrun hc
    exact k_L_law_b171 hx hb hml hown hts hE hA hend hk10 _ _ _ _ _ _ _ _ _ _ _ _ _ hrun hR hz hS (lv_sub hl [0, 1, 2, 3, 4, 5, 6, 8, 9] rfl)
  · have hrun := mt_f hrun hc
    refine lv_iload_n hx hb dL_law_144 rfl (lv_at hl 3 rfl) ?_
    refine lv_bipush (v := 15) hx hb dL_law_145 (by decide) ?_
    refine lv_iand hx hb dL_law_147 ?_
    refine lv_bipush (v := 6) hx hb dL_law_148 (by decide) ?_
    refine lv_icmp_ge (tgt := 171) hx hb dL_law_150 (by decide) (fun hc => ?_) (fun hc => ?_)
    · have hrun := mt_t hrun hc
      exact k_L_law_b171 hx hb hml hown hts hE hA hend hk10 _ _ _ _ _ _ _ _ _ _ _ _ _ hrun hR hz hS (lv_sub hl [0, 1, 2, 3, 4, 5, 6, 8, 9] rfl)
    · have hrun := mt_f hrun hc
      refine lv_aload_n hx hb dL_law_153 rfl (lv_at hl 1 rfl) ?_
      refine lv_iconst (v := 4) hx hb dL_law_154 (by decide) ?_
      obtain ⟨_, ho9, hrun⟩ := m_bind hrun
      obtain ⟨fs9, ho9⟩ := m_is_spec ho9
      obtain ⟨⟨x155, h155⟩, hc9, hrun⟩ := m_bind hrun
      refine mr_calli (mr_runV (As := [.int 4]) (rest := []) hx hb hml hown hts (c_X7_count l D ids st z (m_ok_spec hc9)) yk_X7_count ys_X7_count wm_1_125 ⟨(Nat.le_of_ble_eq_true rfl), (Nat.le_of_ble_eq_true rfl)⟩ (mr_recv (ci := 5) hR hE hz hS hA rfl ho9) hl.1 rfl (Nat.le_of_ble_eq_true rfl) dL_law_155 ⟨(Nat.le_of_ble_eq_true rfl), (Nat.le_of_ble_eq_true rfl)⟩) hR hz hS hA (fun H locs hR hz hS => ?_)
      refine lv_iload hx hb dL_law_158 (lv_at hl 7 rfl) ?_
      refine lv_iload hx hb dL_law_160 (lv_at hl 8 rfl) ?_
      refine lv_iadd hx hb dL_law_162 ?_
      refine lv_ldc (v := 100000) hx hb hown (hts _ (m_ws_in wm_2_138)) dL_law_163 ?_
      refine lv_isub hx hb dL_law_165 ?_
      refine lv_icmp_eq (tgt := 171) hx hb dL_law_166 (by decide) (fun hc => ?_) (fun hc => ?_)
      · have hrun := mt_t hrun hc
        exact k_L_law_b171 hx hb hml hown hts hE hA hend hk10 _ _ _ _ _ _ _ _ _ _ _ _ _ hrun hR hz hS (lv_sub hl [0, 1, 2, 3, 4, 5, 6, 8, 9] rfl)
      · have hrun := mt_f hrun hc
        refine lv_iconst (v := 0) hx hb dL_law_169 (by decide) ?_
        exact absurd (Option.some.inj hrun) (by decide)
set_option maxRecDepth 100000 in
set_option maxHeartbeats 4000000 in
theorem k_L_law_b56 {p : Program} {l : Launch} {e : Env} {s : State} {m : MethodId} {args : Array Value} {below : List Frame} {meth : Method} {c : Code} {D : va_G} {ids : m_I3} {st : m_T} {Q : State → Prop} {z : Nat} (hx : p.tables.exec = Jvm.exec) (hb : c.code = cL_law) (hml : c.maxLocals = 12) (hown : s.vm.findClass RL = some m.cls) (hts : ∀ w ∈ (m_ws yX1_at cX1_at 2 (some .int)), w.before args s = true) (hE : m_EV st (fun q : Nat => s.heap.size ≤ q) s s.heap) (hA : ∀ q, s.heap.size ≤ q → (fun q : Nat => s.heap.size ≤ q) q) (hend : ∀ (H : Heap) (ls : Array Slot), W p l e room_1 s m args below meth c H [] 600086 7301442 Q (F0 m 263 ls [.int 1])) {k10 : mH → Nat → Nat → Int32 → Option (Int32)} (hk10 : ∀ (h : mH) (v0 : Nat) (v1 : Nat) (v2 : Int32) (H : Heap) (locs : List Loc) (ls : Array Slot), k10 h v0 v1 v2 = some 1 → Rl D ids (fun q : Nat => s.heap.size ≤ q) h s H → H.size = z → va_S (fun q : Nat => s.heap.size ≤ q) s.heap H locs → lv_has ls 12 [(0, .ref v0), (1, .ref v1), (2, .int v2)] → W p l e room_1 s m args below meth c H locs 96 2648 Q (F0 m 10 ls [])) (h : mH) (v0 : Nat) (v1 : Nat) (v2 : Int32) (v3 : Int32) (v4 : Int32) (H : Heap) (locs : List Loc) (ls : Array Slot) (hrun : s_L_law_b56 st k10 h v0 v1 v2 v3 v4 = some 1) (hR : Rl D ids (fun q : Nat => s.heap.size ≤ q) h s H) (hz : H.size = z) (hS : va_S (fun q : Nat => s.heap.size ≤ q) s.heap H locs) (hl : lv_has ls 12 [(0, .ref v0), (1, .ref v1), (2, .int v2), (3, .int v3), (4, .int v4)]) : W p l e room_1 s m args below meth c H locs 96 2648 Q (F0 m 56 ls []) := by
  unfold s_L_law_b56 at hrun
  refine lv_aload_n hx hb dL_law_56 rfl (lv_at hl 1 rfl) ?_
  refine lv_bipush (v := 9) hx hb dL_law_57 (by decide) ?_
  obtain ⟨_, ho9, hrun⟩ := m_bind hrun
  obtain ⟨fs9, ho9⟩ := m_is_spec ho9
  obtain ⟨⟨x59, h59⟩, hc9, hrun⟩ := m_bind hrun
  refine mr_calli (mr_runV (As := [.int 9]) (rest := []) hx hb hml hown hts (c_X7_count l D ids st z (m_ok_spec hc9)) yk_X7_count ys_X7_count wm_1_125 ⟨(Nat.le_of_ble_eq_true rfl), (Nat.le_of_ble_eq_true rfl)⟩ (mr_recv (ci := 5) hR hE hz hS hA rfl ho9) hl.1 rfl (Nat.le_of_ble_eq_true rfl) dL_law_59 ⟨(Nat.le_of_ble_eq_true rfl), (Nat.le_of_ble_eq_true rfl)⟩) hR hz hS hA (fun H locs hR hz hS => ?_)
  refine lv_istore (lv' := [(5, .int x59), (0, .ref v0), (1, .ref v1), (2, .int v2), (3, .int v3), (4, .int v4)]) hx hb dL_law_62 hl (by decide) rfl (fun ls hl => ?_)
  refine lv_aload_n hx hb dL_law_64 rfl (lv_at hl 2 rfl) ?_
  obtain ⟨⟨x65, h65⟩, hc9, hrun⟩ := m_bind hrun
  refine mr_calll (mr_runS (As := [.ref v1]) (rest := []) hx hb hml hown hts (c_L_told l D ids st z hc9) yk_L_told ys_L_told wm_1_185 ⟨(Nat.le_of_ble_eq_true rfl), (Nat.le_of_ble_eq_true rfl)⟩ (mr_recvS hR hE hz hS hA) hl.1 rfl (Nat.le_of_ble_eq_true rfl) dL_law_65 ⟨(Nat.le_of_ble_eq_true rfl), (Nat.le_of_ble_eq_true rfl)⟩) hR hz hS hA (fun H locs hR hz hS => ?_)
  refine lv_lstore (lv' := [(6, .long x65), (5, .int x59), (0, .ref v0), (1, .ref v1), (2, .int v2), (3, .int v3), (4, .int v4)]) hx hb dL_law_68 hl (by decide) rfl (fun ls hl => ?_)
  refine lv_aload_n hx hb dL_law_70 rfl (lv_at hl 3 rfl) ?_
  refine lv_iconst (v := 4) hx hb dL_law_71 (by decide) ?_
  obtain ⟨_, ho9, hrun⟩ := m_bind hrun
  obtain ⟨fs9, ho9⟩ := m_is_spec ho9
  obtain ⟨⟨x72, h72⟩, hc9, hrun⟩ := m_bind hrun
  refine mr_calli (mr_runV (As := [.int 4]) (rest := []) hx hb hml hown hts (c_X7_count l D ids st z (m_ok_spec hc9)) yk_X7_count ys_X7_count wm_1_125 ⟨(Nat.le_of_ble_eq_true rfl), (Nat.le_of_ble_eq_true rfl)⟩ (mr_recv (ci := 5) hR hE hz hS hA rfl ho9) hl.1 rfl (Nat.le_of_ble_eq_true rfl) dL_law_72 ⟨(Nat.le_of_ble_eq_true rfl), (Nat.le_of_ble_eq_true rfl)⟩) hR hz hS hA (fun H locs hR hz hS => ?_)
  refine lv_istore (lv' := [(8, .int x72), (6, .long x65), (5, .int x59), (0, .ref v0), (1, .ref v1), (2, .int v2), (3, .int v3), (4, .int v4)]) hx hb dL_law_75 hl (by decide) rfl (fun ls hl => ?_)
  refine lv_aload_n hx hb dL_law_77 rfl (lv_at hl 4 rfl) ?_
  refine lv_iload_n hx hb dL_law_78 rfl (lv_at hl 6 rfl) ?_
  refine lv_iload hx hb dL_law_79 (lv_at hl 7 rfl) ?_
  obtain ⟨⟨x81, h81⟩, hc9, hrun⟩ := m_bind hrun
  refine mr_calli (mr_runS (As := [.ref v1, .int v3, .int v4]) (rest := []) hx hb hml hown hts (c_L_act l D ids st z hc9) yk_L_act ys_L_act wm_2_10 ⟨(Nat.le_of_ble_eq_true rfl), (Nat.le_of_ble_eq_true rfl)⟩ (mr_recvS hR hE hz hS hA) hl.1 rfl (Nat.le_of_ble_eq_true rfl) dL_law_81 ⟨(Nat.le_of_ble_eq_true rfl), (Nat.le_of_ble_eq_true rfl)⟩) hR hz hS hA (fun H locs hR hz hS => ?_)
  refine lv_istore (lv' := [(9, .int x81), (8, .int x72), (6, .long x65), (5, .int x59), (0, .ref v0), (1, .ref v1), (2, .int v2), (3, .int v3), (4, .int v4)]) hx hb dL_law_84 hl (by decide) rfl (fun ls hl => ?_)
  refine lv_aload_n hx hb dL_law_86 rfl (lv_at hl 5 rfl) ?_
  obtain ⟨⟨x87, h87⟩, hc9, hrun⟩ := m_bind hrun
  refine mr_calll (mr_runS (As := [.ref v1]) (rest := []) hx hb hml hown hts (c_L_told l D ids st z hc9) yk_L_told ys_L_told wm_1_185 ⟨(Nat.le_of_ble_eq_true rfl), (Nat.le_of_ble_eq_true rfl)⟩ (mr_recvS hR hE hz hS hA) hl.1 rfl (Nat.le_of_ble_eq_true rfl) dL_law_87 ⟨(Nat.le_of_ble_eq_true rfl), (Nat.le_of_ble_eq_true rfl)⟩) hR hz hS hA (fun H locs hR hz hS => ?_)
  refine lv_lstore (lv' := [(10, .long x87), (9, .int x81), (8, .int x72), (6, .long x65), (5, .int x59), (0, .ref v0), (1, .ref v1), (2, .int v2), (3, .int v3), (4, .int v4)]) hx hb dL_law_90 hl (by decide) rfl (fun ls hl => ?_)
  refine lv_iload hx hb dL_law_92 (lv_at hl 1 rfl) ?_
  refine lv_bipush (v := (-9)) hx hb dL_law_94 (by decide) ?_
  refine lv_icmp_ne (tgt := 121) hx hb dL_law_96 (by decide) (fun hc => ?_) (fun hc => ?_)
  · have hrun := mt_f hrun hc
    refine lv_aload_n hx hb dL_law_121 rfl (lv_at hl 6 rfl) ?_
    refine lv_bipush (v := 9) hx hb dL_law_122 (by decide) ?_
    obtain ⟨_, ho9, hrun⟩ := m_bind hrun
    obtain ⟨fs9, ho9⟩ := m_is_spec ho9
    obtain ⟨⟨x124, h124⟩, hc9, hrun⟩ := m_bind hrun
    refine mr_calli (mr_runV (As := [.int 9]) (rest := []) hx hb hml hown hts (c_X7_count l D ids st z (m_ok_spec hc9)) yk_X7_count ys_X7_count wm_1_125 ⟨(Nat.le_of_ble_eq_true rfl), (Nat.le_of_ble_eq_true rfl)⟩ (mr_recv (ci := 5) hR hE hz hS hA rfl ho9) hl.1 rfl (Nat.le_of_ble_eq_true rfl) dL_law_124 ⟨(Nat.le_of_ble_eq_true rfl), (Nat.le_of_ble_eq_true rfl)⟩) hR hz hS hA (fun H locs hR hz hS => ?_)
    refine lv_iload hx hb dL_law_127 (lv_at hl 4 rfl) ?_
    refine lv_iconst (v := 1) hx hb dL_law_129 (by decide) ?_
    refine lv_iadd hx hb dL_law_130 ?_
    refine lv_icmp_eq (tgt := 136) hx hb dL_law_131 (by decide) (fun hc => ?_) (fun hc => ?_)
    · have hrun := mt_t hrun hc
      exact k_L_law_b136 hx hb hml hown hts hE hA hend hk10 _ _ _ _ _ _ _ _ _ _ _ _ _ _ hrun hR hz hS (lv_sub hl [5, 6, 7, 8, 9, 4, 3, 2, 1, 0] rfl)
    · have hrun := mt_f hrun hc
      exact k_L_law_b134 hx hb hml hown hts hE hA hend _ _ _ _ hrun hR hz hS (lv_sub hl [] rfl)
  · have hrun := mt_t hrun hc
    refine lv_lload hx hb dL_law_99 (lv_at hl 0 rfl) ?_
    refine lv_lload hx hb dL_law_101 (lv_at hl 3 rfl) ?_
    refine W.lcmp hx hb dL_law_103 ?_
    refine lv_if_ne (tgt := 134) hx hb dL_law_104 (by decide) (fun hc => ?_) (fun hc => ?_)
    · have hrun := mt_f hrun hc
      exact k_L_law_b134 hx hb hml hown hts hE hA hend _ _ _ _ hrun hR hz hS (lv_sub hl [] rfl)
    · have hrun := mt_t hrun hc
      refine lv_aload_n hx hb dL_law_107 rfl (lv_at hl 6 rfl) ?_
      refine lv_bipush (v := 9) hx hb dL_law_108 (by decide) ?_
      obtain ⟨_, ho9, hrun⟩ := m_bind hrun
      obtain ⟨fs9, ho9⟩ := m_is_spec ho9
      obtain ⟨⟨x110, h110⟩, hc9, hrun⟩ := m_bind hrun
      refine mr_calli (mr_runV (As := [.int 9]) (rest := []) hx hb hml hown hts (c_X7_count l D ids st z (m_ok_spec hc9)) yk_X7_count ys_X7_count wm_1_125 ⟨(Nat.le_of_ble_eq_true rfl), (Nat.le_of_ble_eq_true rfl)⟩ (mr_recv (ci := 5) hR hE hz hS hA rfl ho9) hl.1 rfl (Nat.le_of_ble_eq_true rfl) dL_law_110 ⟨(Nat.le_of_ble_eq_true rfl), (Nat.le_of_ble_eq_true rfl)⟩) hR hz hS hA (fun H locs hR hz hS => ?_)
      refine lv_iload hx hb dL_law_113 (lv_at hl 4 rfl) ?_
      refine lv_icmp_eq (tgt := 136) hx hb dL_law_115 (by decide) (fun hc => ?_) (fun hc => ?_)
      · have hrun := mt_t hrun hc
        exact k_L_law_b136 hx hb hml hown hts hE hA hend hk10 _ _ _ _ _ _ _ _ _ _ _ _ _ _ hrun hR hz hS (lv_sub hl [5, 6, 7, 8, 9, 4, 3, 2, 1, 0] rfl)
      · have hrun := mt_f hrun hc
        refine lv_goto (tgt := 134) hx hb dL_law_118 (by decide) ?_
        exact k_L_law_b134 hx hb hml hown hts hE hA hend _ _ _ _ hrun hR hz hS (lv_sub hl [] rfl)
set_option maxRecDepth 100000 in
set_option maxHeartbeats 4000000 in
theorem k_L_law_L10 {p : Program} {l : Launch} {e : Env} {s : State} {m : MethodId} {args : Array Value} {below : List Frame} {meth : Method} {c : Code} {D : va_G} {ids : m_I3} {st : m_T} {Q : State → Prop} {z : Nat} (hx : p.tables.exec = Jvm.exec) (hb : c.code = cL_law) (hml : c.maxLocals = 12) (hown : s.vm.findClass RL = some m.cls) (hts : ∀ w ∈ (m_ws yX1_at cX1_at 2 (some .int)), w.before args s = true) (hE : m_EV st (fun q : Nat => s.heap.size ≤ q) s s.heap) (hA : ∀ q, s.heap.size ≤ q → (fun q : Nat => s.heap.size ≤ q) q) (hend : ∀ (H : Heap) (ls : Array Slot), W p l e room_1 s m args below meth c H [] 600086 7301442 Q (F0 m 263 ls [.int 1])) : ∀ (n : Nat) (h : mH) (v0 : Nat) (v1 : Nat) (v2 : Int32) (H : Heap) (locs : List Loc) (ls : Array Slot), s_L_law_L10 st n h v0 v1 v2 = some 1 → Rl D ids (fun q : Nat => s.heap.size ≤ q) h s H → H.size = z → va_S (fun q : Nat => s.heap.size ≤ q) s.heap H locs → lv_has ls 12 [(0, .ref v0), (1, .ref v1), (2, .int v2)] → W p l e room_1 s m args below meth c H locs 96 2648 Q (F0 m 10 ls []) := by
  intro n
  induction n with
  | zero => intro h v0 v1 v2 H locs ls hrun; exact absurd hrun (by intro h9; cases h9)
  | succ n ih =>
    intro h v0 v1 v2 H locs ls hrun hR hz hS hl
    rw [s_L_law_L10] at hrun
    refine lv_iload_n hx hb dL_law_10 rfl (lv_at hl 2 rfl) ?_
    refine lv_bipush (v := 24) hx hb dL_law_11 (by decide) ?_
    refine lv_icmp_ge (tgt := 262) hx hb dL_law_13 (by decide) (fun hc => ?_) (fun hc => ?_)
    · have hrun := mt_t hrun hc
      refine lv_iconst (v := 1) hx hb dL_law_262 (by decide) ?_
      refine va_forget hS.2.2 ?_
      refine W.widen (k := 600086) (n := 7301442) (Nat.le_of_ble_eq_true rfl) (Nat.le_of_ble_eq_true rfl) ?_
      exact hend _ _
    · have hrun := mt_f hrun hc
      refine lv_aload_n hx hb dL_law_16 rfl (lv_at hl 0 rfl) ?_
      refine lv_iconst (v := 2) hx hb dL_law_17 (by decide) ?_
      refine lv_iload_n hx hb dL_law_18 rfl (lv_at hl 2 rfl) ?_
      refine lv_imul hx hb dL_law_19 ?_
      obtain ⟨x20, hc9, hrun⟩ := m_bind hrun
      refine mr_calli (mr_runS (As := [.ref v0, .int (2 * v2)]) (rest := []) hx hb hml hown hts (c_L_cell l D ids st z hc9) yk_L_cell ys_L_cell wm_1_182 ⟨(Nat.le_of_ble_eq_true rfl), (Nat.le_of_ble_eq_true rfl)⟩ (mr_recvS hR hE hz hS hA) hl.1 rfl (Nat.le_of_ble_eq_true rfl) dL_law_20 ⟨(Nat.le_of_ble_eq_true rfl), (Nat.le_of_ble_eq_true rfl)⟩) hR hz hS hA (fun H locs hR hz hS => ?_)
      refine lv_istore_n (lv' := [(3, .int x20), (0, .ref v0), (1, .ref v1), (2, .int v2)]) hx hb dL_law_23 rfl hl (by decide) rfl (fun ls hl => ?_)
      refine lv_aload_n hx hb dL_law_24 rfl (lv_at hl 1 rfl) ?_
      refine lv_iconst (v := 2) hx hb dL_law_25 (by decide) ?_
      refine lv_iload_n hx hb dL_law_26 rfl (lv_at hl 3 rfl) ?_
      refine lv_imul hx hb dL_law_27 ?_
      refine lv_iconst (v := 1) hx hb dL_law_28 (by decide) ?_
      refine lv_iadd hx hb dL_law_29 ?_
      obtain ⟨x30, hc9, hrun⟩ := m_bind hrun
      refine mr_calli (mr_runS (As := [.ref v0, .int ((2 * v2) + 1)]) (rest := []) hx hb hml hown hts (c_L_cell l D ids st z hc9) yk_L_cell ys_L_cell wm_1_182 ⟨(Nat.le_of_ble_eq_true rfl), (Nat.le_of_ble_eq_true rfl)⟩ (mr_recvS hR hE hz hS hA) hl.1 rfl (Nat.le_of_ble_eq_true rfl) dL_law_30 ⟨(Nat.le_of_ble_eq_true rfl), (Nat.le_of_ble_eq_true rfl)⟩) hR hz hS hA (fun H locs hR hz hS => ?_)
      refine lv_istore (lv' := [(4, .int x30), (3, .int x20), (0, .ref v0), (1, .ref v1), (2, .int v2)]) hx hb dL_law_33 hl (by decide) rfl (fun ls hl => ?_)
      refine lv_aload_n hx hb dL_law_35 rfl (lv_at hl 3 rfl) ?_
      refine lv_bipush (v := 9) hx hb dL_law_36 (by decide) ?_
      obtain ⟨_, ho9, hrun⟩ := m_bind hrun
      obtain ⟨fs9, ho9⟩ := m_is_spec ho9
      obtain ⟨⟨x38, h38⟩, hc9, hrun⟩ := m_bind hrun
      refine mr_calli (mr_runV (As := [.int 9]) (rest := []) hx hb hml hown hts (c_X7_count l D ids st z (m_ok_spec hc9)) yk_X7_count ys_X7_count wm_1_125 ⟨(Nat.le_of_ble_eq_true rfl), (Nat.le_of_ble_eq_true rfl)⟩ (mr_recv (ci := 5) hR hE hz hS hA rfl ho9) hl.1 rfl (Nat.le_of_ble_eq_true rfl) dL_law_38 ⟨(Nat.le_of_ble_eq_true rfl), (Nat.le_of_ble_eq_true rfl)⟩) hR hz hS hA (fun H locs hR hz hS => ?_)
      refine lv_bipush (v := 6) hx hb dL_law_41 (by decide) ?_
      refine lv_icmp_ne (tgt := 56) hx hb dL_law_43 (by decide) (fun hc => ?_) (fun hc => ?_)
      · have hrun := mt_f hrun hc
        exact k_L_law_b56 hx hb hml hown hts hE hA hend ih _ _ _ _ _ _ _ _ _ hrun hR hz hS (lv_sub hl [2, 3, 4, 1, 0] rfl)
      · have hrun := mt_t hrun hc
        refine lv_aload_n hx hb dL_law_46 rfl (lv_at hl 3 rfl) ?_
        obtain ⟨_, ho9, hrun⟩ := m_bind hrun
        obtain ⟨fs9, ho9⟩ := m_is_spec ho9
        obtain ⟨⟨x47, h47⟩, hc9, hrun⟩ := m_bind hrun
        refine mr_calli (mr_runV (As := []) (rest := []) hx hb hml hown hts (c_X7_undo l D ids st z (m_ok_spec hc9)) yk_X7_undo ys_X7_undo wm_1_32 ⟨(Nat.le_of_ble_eq_true rfl), (Nat.le_of_ble_eq_true rfl)⟩ (mr_recv (ci := 5) hR hE hz hS hA rfl ho9) hl.1 rfl (Nat.le_of_ble_eq_true rfl) dL_law_47 ⟨(Nat.le_of_ble_eq_true rfl), (Nat.le_of_ble_eq_true rfl)⟩) hR hz hS hA (fun H locs hR hz hS => ?_)
        refine lv_pop hx hb dL_law_50 rfl ?_
        refine lv_aload_n hx hb dL_law_51 rfl (lv_at hl 3 rfl) ?_
        obtain ⟨_, ho9, hrun⟩ := m_bind hrun
        obtain ⟨fs9, ho9⟩ := m_is_spec ho9
        obtain ⟨⟨x52, h52⟩, hc9, hrun⟩ := m_bind hrun
        refine mr_calli (mr_runV (As := []) (rest := []) hx hb hml hown hts (c_X7_undo l D ids st z (m_ok_spec hc9)) yk_X7_undo ys_X7_undo wm_1_32 ⟨(Nat.le_of_ble_eq_true rfl), (Nat.le_of_ble_eq_true rfl)⟩ (mr_recv (ci := 5) hR hE hz hS hA rfl ho9) hl.1 rfl (Nat.le_of_ble_eq_true rfl) dL_law_52 ⟨(Nat.le_of_ble_eq_true rfl), (Nat.le_of_ble_eq_true rfl)⟩) hR hz hS hA (fun H locs hR hz hS => ?_)
        refine lv_pop hx hb dL_law_55 rfl ?_
        exact k_L_law_b56 hx hb hml hown hts hE hA hend ih _ _ _ _ _ _ _ _ _ hrun hR hz hS (lv_sub hl [2, 3, 4, 1, 0] rfl)
set_option maxRecDepth 100000 in
set_option maxHeartbeats 4000000 in
theorem k_L_law {p : Program} {l : Launch} {e : Env} {s : State} {m : MethodId} {args : Array Value} {below : List Frame} {meth : Method} {c : Code} {D : va_G} {ids : m_I3} {st : m_T} {Q : State → Prop} (hx : p.tables.exec = Jvm.exec) (hb : c.code = cL_law) (hml : c.maxLocals = 12) (hown : s.vm.findClass RL = some m.cls) (hts : ∀ w ∈ (m_ws yX1_at cX1_at 2 (some .int)), w.before args s = true) (hE : m_EV st (fun q : Nat => s.heap.size ≤ q) s s.heap) (hA : ∀ q, s.heap.size ≤ q → (fun q : Nat => s.heap.size ≤ q) q) (hend : ∀ (H : Heap) (ls : Array Slot), W p l e room_1 s m args below meth c H [] 600086 7301442 Q (F0 m 263 ls [.int 1])) (h : mH) (v0 : Nat) (z : Nat) (H : Heap) (locs : List Loc) (ls : Array Slot) (hrun : s_L_law st h z v0 = some 1) (hR : Rl D ids (fun q : Nat => s.heap.size ≤ q) h s H) (hz : H.size = z) (hS : va_S (fun q : Nat => s.heap.size ≤ q) s.heap H locs) (hl : lv_has ls 12 [(0, .ref v0)]) : W p l e room_1 s m args below meth c H locs 0 0 Q (F0 m 0 ls []) := by
  unfold s_L_law at hrun
  obtain ⟨h0, hc9, hrun⟩ := m_bind hrun
  refine mr_new (C := RX7) (T := TX7) (N := 8) (ci := 5) (fs := [.null, .null, .null, .null, .null, .null, .int 0, .null]) hx hb hts (fun w q => m_ws_in (wi_X7 w q)) tyX7 tyX7_ok hown (hts _ (m_ws_in wm_0_16)) (hts _ (m_ws_in wm_0_17)) (hts _ (m_ws_in wm_0_1)) hR hz hS hA rfl (fun j hj => by rcases (show j = 0 ∨ j = 1 ∨ j = 2 ∨ j = 3 ∨ j = 4 ∨ j = 5 ∨ j = 6 ∨ j = 7 by omega) with rfl | rfl | rfl | rfl | rfl | rfl | rfl | rfl <;> rfl) (Nat.le_of_ble_eq_true rfl) (Nat.le_of_ble_eq_true rfl) dL_law_0 (fun H hR hz hS => ?_)
  rw [Option.some.inj hc9] at hR
  refine lv_dup hx hb dL_law_3 rfl ?_
  obtain ⟨⟨h4, z4⟩, hc9, hrun⟩ := m_bind hrun
  refine mr_callv (mr_runI (As := []) (rest := [.ref z]) hx hb hml hown hts (c_X7_init l D ids st (z + 1) hc9) yk_X7_init ys_X7_init rfl wm_0_18 ⟨(Nat.le_of_ble_eq_true rfl), (Nat.le_of_ble_eq_true rfl)⟩ (mr_recvS hR hE hz hS hA) hl.1 rfl (Nat.le_of_ble_eq_true rfl) dL_law_4 ⟨(Nat.le_of_ble_eq_true rfl), (Nat.le_of_ble_eq_true rfl)⟩) hR hz hS hA (fun H locs hR hz hS => ?_)
  refine lv_astore_n (lv' := [(1, .ref z), (0, .ref v0)]) hx hb dL_law_7 rfl hl (by decide) rfl (fun ls hl => ?_)
  refine lv_iconst (v := 0) hx hb dL_law_8 (by decide) ?_
  refine lv_istore_n (lv' := [(2, .int 0), (1, .ref z), (0, .ref v0)]) hx hb dL_law_9 rfl hl (by decide) rfl (fun ls hl => ?_)
  refine W.widen (k := 96) (n := 2648) (Nat.le_of_ble_eq_true rfl) (Nat.le_of_ble_eq_true rfl) ?_
  exact k_L_law_L10 hx hb hml hown hts hE hA hend _ _ _ _ _ _ _ _ hrun hR hz hS (lv_sub hl [2, 1, 0] rfl)
