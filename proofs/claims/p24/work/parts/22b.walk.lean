/-! the machine does it: laid by program -/
/-! X3_copyFrom -/
abbrev rm_X3_copyFrom : Room := { frames := 2, cells := 0, slots := 0, locals := 43 }
theorem yk_X3_copyFrom : m_K yX3_copyFrom cX3_copyFrom 2 (none) 1 := ⟨wm_1_115, wm_0_2, by decide +kernel⟩
theorem ys_X3_copyFrom : Cond.instanceMethod yX3_copyFrom ∈ wT ∧ Cond.selects RX3 yX3_copyFrom yX3_copyFrom ∈ wT := ⟨wm_1_113, wm_1_114⟩
set_option maxRecDepth 100000 in
set_option maxHeartbeats 4000000 in
theorem c_X3_copyFrom (l : Launch) (D : va_G) (ids : m_I3) (st : m_T) (z : Nat) {h : mH} {v0 : Nat} {v1 : Nat} {hF : mH} (hrun : s_X3_copyFrom h v0 v1 = some hF) : Met l yX3_copyFrom (m_ws yX3_copyFrom cX3_copyFrom 2 (none)) rm_X3_copyFrom (mPc D ids st [.ref v0, .ref v1] h z) (mQv D ids (m_A h z) hF z) rm_X3_copyFrom.cells rm_X3_copyFrom.slots (m_A h z) := by
  refine mr_of (cc := cX3_copyFrom) (maxL := 2) (ret := none) (by decide) rfl (Nat.le_of_ble_eq_true rfl) ?_
  intro p e s m below meth c ls hx hb hr hml hown hts hlocks hin hR hE hz hl
  have hA : ∀ q, s.heap.size ≤ q → m_A h z q := fun q hq => Or.inr (by rw [← hz]; exact hq)
  have hS : va_S (m_A h z) s.heap s.heap [] := va_S.rf
  have hl : lv_has ls 2 [(0, .ref v0), (1, .ref v1)] := hl
  unfold s_X3_copyFrom at hrun
  refine lv_aload_n hx hb dX3_copyFrom_0 rfl (lv_at hl 0 rfl) ?_
  obtain ⟨x1, hc9, hrun⟩ := m_bind hrun
  refine mr_get (C := RX3) (T := TX3) (N := 10) (ci := 2) hx hb hts (fun w q => m_ws_in (wi_X3 w q)) hown hR rfl 0 (by decide) (hts _ (m_ws_in wm_0_54)) (fun _ h9 => h9) (m_gr_spec hc9) dX3_copyFrom_1 ?_
  refine lv_aload_n hx hb dX3_copyFrom_4 rfl (lv_at hl 1 rfl) ?_
  obtain ⟨x5, hc9, hrun⟩ := m_bind hrun
  refine mr_get (C := RX3) (T := TX3) (N := 10) (ci := 2) hx hb hts (fun w q => m_ws_in (wi_X3 w q)) hown hR rfl 0 (by decide) (hts _ (m_ws_in wm_0_54)) (fun _ h9 => h9) (m_gr_spec hc9) dX3_copyFrom_5 ?_
  obtain ⟨_, ho9, hrun⟩ := m_bind hrun
  obtain ⟨fs9, ho9⟩ := m_is_spec ho9
  obtain ⟨h8, hc9, hrun⟩ := m_bind hrun
  refine mr_callv (mr_runV (As := [.ref x5]) (rest := []) hx hb hml hown hts (c_X5_copyFrom l D ids st z hc9) yk_X5_copyFrom ys_X5_copyFrom wm_1_116 ⟨(Nat.le_of_ble_eq_true rfl), (Nat.le_of_ble_eq_true rfl)⟩ (mr_recv (ci := 3) hR hE hz hS hA rfl ho9) hl.1 rfl (Nat.le_of_ble_eq_true rfl) dX3_copyFrom_8 ⟨(Nat.le_of_ble_eq_true rfl), (Nat.le_of_ble_eq_true rfl)⟩) hR hz hS hA (fun H locs hR hz hS => ?_)
  refine lv_aload_n hx hb dX3_copyFrom_11 rfl (lv_at hl 1 rfl) ?_
  obtain ⟨x12, hc9, hrun⟩ := m_bind hrun
  refine mr_get (C := RX3) (T := TX3) (N := 10) (ci := 2) hx hb hts (fun w q => m_ws_in (wi_X3 w q)) hown hR rfl 1 (by decide) (hts _ (m_ws_in wm_0_56)) (fun _ h9 => h9) (m_gr_spec hc9) dX3_copyFrom_12 ?_
  refine lv_aload_n hx hb dX3_copyFrom_15 rfl (lv_at hl 0 rfl) ?_
  obtain ⟨x16, hc9, hrun⟩ := m_bind hrun
  refine mr_get (C := RX3) (T := TX3) (N := 10) (ci := 2) hx hb hts (fun w q => m_ws_in (wi_X3 w q)) hown hR rfl 1 (by decide) (hts _ (m_ws_in wm_0_56)) (fun _ h9 => h9) (m_gr_spec hc9) dX3_copyFrom_16 ?_
  obtain ⟨h19, hc9, hrun⟩ := m_bind hrun
  refine mr_callv (mr_runS (As := [.ref x12, .ref x16]) (rest := []) hx hb hml hown hts (c_X1_copy l D ids st z hc9) yk_X1_copy ys_X1_copy wm_0_48 ⟨(Nat.le_of_ble_eq_true rfl), (Nat.le_of_ble_eq_true rfl)⟩ (mr_recvS hR hE hz hS hA) hl.1 rfl (Nat.le_of_ble_eq_true rfl) dX3_copyFrom_19 ⟨(Nat.le_of_ble_eq_true rfl), (Nat.le_of_ble_eq_true rfl)⟩) hR hz hS hA (fun H locs hR hz hS => ?_)
  refine lv_aload_n hx hb dX3_copyFrom_22 rfl (lv_at hl 1 rfl) ?_
  obtain ⟨x23, hc9, hrun⟩ := m_bind hrun
  refine mr_get (C := RX3) (T := TX3) (N := 10) (ci := 2) hx hb hts (fun w q => m_ws_in (wi_X3 w q)) hown hR rfl 2 (by decide) (hts _ (m_ws_in wm_0_58)) (fun _ h9 => h9) (m_gr_spec hc9) dX3_copyFrom_23 ?_
  refine lv_aload_n hx hb dX3_copyFrom_26 rfl (lv_at hl 0 rfl) ?_
  obtain ⟨x27, hc9, hrun⟩ := m_bind hrun
  refine mr_get (C := RX3) (T := TX3) (N := 10) (ci := 2) hx hb hts (fun w q => m_ws_in (wi_X3 w q)) hown hR rfl 2 (by decide) (hts _ (m_ws_in wm_0_58)) (fun _ h9 => h9) (m_gr_spec hc9) dX3_copyFrom_27 ?_
  obtain ⟨h30, hc9, hrun⟩ := m_bind hrun
  refine mr_callv (mr_runS (As := [.ref x23, .ref x27]) (rest := []) hx hb hml hown hts (c_X1_copy l D ids st z hc9) yk_X1_copy ys_X1_copy wm_0_48 ⟨(Nat.le_of_ble_eq_true rfl), (Nat.le_of_ble_eq_true rfl)⟩ (mr_recvS hR hE hz hS hA) hl.1 rfl (Nat.le_of_ble_eq_true rfl) dX3_copyFrom_30 ⟨(Nat.le_of_ble_eq_true rfl), (Nat.le_of_ble_eq_true rfl)⟩) hR hz hS hA (fun H locs hR hz hS => ?_)
  refine lv_aload_n hx hb dX3_copyFrom_33 rfl (lv_at hl 1 rfl) ?_
  obtain ⟨x34, hc9, hrun⟩ := m_bind hrun
  refine mr_get (C := RX3) (T := TX3) (N := 10) (ci := 2) hx hb hts (fun w q => m_ws_in (wi_X3 w q)) hown hR rfl 3 (by decide) (hts _ (m_ws_in wm_0_60)) (fun _ h9 => h9) (m_gr_spec hc9) dX3_copyFrom_34 ?_
  refine lv_aload_n hx hb dX3_copyFrom_37 rfl (lv_at hl 0 rfl) ?_
  obtain ⟨x38, hc9, hrun⟩ := m_bind hrun
  refine mr_get (C := RX3) (T := TX3) (N := 10) (ci := 2) hx hb hts (fun w q => m_ws_in (wi_X3 w q)) hown hR rfl 3 (by decide) (hts _ (m_ws_in wm_0_60)) (fun _ h9 => h9) (m_gr_spec hc9) dX3_copyFrom_38 ?_
  obtain ⟨h41, hc9, hrun⟩ := m_bind hrun
  refine mr_callv (mr_runS (As := [.ref x34, .ref x38]) (rest := []) hx hb hml hown hts (c_X1_copy l D ids st z hc9) yk_X1_copy ys_X1_copy wm_0_48 ⟨(Nat.le_of_ble_eq_true rfl), (Nat.le_of_ble_eq_true rfl)⟩ (mr_recvS hR hE hz hS hA) hl.1 rfl (Nat.le_of_ble_eq_true rfl) dX3_copyFrom_41 ⟨(Nat.le_of_ble_eq_true rfl), (Nat.le_of_ble_eq_true rfl)⟩) hR hz hS hA (fun H locs hR hz hS => ?_)
  refine lv_aload_n hx hb dX3_copyFrom_44 rfl (lv_at hl 1 rfl) ?_
  obtain ⟨x45, hc9, hrun⟩ := m_bind hrun
  refine mr_get (C := RX3) (T := TX3) (N := 10) (ci := 2) hx hb hts (fun w q => m_ws_in (wi_X3 w q)) hown hR rfl 4 (by decide) (hts _ (m_ws_in wm_0_62)) (fun _ h9 => h9) (m_gr_spec hc9) dX3_copyFrom_45 ?_
  refine lv_aload_n hx hb dX3_copyFrom_48 rfl (lv_at hl 0 rfl) ?_
  obtain ⟨x49, hc9, hrun⟩ := m_bind hrun
  refine mr_get (C := RX3) (T := TX3) (N := 10) (ci := 2) hx hb hts (fun w q => m_ws_in (wi_X3 w q)) hown hR rfl 4 (by decide) (hts _ (m_ws_in wm_0_62)) (fun _ h9 => h9) (m_gr_spec hc9) dX3_copyFrom_49 ?_
  obtain ⟨h52, hc9, hrun⟩ := m_bind hrun
  refine mr_callv (mr_runS (As := [.ref x45, .ref x49]) (rest := []) hx hb hml hown hts (c_X1_copy l D ids st z hc9) yk_X1_copy ys_X1_copy wm_0_48 ⟨(Nat.le_of_ble_eq_true rfl), (Nat.le_of_ble_eq_true rfl)⟩ (mr_recvS hR hE hz hS hA) hl.1 rfl (Nat.le_of_ble_eq_true rfl) dX3_copyFrom_52 ⟨(Nat.le_of_ble_eq_true rfl), (Nat.le_of_ble_eq_true rfl)⟩) hR hz hS hA (fun H locs hR hz hS => ?_)
  refine lv_aload_n hx hb dX3_copyFrom_55 rfl (lv_at hl 1 rfl) ?_
  obtain ⟨x56, hc9, hrun⟩ := m_bind hrun
  refine mr_get (C := RX3) (T := TX3) (N := 10) (ci := 2) hx hb hts (fun w q => m_ws_in (wi_X3 w q)) hown hR rfl 5 (by decide) (hts _ (m_ws_in wm_0_64)) (fun _ h9 => h9) (m_gr_spec hc9) dX3_copyFrom_56 ?_
  refine lv_aload_n hx hb dX3_copyFrom_59 rfl (lv_at hl 0 rfl) ?_
  obtain ⟨x60, hc9, hrun⟩ := m_bind hrun
  refine mr_get (C := RX3) (T := TX3) (N := 10) (ci := 2) hx hb hts (fun w q => m_ws_in (wi_X3 w q)) hown hR rfl 5 (by decide) (hts _ (m_ws_in wm_0_64)) (fun _ h9 => h9) (m_gr_spec hc9) dX3_copyFrom_60 ?_
  obtain ⟨h63, hc9, hrun⟩ := m_bind hrun
  refine mr_callv (mr_runS (As := [.ref x56, .ref x60]) (rest := []) hx hb hml hown hts (c_X1_copy l D ids st z hc9) yk_X1_copy ys_X1_copy wm_0_48 ⟨(Nat.le_of_ble_eq_true rfl), (Nat.le_of_ble_eq_true rfl)⟩ (mr_recvS hR hE hz hS hA) hl.1 rfl (Nat.le_of_ble_eq_true rfl) dX3_copyFrom_63 ⟨(Nat.le_of_ble_eq_true rfl), (Nat.le_of_ble_eq_true rfl)⟩) hR hz hS hA (fun H locs hR hz hS => ?_)
  refine lv_aload_n hx hb dX3_copyFrom_66 rfl (lv_at hl 1 rfl) ?_
  obtain ⟨x67, hc9, hrun⟩ := m_bind hrun
  refine mr_get (C := RX3) (T := TX3) (N := 10) (ci := 2) hx hb hts (fun w q => m_ws_in (wi_X3 w q)) hown hR rfl 6 (by decide) (hts _ (m_ws_in wm_0_65)) (fun _ h9 => h9) (m_gr_spec hc9) dX3_copyFrom_67 ?_
  refine lv_aload_n hx hb dX3_copyFrom_70 rfl (lv_at hl 0 rfl) ?_
  obtain ⟨x71, hc9, hrun⟩ := m_bind hrun
  refine mr_get (C := RX3) (T := TX3) (N := 10) (ci := 2) hx hb hts (fun w q => m_ws_in (wi_X3 w q)) hown hR rfl 6 (by decide) (hts _ (m_ws_in wm_0_65)) (fun _ h9 => h9) (m_gr_spec hc9) dX3_copyFrom_71 ?_
  obtain ⟨h74, hc9, hrun⟩ := m_bind hrun
  refine mr_callv (mr_runS (As := [.ref x67, .ref x71]) (rest := []) hx hb hml hown hts (c_X1_copy l D ids st z hc9) yk_X1_copy ys_X1_copy wm_0_48 ⟨(Nat.le_of_ble_eq_true rfl), (Nat.le_of_ble_eq_true rfl)⟩ (mr_recvS hR hE hz hS hA) hl.1 rfl (Nat.le_of_ble_eq_true rfl) dX3_copyFrom_74 ⟨(Nat.le_of_ble_eq_true rfl), (Nat.le_of_ble_eq_true rfl)⟩) hR hz hS hA (fun H locs hR hz hS => ?_)
  refine lv_aload_n hx hb dX3_copyFrom_77 rfl (lv_at hl 0 rfl) ?_
  refine lv_aload_n hx hb dX3_copyFrom_78 rfl (lv_at hl 1 rfl) ?_
  obtain ⟨x79, hc9, hrun⟩ := m_bind hrun
  refine mr_get (C := RX3) (T := TX3) (N := 10) (ci := 2) hx hb hts (fun w q => m_ws_in (wi_X3 w q)) hown hR rfl 7 (by decide) (hts _ (m_ws_in wm_0_66)) (fun _ h9 => h9) (m_gi_spec hc9) dX3_copyFrom_79 ?_
  obtain ⟨h82, hc9, hrun⟩ := m_bind hrun
  refine mr_put (C := RX3) (T := TX3) (N := 10) (ci := 2) hx hb hts (fun w q => m_ws_in (wi_X3 w q)) tyX3 tyX3_ok nmX3 hown hR hz hS rfl 7 (by decide) (hts _ (m_ws_in wm_0_66)) (fun _ h9 => h9) rfl (tyX3_ok 7 (by decide)) rfl rfl hc9 dX3_copyFrom_82 (fun H locs hR hz hS => ?_)
  refine lv_aload_n hx hb dX3_copyFrom_85 rfl (lv_at hl 0 rfl) ?_
  refine lv_aload_n hx hb dX3_copyFrom_86 rfl (lv_at hl 1 rfl) ?_
  obtain ⟨x87, hc9, hrun⟩ := m_bind hrun
  refine mr_get (C := RX3) (T := TX3) (N := 10) (ci := 2) hx hb hts (fun w q => m_ws_in (wi_X3 w q)) hown hR rfl 8 (by decide) (hts _ (m_ws_in wm_0_68)) (fun _ h9 => h9) (m_gi_spec hc9) dX3_copyFrom_87 ?_
  obtain ⟨h90, hc9, hrun⟩ := m_bind hrun
  refine mr_put (C := RX3) (T := TX3) (N := 10) (ci := 2) hx hb hts (fun w q => m_ws_in (wi_X3 w q)) tyX3 tyX3_ok nmX3 hown hR hz hS rfl 8 (by decide) (hts _ (m_ws_in wm_0_68)) (fun _ h9 => h9) rfl (tyX3_ok 8 (by decide)) rfl rfl hc9 dX3_copyFrom_90 (fun H locs hR hz hS => ?_)
  refine lv_aload_n hx hb dX3_copyFrom_93 rfl (lv_at hl 0 rfl) ?_
  refine lv_aload_n hx hb dX3_copyFrom_94 rfl (lv_at hl 1 rfl) ?_
  obtain ⟨x95, hc9, hrun⟩ := m_bind hrun
  refine mr_get (C := RX3) (T := TX3) (N := 10) (ci := 2) hx hb hts (fun w q => m_ws_in (wi_X3 w q)) hown hR rfl 9 (by decide) (hts _ (m_ws_in wm_0_70)) (fun _ h9 => h9) (m_gi_spec hc9) dX3_copyFrom_95 ?_
  obtain ⟨h98, hc9, hrun⟩ := m_bind hrun
  refine mr_put (C := RX3) (T := TX3) (N := 10) (ci := 2) hx hb hts (fun w q => m_ws_in (wi_X3 w q)) tyX3 tyX3_ok nmX3 hown hR hz hS rfl 9 (by decide) (hts _ (m_ws_in wm_0_70)) (fun _ h9 => h9) rfl (tyX3_ok 9 (by decide)) rfl rfl hc9 dX3_copyFrom_98 (fun H locs hR hz hS => ?_)
  obtain rfl := Option.some.inj hrun
  exact mr_vret hx hb hr hlocks hR hz hS dX3_copyFrom_101
/-! X2_push -/
abbrev rm_X2_push : Room := { frames := 3, cells := 0, slots := 0, locals := 64 }
theorem yk_X2_push : m_K yX2_push cX2_push 3 (none) 1 := ⟨wm_2_30, wm_0_6, by decide +kernel⟩
theorem ys_X2_push : Cond.instanceMethod yX2_push ∈ wT ∧ Cond.selects RX2 yX2_push yX2_push ∈ wT := ⟨wm_2_28, wm_2_29⟩
set_option maxRecDepth 100000 in
set_option maxHeartbeats 4000000 in
theorem k_X2_push_b40 {p : Program} {l : Launch} {e : Env} {s : State} {m : MethodId} {args : Array Value} {below : List Frame} {meth : Method} {c : Code} {D : va_G} {ids : m_I3} {st : m_T} {A : Nat → Prop} {z : Nat} {hF : mH} (hx : p.tables.exec = Jvm.exec) (hb : c.code = cX2_push) (hr : meth.sig.returnType = none) (hml : c.maxLocals = 3) (hown : s.vm.findClass RX2 = some m.cls) (hts : ∀ w ∈ (m_ws yX2_push cX2_push 3 (none)), w.before args s = true) (hlocks : meth.locks = false) (hin : meth.name = yX2_push.name) (hE : m_EV st A s s.heap) (hA : ∀ q, s.heap.size ≤ q → A q) (h : mH) (v0 : Nat) (t0 : Nat) (t1 : Int32) (H : Heap) (locs : List Loc) (ls : Array Slot) (hrun : s_X2_push_b40 h v0 t0 t1 = some hF) (hR : Rl D ids A h s H) (hz : H.size = z) (hS : va_S A s.heap H locs) (hl : lv_has ls 3 [(0, .ref v0)]) : W p l e rm_X2_push s m args below meth c H locs 0 0 (MQ below (mQv D ids A hF z) args s 0 0 A) (F0 m 40 ls [.int t1, .ref t0]) := by
  unfold s_X2_push_b40 at hrun
  obtain ⟨h40, hc9, hrun⟩ := m_bind hrun
  refine mr_put (C := RX2) (T := TX2) (N := 3) (ci := 1) hx hb hts (fun w q => m_ws_in (wi_X2 w q)) tyX2 tyX2_ok nmX2 hown hR hz hS rfl 1 (by decide) (hts _ (m_ws_in wm_0_143)) (fun _ h9 => h9) rfl (tyX2_ok 1 (by decide)) rfl rfl hc9 dX2_push_40 (fun H locs hR hz hS => ?_)
  refine lv_aload_n hx hb dX2_push_43 rfl (lv_at hl 0 rfl) ?_
  refine lv_aload_n hx hb dX2_push_44 rfl (lv_at hl 0 rfl) ?_
  obtain ⟨x45, hc9, hrun⟩ := m_bind hrun
  refine mr_get (C := RX2) (T := TX2) (N := 3) (ci := 1) hx hb hts (fun w q => m_ws_in (wi_X2 w q)) hown hR rfl 2 (by decide) (hts _ (m_ws_in wm_0_144)) (fun _ h9 => h9) (m_gi_spec hc9) dX2_push_45 ?_
  refine lv_iconst (v := 1) hx hb dX2_push_48 (by decide) ?_
  refine lv_iadd hx hb dX2_push_49 ?_
  refine lv_bipush (v := 6) hx hb dX2_push_50 (by decide) ?_
  refine va_mmin hx hb (hml.trans hl.1.symm) hown (hts _ (m_ws_in wm_2_31)) (hts _ (m_ws_in wm_1_172)) (hts _ (m_ws_in wm_0_9)) (hts _ (m_ws_in wm_1_173)) (Nat.le_of_ble_eq_true rfl) (Nat.le_of_ble_eq_true rfl) (Nat.le_of_ble_eq_true rfl) (Nat.le_of_ble_eq_true rfl) dX2_push_52 ?_
  obtain ⟨h55, hc9, hrun⟩ := m_bind hrun
  refine mr_put (C := RX2) (T := TX2) (N := 3) (ci := 1) hx hb hts (fun w q => m_ws_in (wi_X2 w q)) tyX2 tyX2_ok nmX2 hown hR hz hS rfl 2 (by decide) (hts _ (m_ws_in wm_0_144)) (fun _ h9 => h9) rfl (tyX2_ok 2 (by decide)) rfl rfl hc9 dX2_push_55 (fun H locs hR hz hS => ?_)
  obtain rfl := Option.some.inj hrun
  exact mr_vret hx hb hr hlocks hR hz hS dX2_push_58
set_option maxRecDepth 100000 in
set_option maxHeartbeats 4000000 in
theorem k_X2_push_b18 {p : Program} {l : Launch} {e : Env} {s : State} {m : MethodId} {args : Array Value} {below : List Frame} {meth : Method} {c : Code} {D : va_G} {ids : m_I3} {st : m_T} {A : Nat → Prop} {z : Nat} {hF : mH} (hx : p.tables.exec = Jvm.exec) (hb : c.code = cX2_push) (hr : meth.sig.returnType = none) (hml : c.maxLocals = 3) (hown : s.vm.findClass RX2 = some m.cls) (hts : ∀ w ∈ (m_ws yX2_push cX2_push 3 (none)), w.before args s = true) (hlocks : meth.locks = false) (hin : meth.name = yX2_push.name) (hE : m_EV st A s s.heap) (hA : ∀ q, s.heap.size ≤ q → A q) (h : mH) (v0 : Nat) (H : Heap) (locs : List Loc) (ls : Array Slot) (hrun : s_X2_push_b18 h v0 = some hF) (hR : Rl D ids A h s H) (hz : H.size = z) (hS : va_S A s.heap H locs) (hl : lv_has ls 3 [(0, .ref v0)]) : W p l e rm_X2_push s m args below meth c H locs 0 0 (MQ below (mQv D ids A hF z) args s 0 0 A) (F0 m 18 ls []) := by
  unfold s_X2_push_b18 at hrun
  refine lv_aload_n hx hb dX2_push_18 rfl (lv_at hl 0 rfl) ?_
  refine lv_aload_n hx hb dX2_push_19 rfl (lv_at hl 0 rfl) ?_
  obtain ⟨x20, hc9, hrun⟩ := m_bind hrun
  refine mr_get (C := RX2) (T := TX2) (N := 3) (ci := 1) hx hb hts (fun w q => m_ws_in (wi_X2 w q)) hown hR rfl 1 (by decide) (hts _ (m_ws_in wm_0_143)) (fun _ h9 => h9) (m_gi_spec hc9) dX2_push_20 ?_
  refine lv_iconst (v := 1) hx hb dX2_push_23 (by decide) ?_
  refine lv_iadd hx hb dX2_push_24 ?_
  refine lv_bipush (v := 6) hx hb dX2_push_25 (by decide) ?_
  refine lv_icmp_ge (tgt := 39) hx hb dX2_push_27 (by decide) (fun hc => ?_) (fun hc => ?_)
  · have hrun := mt_t hrun hc
    refine lv_iconst (v := 0) hx hb dX2_push_39 (by decide) ?_
    exact k_X2_push_b40 hx hb hr hml hown hts hlocks hin hE hA _ _ _ _ _ _ _ hrun hR hz hS (lv_sub hl [0] rfl)
  · have hrun := mt_f hrun hc
    refine lv_aload_n hx hb dX2_push_30 rfl (lv_at hl 0 rfl) ?_
    obtain ⟨x31, hc9, hrun⟩ := m_bind hrun
    refine mr_get (C := RX2) (T := TX2) (N := 3) (ci := 1) hx hb hts (fun w q => m_ws_in (wi_X2 w q)) hown hR rfl 1 (by decide) (hts _ (m_ws_in wm_0_143)) (fun _ h9 => h9) (m_gi_spec hc9) dX2_push_31 ?_
    refine lv_iconst (v := 1) hx hb dX2_push_34 (by decide) ?_
    refine lv_iadd hx hb dX2_push_35 ?_
    refine lv_goto (tgt := 40) hx hb dX2_push_36 (by decide) ?_
    exact k_X2_push_b40 hx hb hr hml hown hts hlocks hin hE hA _ _ _ _ _ _ _ hrun hR hz hS (lv_sub hl [0] rfl)
set_option maxRecDepth 100000 in
set_option maxHeartbeats 4000000 in
theorem c_X2_push (l : Launch) (D : va_G) (ids : m_I3) (st : m_T) (z : Nat) {h : mH} {v0 : Nat} {v1 : Nat} {hF : mH} (hrun : s_X2_push h v0 v1 = some hF) : Met l yX2_push (m_ws yX2_push cX2_push 3 (none)) rm_X2_push (mPc D ids st [.ref v0, .ref v1] h z) (mQv D ids (m_A h z) hF z) rm_X2_push.cells rm_X2_push.slots (m_A h z) := by
  refine mr_of (cc := cX2_push) (maxL := 3) (ret := none) (by decide) rfl (Nat.le_of_ble_eq_true rfl) ?_
  intro p e s m below meth c ls hx hb hr hml hown hts hlocks hin hR hE hz hl
  have hA : ∀ q, s.heap.size ≤ q → m_A h z q := fun q hq => Or.inr (by rw [← hz]; exact hq)
  have hS : va_S (m_A h z) s.heap s.heap [] := va_S.rf
  have hl : lv_has ls 3 [(0, .ref v0), (1, .ref v1)] := hl
  unfold s_X2_push at hrun
  refine lv_aload_n hx hb dX2_push_0 rfl (lv_at hl 0 rfl) ?_
  refine lv_aload_n hx hb dX2_push_1 rfl (lv_at hl 0 rfl) ?_
  obtain ⟨x2, hc9, hrun⟩ := m_bind hrun
  refine mr_get (C := RX2) (T := TX2) (N := 3) (ci := 1) hx hb hts (fun w q => m_ws_in (wi_X2 w q)) hown hR rfl 1 (by decide) (hts _ (m_ws_in wm_0_143)) (fun _ h9 => h9) (m_gi_spec hc9) dX2_push_2 ?_
  obtain ⟨_, ho9, hrun⟩ := m_bind hrun
  obtain ⟨fs9, ho9⟩ := m_is_spec ho9
  obtain ⟨x5, hc9, hrun⟩ := m_bind hrun
  refine mr_callq (mr_runV (As := [.int x2]) (rest := []) hx hb hml hown hts (c_X2_slot l D ids st z hc9) yk_X2_slot ys_X2_slot wm_1_108 ⟨(Nat.le_of_ble_eq_true rfl), (Nat.le_of_ble_eq_true rfl)⟩ (mr_recv (ci := 1) hR hE hz hS hA rfl ho9) hl.1 rfl (Nat.le_of_ble_eq_true rfl) dX2_push_5 ⟨(Nat.le_of_ble_eq_true rfl), (Nat.le_of_ble_eq_true rfl)⟩) hR hz hS hA (fun H locs hR hz hS => ?_)
  cases x5 with
  | none =>
    refine lv_astore_nN (lv' := [(2, .null), (0, .ref v0), (1, .ref v1)]) hx hb dX2_push_8 rfl hl (by decide) rfl (fun ls hl => ?_)
    refine lv_aload_nN hx hb dX2_push_9 rfl (lv_at hl 0 rfl) ?_
    refine lv_ifnullN (tgt := 18) hx hb dX2_push_10 (by decide) ?_
    exact k_X2_push_b18 hx hb hr hml hown hts hlocks hin hE hA _ _ _ _ _ hrun hR hz hS (lv_sub hl [1] rfl)
  | some a5 =>
    refine lv_astore_n (lv' := [(2, .ref a5), (0, .ref v0), (1, .ref v1)]) hx hb dX2_push_8 rfl hl (by decide) rfl (fun ls hl => ?_)
    refine lv_aload_n hx hb dX2_push_9 rfl (lv_at hl 0 rfl) ?_
    refine lv_ifnull hx hb dX2_push_10 ?_
    refine lv_aload_n hx hb dX2_push_13 rfl (lv_at hl 0 rfl) ?_
    refine lv_aload_n hx hb dX2_push_14 rfl (lv_at hl 2 rfl) ?_
    obtain ⟨_, ho9, hrun⟩ := m_bind hrun
    obtain ⟨fs9, ho9⟩ := m_is_spec ho9
    obtain ⟨h15, hc9, hrun⟩ := m_bind hrun
    refine mr_callv (mr_runV (As := [.ref v1]) (rest := []) hx hb hml hown hts (c_X3_copyFrom l D ids st z hc9) yk_X3_copyFrom ys_X3_copyFrom wm_1_112 ⟨(Nat.le_of_ble_eq_true rfl), (Nat.le_of_ble_eq_true rfl)⟩ (mr_recv (ci := 2) hR hE hz hS hA rfl ho9) hl.1 rfl (Nat.le_of_ble_eq_true rfl) dX2_push_15 ⟨(Nat.le_of_ble_eq_true rfl), (Nat.le_of_ble_eq_true rfl)⟩) hR hz hS hA (fun H locs hR hz hS => ?_)
    exact k_X2_push_b18 hx hb hr hml hown hts hlocks hin hE hA _ _ _ _ _ hrun hR hz hS (lv_sub hl [1] rfl)
/-! X1_put -/
abbrev rm_X1_put : Room := { frames := 0, cells := 0, slots := 0, locals := 0 }
theorem yk_X1_put : m_K yX1_put cX1_put 3 (none) 3 := ⟨wm_0_220, wm_0_4, by decide +kernel⟩
theorem ys_X1_put : Cond.static yX1_put ∈ wT := wm_0_219
set_option maxRecDepth 100000 in
set_option maxHeartbeats 4000000 in
theorem k_X1_put_b14 {p : Program} {l : Launch} {e : Env} {s : State} {m : MethodId} {args : Array Value} {below : List Frame} {meth : Method} {c : Code} {D : va_G} {ids : m_I3} {st : m_T} {A : Nat → Prop} {z : Nat} {hF : mH} (hx : p.tables.exec = Jvm.exec) (hb : c.code = cX1_put) (hr : meth.sig.returnType = none) (hml : c.maxLocals = 3) (hown : s.vm.findClass RX1 = some m.cls) (hts : ∀ w ∈ (m_ws yX1_put cX1_put 3 (none)), w.before args s = true) (hlocks : meth.locks = false) (hin : meth.name = yX1_put.name) (hE : m_EV st A s s.heap) (hA : ∀ q, s.heap.size ≤ q → A q) (h : mH) (H : Heap) (locs : List Loc) (ls : Array Slot) (hrun : s_X1_put_b14 h = some hF) (hR : Rl D ids A h s H) (hz : H.size = z) (hS : va_S A s.heap H locs) (hl : lv_has ls 3 []) : W p l e rm_X1_put s m args below meth c H locs 0 0 (MQ below (mQv D ids A hF z) args s 0 0 A) (F0 m 14 ls []) := by
  unfold s_X1_put_b14 at hrun
  obtain rfl := Option.some.inj hrun
  exact mr_vret hx hb hr hlocks hR hz hS dX1_put_14
set_option maxRecDepth 100000 in
set_option maxHeartbeats 4000000 in
theorem c_X1_put (l : Launch) (D : va_G) (ids : m_I3) (st : m_T) (z : Nat) {h : mH} {v0 : Nat} {v1 : Int32} {v2 : Int32} {hF : mH} (hrun : s_X1_put h v0 v1 v2 = some hF) : Met l yX1_put (m_ws yX1_put cX1_put 3 (none)) rm_X1_put (mPc D ids st [.ref v0, .int v1, .int v2] h z) (mQv D ids (m_A h z) hF z) rm_X1_put.cells rm_X1_put.slots (m_A h z) := by
  refine mr_of (cc := cX1_put) (maxL := 3) (ret := none) (by decide) rfl (Nat.le_of_ble_eq_true rfl) ?_
  intro p e s m below meth c ls hx hb hr hml hown hts hlocks hin hR hE hz hl
  have hA : ∀ q, s.heap.size ≤ q → m_A h z q := fun q hq => Or.inr (by rw [← hz]; exact hq)
  have hS : va_S (m_A h z) s.heap s.heap [] := va_S.rf
  have hl : lv_has ls 3 [(0, .ref v0), (1, .int v1), (2, .int v2)] := hl
  unfold s_X1_put at hrun
  refine lv_iload_n hx hb dX1_put_0 rfl (lv_at hl 1 rfl) ?_
  refine lv_if_lt (tgt := 14) hx hb dX1_put_1 (by decide) (fun hc => ?_) (fun hc => ?_)
  · have hrun := mt_t hrun hc
    exact k_X1_put_b14 hx hb hr hml hown hts hlocks hin hE hA _ _ _ _ hrun hR hz hS (lv_sub hl [] rfl)
  · have hrun := mt_f hrun hc
    refine lv_iload_n hx hb dX1_put_4 rfl (lv_at hl 1 rfl) ?_
    refine lv_aload_n hx hb dX1_put_5 rfl (lv_at hl 0 rfl) ?_
    obtain ⟨x6, hc9, hrun⟩ := m_bind hrun
    refine mr_ilen hx hb hR hc9 dX1_put_6 ?_
    refine lv_icmp_ge (tgt := 14) hx hb dX1_put_7 (by decide) (fun hc => ?_) (fun hc => ?_)
    · have hrun := mt_t hrun hc
      exact k_X1_put_b14 hx hb hr hml hown hts hlocks hin hE hA _ _ _ _ hrun hR hz hS (lv_sub hl [] rfl)
    · have hrun := mt_f hrun hc
      refine lv_aload_n hx hb dX1_put_10 rfl (lv_at hl 0 rfl) ?_
      refine lv_iload_n hx hb dX1_put_11 rfl (lv_at hl 1 rfl) ?_
      refine lv_iload_n hx hb dX1_put_12 rfl (lv_at hl 2 rfl) ?_
      obtain ⟨h13, hc9, hrun⟩ := m_bind hrun
      refine mr_iast hx hb hR hz hS hc9 dX1_put_13 (fun H locs hR hz hS => ?_)
      exact k_X1_put_b14 hx hb hr hml hown hts hlocks hin hE hA _ _ _ _ hrun hR hz hS (lv_sub hl [] rfl)
/-! X1_fill -/
abbrev rm_X1_fill : Room := { frames := 0, cells := 0, slots := 0, locals := 0 }
theorem yk_X1_fill : m_K yX1_fill cX1_fill 3 (none) 2 := ⟨wm_0_53, wm_0_4, by decide +kernel⟩
theorem ys_X1_fill : Cond.static yX1_fill ∈ wT := wm_0_52
set_option maxRecDepth 100000 in
set_option maxHeartbeats 4000000 in
theorem k_X1_fill_L2 {p : Program} {l : Launch} {e : Env} {s : State} {m : MethodId} {args : Array Value} {below : List Frame} {meth : Method} {c : Code} {D : va_G} {ids : m_I3} {st : m_T} {A : Nat → Prop} {z : Nat} {hF : mH} (hx : p.tables.exec = Jvm.exec) (hb : c.code = cX1_fill) (hr : meth.sig.returnType = none) (hml : c.maxLocals = 3) (hown : s.vm.findClass RX1 = some m.cls) (hts : ∀ w ∈ (m_ws yX1_fill cX1_fill 3 (none)), w.before args s = true) (hlocks : meth.locks = false) (hin : meth.name = yX1_fill.name) (hE : m_EV st A s s.heap) (hA : ∀ q, s.heap.size ≤ q → A q) : ∀ (n : Nat) (h : mH) (v0 : Nat) (v1 : Int32) (v2 : Int32) (H : Heap) (locs : List Loc) (ls : Array Slot), s_X1_fill_L2 n h v0 v1 v2 = some hF → Rl D ids A h s H → H.size = z → va_S A s.heap H locs → lv_has ls 3 [(0, .ref v0), (1, .int v1), (2, .int v2)] → W p l e rm_X1_fill s m args below meth c H locs 0 0 (MQ below (mQv D ids A hF z) args s 0 0 A) (F0 m 2 ls []) := by
  intro n
  induction n with
  | zero => intro h v0 v1 v2 H locs ls hrun; exact absurd hrun (by intro h9; cases h9)
  | succ n ih =>
    intro h v0 v1 v2 H locs ls hrun hR hz hS hl
    rw [s_X1_fill_L2] at hrun
    refine lv_iload_n hx hb dX1_fill_2 rfl (lv_at hl 2 rfl) ?_
    refine lv_aload_n hx hb dX1_fill_3 rfl (lv_at hl 0 rfl) ?_
    obtain ⟨x4, hc9, hrun⟩ := m_bind hrun
    refine mr_ilen hx hb hR hc9 dX1_fill_4 ?_
    refine lv_icmp_ge (tgt := 18) hx hb dX1_fill_5 (by decide) (fun hc => ?_) (fun hc => ?_)
    · have hrun := mt_t hrun hc
      obtain rfl := Option.some.inj hrun
      exact mr_vret hx hb hr hlocks hR hz hS dX1_fill_18
    · have hrun := mt_f hrun hc
      refine lv_aload_n hx hb dX1_fill_8 rfl (lv_at hl 0 rfl) ?_
      refine lv_iload_n hx hb dX1_fill_9 rfl (lv_at hl 2 rfl) ?_
      refine lv_iload_n hx hb dX1_fill_10 rfl (lv_at hl 1 rfl) ?_
      obtain ⟨h11, hc9, hrun⟩ := m_bind hrun
      refine mr_iast hx hb hR hz hS hc9 dX1_fill_11 (fun H locs hR hz hS => ?_)
      refine lv_iinc (v := v2 + 1) (lv' := [(2, .int (v2 + 1)), (0, .ref v0), (1, .int v1)]) hx hb dX1_fill_12 hl (k := 2) rfl rfl (by decide) rfl (fun ls hl => ?_)
      refine lv_goto (tgt := 2) hx hb dX1_fill_15 (by decide) ?_
      exact ih _ _ _ _ _ _ _ hrun hR hz hS (lv_sub hl [1, 2, 0] rfl)
set_option maxRecDepth 100000 in
set_option maxHeartbeats 4000000 in
theorem c_X1_fill (l : Launch) (D : va_G) (ids : m_I3) (st : m_T) (z : Nat) {h : mH} {v0 : Nat} {v1 : Int32} {hF : mH} (hrun : s_X1_fill h v0 v1 = some hF) : Met l yX1_fill (m_ws yX1_fill cX1_fill 3 (none)) rm_X1_fill (mPc D ids st [.ref v0, .int v1] h z) (mQv D ids (m_A h z) hF z) rm_X1_fill.cells rm_X1_fill.slots (m_A h z) := by
  refine mr_of (cc := cX1_fill) (maxL := 3) (ret := none) (by decide) rfl (Nat.le_of_ble_eq_true rfl) ?_
  intro p e s m below meth c ls hx hb hr hml hown hts hlocks hin hR hE hz hl
  have hA : ∀ q, s.heap.size ≤ q → m_A h z q := fun q hq => Or.inr (by rw [← hz]; exact hq)
  have hS : va_S (m_A h z) s.heap s.heap [] := va_S.rf
  have hl : lv_has ls 3 [(0, .ref v0), (1, .int v1)] := hl
  unfold s_X1_fill at hrun
  refine lv_iconst (v := 0) hx hb dX1_fill_0 (by decide) ?_
  refine lv_istore_n (lv' := [(2, .int 0), (0, .ref v0), (1, .int v1)]) hx hb dX1_fill_1 rfl hl (by decide) rfl (fun ls hl => ?_)
  exact k_X1_fill_L2 hx hb hr hml hown hts hlocks hin hE hA _ _ _ _ _ _ _ _ hrun hR hz hS (lv_sub hl [1, 2, 0] rfl)
/-! X0_isRide -/
abbrev rm_X0_isRide : Room := { frames := 1, cells := 0, slots := 0, locals := 20 }
theorem yk_X0_isRide : m_K yX0_isRide cX0_isRide 3 (some .boolean) 3 := ⟨wm_0_208, wm_0_5, by decide +kernel⟩
theorem ys_X0_isRide : Cond.static yX0_isRide ∈ wT := wm_0_207
set_option maxRecDepth 100000 in
set_option maxHeartbeats 4000000 in
theorem k_X0_isRide_b43 {p : Program} {l : Launch} {e : Env} {s : State} {m : MethodId} {args : Array Value} {below : List Frame} {meth : Method} {c : Code} {D : va_G} {ids : m_I3} {st : m_T} {A : Nat → Prop} {z : Nat} {r : Int32} (hx : p.tables.exec = Jvm.exec) (hb : c.code = cX0_isRide) (hr : meth.sig.returnType = some .boolean) (hml : c.maxLocals = 3) (hown : s.vm.findClass RX0 = some m.cls) (hts : ∀ w ∈ (m_ws yX0_isRide cX0_isRide 3 (some .boolean)), w.before args s = true) (hlocks : meth.locks = false) (hin : meth.name = yX0_isRide.name) (hE : m_EV st A s s.heap) (hA : ∀ q, s.heap.size ≤ q → A q) {h : mH} (t0 : Int32) (H : Heap) (locs : List Loc) (ls : Array Slot) (hrun : s_X0_isRide_b43 h t0 = some r) (hR : Rl D ids A h s H) (hz : H.size = z) (hS : va_S A s.heap H locs) (hl : lv_has ls 3 []) : W p l e rm_X0_isRide s m args below meth c H locs 0 0 (MQ below (mQi D ids A r h z) args s 0 0 A) (F0 m 43 ls [.int t0]) := by
  unfold s_X0_isRide_b43 at hrun
  obtain ⟨w9, hzr, hrun⟩ := m_bind hrun
  obtain rfl := Option.some.inj hrun
  exact mr_zret hzr hx hb hr hlocks hR hz hS dX0_isRide_43
set_option maxRecDepth 100000 in
set_option maxHeartbeats 4000000 in
theorem k_X0_isRide_b42 {p : Program} {l : Launch} {e : Env} {s : State} {m : MethodId} {args : Array Value} {below : List Frame} {meth : Method} {c : Code} {D : va_G} {ids : m_I3} {st : m_T} {A : Nat → Prop} {z : Nat} {r : Int32} (hx : p.tables.exec = Jvm.exec) (hb : c.code = cX0_isRide) (hr : meth.sig.returnType = some .boolean) (hml : c.maxLocals = 3) (hown : s.vm.findClass RX0 = some m.cls) (hts : ∀ w ∈ (m_ws yX0_isRide cX0_isRide 3 (some .boolean)), w.before args s = true) (hlocks : meth.locks = false) (hin : meth.name = yX0_isRide.name) (hE : m_EV st A s s.heap) (hA : ∀ q, s.heap.size ≤ q → A q) {h : mH} (H : Heap) (locs : List Loc) (ls : Array Slot) (hrun : s_X0_isRide_b42 h  = some r) (hR : Rl D ids A h s H) (hz : H.size = z) (hS : va_S A s.heap H locs) (hl : lv_has ls 3 []) : W p l e rm_X0_isRide s m args below meth c H locs 0 0 (MQ below (mQi D ids A r h z) args s 0 0 A) (F0 m 42 ls []) := by
  unfold s_X0_isRide_b42 at hrun
  refine lv_iconst (v := 0) hx hb dX0_isRide_42 (by decide) ?_
  exact k_X0_isRide_b43 hx hb hr hml hown hts hlocks hin hE hA _ _ _ _ hrun hR hz hS (lv_sub hl [] rfl)
set_option maxRecDepth 100000 in
set_option maxHeartbeats 4000000 in
theorem c_X0_isRide (l : Launch) (D : va_G) (ids : m_I3) (st : m_T) (z : Nat) {h : mH} {v0 : Int32} {v1 : Int32} {v2 : Int32} {r : Int32} (hrun : s_X0_isRide h v0 v1 v2 = some r) : Met l yX0_isRide (m_ws yX0_isRide cX0_isRide 3 (some .boolean)) rm_X0_isRide (mPc D ids st [.int v0, .int v1, .int v2] h z) (mQi D ids (m_A h z) r h z) rm_X0_isRide.cells rm_X0_isRide.slots (m_A h z) := by
  refine mr_of (cc := cX0_isRide) (maxL := 3) (ret := some .boolean) (by decide) rfl (Nat.le_of_ble_eq_true rfl) ?_
  intro p e s m below meth c ls hx hb hr hml hown hts hlocks hin hR hE hz hl
  have hA : ∀ q, s.heap.size ≤ q → m_A h z q := fun q hq => Or.inr (by rw [← hz]; exact hq)
  have hS : va_S (m_A h z) s.heap s.heap [] := va_S.rf
  have hl : lv_has ls 3 [(0, .int v0), (1, .int v1), (2, .int v2)] := hl
  unfold s_X0_isRide at hrun
  refine lv_iload_n hx hb dX0_isRide_0 rfl (lv_at hl 0 rfl) ?_
  obtain ⟨x1, hc9, hrun⟩ := m_bind hrun
  refine mr_calli (mr_runS (As := [.int v0]) (rest := []) hx hb hml hown hts (c_X4_isIn l D ids st z hc9) yk_X4_isIn ys_X4_isIn wm_0_209 ⟨(Nat.le_of_ble_eq_true rfl), (Nat.le_of_ble_eq_true rfl)⟩ (mr_recvS hR hE hz hS hA) hl.1 rfl (Nat.le_of_ble_eq_true rfl) dX0_isRide_1 ⟨(Nat.le_of_ble_eq_true rfl), (Nat.le_of_ble_eq_true rfl)⟩) hR hz hS hA (fun H locs hR hz hS => ?_)
  refine lv_if_eq (tgt := 42) hx hb dX0_isRide_4 (by decide) (fun hc => ?_) (fun hc => ?_)
  · have hrun := mt_t hrun hc
    exact k_X0_isRide_b42 hx hb hr hml hown hts hlocks hin hE hA _ _ _ hrun hR hz hS (lv_sub hl [] rfl)
  · have hrun := mt_f hrun hc
    refine lv_iload_n hx hb dX0_isRide_7 rfl (lv_at hl 1 rfl) ?_
    obtain ⟨x8, hc9, hrun⟩ := m_bind hrun
    refine mr_calli (mr_runS (As := [.int v1]) (rest := []) hx hb hml hown hts (c_X4_isIn l D ids st z hc9) yk_X4_isIn ys_X4_isIn wm_0_209 ⟨(Nat.le_of_ble_eq_true rfl), (Nat.le_of_ble_eq_true rfl)⟩ (mr_recvS hR hE hz hS hA) hl.1 rfl (Nat.le_of_ble_eq_true rfl) dX0_isRide_8 ⟨(Nat.le_of_ble_eq_true rfl), (Nat.le_of_ble_eq_true rfl)⟩) hR hz hS hA (fun H locs hR hz hS => ?_)
    refine lv_if_ne (tgt := 42) hx hb dX0_isRide_11 (by decide) (fun hc => ?_) (fun hc => ?_)
    · have hrun := mt_f hrun hc
      exact k_X0_isRide_b42 hx hb hr hml hown hts hlocks hin hE hA _ _ _ hrun hR hz hS (lv_sub hl [] rfl)
    · have hrun := mt_t hrun hc
      refine lv_iload_n hx hb dX0_isRide_14 rfl (lv_at hl 0 rfl) ?_
      obtain ⟨x15, hc9, hrun⟩ := m_bind hrun
      refine mr_calli (mr_runS (As := [.int v0]) (rest := []) hx hb hml hown hts (c_X4_dayOf l D ids st z hc9) yk_X4_dayOf ys_X4_dayOf wm_0_212 ⟨(Nat.le_of_ble_eq_true rfl), (Nat.le_of_ble_eq_true rfl)⟩ (mr_recvS hR hE hz hS hA) hl.1 rfl (Nat.le_of_ble_eq_true rfl) dX0_isRide_15 ⟨(Nat.le_of_ble_eq_true rfl), (Nat.le_of_ble_eq_true rfl)⟩) hR hz hS hA (fun H locs hR hz hS => ?_)
      refine lv_iload_n hx hb dX0_isRide_18 rfl (lv_at hl 1 rfl) ?_
      obtain ⟨x19, hc9, hrun⟩ := m_bind hrun
      refine mr_calli (mr_runS (As := [.int v1]) (rest := [.int x15]) hx hb hml hown hts (c_X4_dayOf l D ids st z hc9) yk_X4_dayOf ys_X4_dayOf wm_0_212 ⟨(Nat.le_of_ble_eq_true rfl), (Nat.le_of_ble_eq_true rfl)⟩ (mr_recvS hR hE hz hS hA) hl.1 rfl (Nat.le_of_ble_eq_true rfl) dX0_isRide_19 ⟨(Nat.le_of_ble_eq_true rfl), (Nat.le_of_ble_eq_true rfl)⟩) hR hz hS hA (fun H locs hR hz hS => ?_)
      refine lv_icmp_ne (tgt := 42) hx hb dX0_isRide_22 (by decide) (fun hc => ?_) (fun hc => ?_)
      · have hrun := mt_f hrun hc
        exact k_X0_isRide_b42 hx hb hr hml hown hts hlocks hin hE hA _ _ _ hrun hR hz hS (lv_sub hl [] rfl)
      · have hrun := mt_t hrun hc
        refine lv_iload_n hx hb dX0_isRide_25 rfl (lv_at hl 1 rfl) ?_
        obtain ⟨x26, hc9, hrun⟩ := m_bind hrun
        refine mr_calli (mr_runS (As := [.int v1]) (rest := []) hx hb hml hown hts (c_X4_minuteOf l D ids st z hc9) yk_X4_minuteOf ys_X4_minuteOf wm_0_215 ⟨(Nat.le_of_ble_eq_true rfl), (Nat.le_of_ble_eq_true rfl)⟩ (mr_recvS hR hE hz hS hA) hl.1 rfl (Nat.le_of_ble_eq_true rfl) dX0_isRide_26 ⟨(Nat.le_of_ble_eq_true rfl), (Nat.le_of_ble_eq_true rfl)⟩) hR hz hS hA (fun H locs hR hz hS => ?_)
        refine lv_iload_n hx hb dX0_isRide_29 rfl (lv_at hl 0 rfl) ?_
        obtain ⟨x30, hc9, hrun⟩ := m_bind hrun
        refine mr_calli (mr_runS (As := [.int v0]) (rest := [.int x26]) hx hb hml hown hts (c_X4_minuteOf l D ids st z hc9) yk_X4_minuteOf ys_X4_minuteOf wm_0_215 ⟨(Nat.le_of_ble_eq_true rfl), (Nat.le_of_ble_eq_true rfl)⟩ (mr_recvS hR hE hz hS hA) hl.1 rfl (Nat.le_of_ble_eq_true rfl) dX0_isRide_30 ⟨(Nat.le_of_ble_eq_true rfl), (Nat.le_of_ble_eq_true rfl)⟩) hR hz hS hA (fun H locs hR hz hS => ?_)
        refine lv_isub hx hb dX0_isRide_33 ?_
        refine lv_iload_n hx hb dX0_isRide_34 rfl (lv_at hl 2 rfl) ?_
        refine lv_icmp_gt (tgt := 42) hx hb dX0_isRide_35 (by decide) (fun hc => ?_) (fun hc => ?_)
        · have hrun := mt_t hrun hc
          exact k_X0_isRide_b42 hx hb hr hml hown hts hlocks hin hE hA _ _ _ hrun hR hz hS (lv_sub hl [] rfl)
        · have hrun := mt_f hrun hc
          refine lv_iconst (v := 1) hx hb dX0_isRide_38 (by decide) ?_
          refine lv_goto (tgt := 43) hx hb dX0_isRide_39 (by decide) ?_
          exact k_X0_isRide_b43 hx hb hr hml hown hts hlocks hin hE hA _ _ _ _ hrun hR hz hS (lv_sub hl [] rfl)
/-! X0_findMates -/
abbrev rm_X0_findMates : Room := { frames := 2, cells := 0, slots := 0, locals := 42 }
theorem yk_X0_findMates : m_K yX0_findMates cX0_findMates 6 (none) 2 := ⟨wm_0_196, wm_0_5, by decide +kernel⟩
theorem ys_X0_findMates : Cond.instanceMethod yX0_findMates ∈ wT ∧ Cond.selects RX0 yX0_findMates yX0_findMates ∈ wT := ⟨wm_0_195, wp_0_0⟩
set_option maxRecDepth 100000 in
set_option maxHeartbeats 4000000 in
theorem k_X0_findMates_b87 {p : Program} {l : Launch} {e : Env} {s : State} {m : MethodId} {args : Array Value} {below : List Frame} {meth : Method} {c : Code} {D : va_G} {ids : m_I3} {st : m_T} {A : Nat → Prop} {z : Nat} {hF : mH} (hx : p.tables.exec = Jvm.exec) (hb : c.code = cX0_findMates) (hr : meth.sig.returnType = none) (hml : c.maxLocals = 6) (hown : s.vm.findClass RX0 = some m.cls) (hts : ∀ w ∈ (m_ws yX0_findMates cX0_findMates 6 (none)), w.before args s = true) (hlocks : meth.locks = false) (hin : meth.name = yX0_findMates.name) (hE : m_EV st A s s.heap) (hA : ∀ q, s.heap.size ≤ q → A q) {k18 : mH → Nat → Nat → Int32 → Int32 → Option (mH)} (hk18 : ∀ (h : mH) (v0 : Nat) (v1 : Nat) (v2 : Int32) (v3 : Int32) (H : Heap) (locs : List Loc) (ls : Array Slot), k18 h v0 v1 v2 v3 = some hF → Rl D ids A h s H → H.size = z → va_S A s.heap H locs → lv_has ls 6 [(0, .ref v0), (1, .ref v1), (2, .int v2), (3, .int v3)] → W p l e rm_X0_findMates s m args below meth c H locs 0 0 (MQ below (mQv D ids A hF z) args s 0 0 A) (F0 m 18 ls [])) (h : mH) (v0 : Nat) (v1 : Nat) (v2 : Int32) (v3 : Int32) (v4 : Int32) (H : Heap) (locs : List Loc) (ls : Array Slot) (hrun : s_X0_findMates_b87 k18 h v0 v1 v2 v3 v4 = some hF) (hR : Rl D ids A h s H) (hz : H.size = z) (hS : va_S A s.heap H locs) (hl : lv_has ls 6 [(0, .ref v0), (1, .ref v1), (2, .int v2), (3, .int v3), (4, .int v4)]) : W p l e rm_X0_findMates s m args below meth c H locs 0 0 (MQ below (mQv D ids A hF z) args s 0 0 A) (F0 m 87 ls []) := by
  unfold s_X0_findMates_b87 at hrun
  refine lv_aload_n hx hb dX0_findMates_87 rfl (lv_at hl 0 rfl) ?_
  obtain ⟨x88, hc9, hrun⟩ := m_bind hrun
  refine mr_get (C := RX0) (T := TX0) (N := 9) (ci := 0) hx hb hts (fun w q => m_ws_in (wi_X0 w q)) hown hR rfl 6 (by decide) (hts _ (m_ws_in wm_0_111)) (fun _ h9 => h9) (m_gr_spec hc9) dX0_findMates_88 ?_
  refine lv_iload hx hb dX0_findMates_91 (lv_at hl 4 rfl) ?_
  obtain ⟨x93, hc9, hrun⟩ := m_bind hrun
  refine mr_calli (mr_runS (As := [.int v4]) (rest := [.ref x88]) hx hb hml hown hts (c_X4_walletOf l D ids st z hc9) yk_X4_walletOf ys_X4_walletOf wm_0_203 ⟨(Nat.le_of_ble_eq_true rfl), (Nat.le_of_ble_eq_true rfl)⟩ (mr_recvS hR hE hz hS hA) hl.1 rfl (Nat.le_of_ble_eq_true rfl) dX0_findMates_93 ⟨(Nat.le_of_ble_eq_true rfl), (Nat.le_of_ble_eq_true rfl)⟩) hR hz hS hA (fun H locs hR hz hS => ?_)
  refine lv_iload_n hx hb dX0_findMates_96 rfl (lv_at hl 3 rfl) ?_
  obtain ⟨h97, hc9, hrun⟩ := m_bind hrun
  refine mr_callv (mr_runS (As := [.ref x88, .int x93, .int v3]) (rest := []) hx hb hml hown hts (c_X1_put l D ids st z hc9) yk_X1_put ys_X1_put wm_0_218 ⟨(Nat.le_of_ble_eq_true rfl), (Nat.le_of_ble_eq_true rfl)⟩ (mr_recvS hR hE hz hS hA) hl.1 rfl (Nat.le_of_ble_eq_true rfl) dX0_findMates_97 ⟨(Nat.le_of_ble_eq_true rfl), (Nat.le_of_ble_eq_true rfl)⟩) hR hz hS hA (fun H locs hR hz hS => ?_)
  refine lv_iinc (v := v3 + 1) (lv' := [(3, .int (v3 + 1)), (0, .ref v0), (1, .ref v1), (2, .int v2), (4, .int v4)]) hx hb dX0_findMates_100 hl (k := 3) rfl rfl (by decide) rfl (fun ls hl => ?_)
  refine lv_goto (tgt := 18) hx hb dX0_findMates_103 (by decide) ?_
  exact hk18 _ _ _ _ _ _ _ _ hrun hR hz hS (lv_sub hl [1, 2, 3, 0] rfl)
set_option maxRecDepth 100000 in
set_option maxHeartbeats 4000000 in
theorem k_X0_findMates_L18 {p : Program} {l : Launch} {e : Env} {s : State} {m : MethodId} {args : Array Value} {below : List Frame} {meth : Method} {c : Code} {D : va_G} {ids : m_I3} {st : m_T} {A : Nat → Prop} {z : Nat} {hF : mH} (hx : p.tables.exec = Jvm.exec) (hb : c.code = cX0_findMates) (hr : meth.sig.returnType = none) (hml : c.maxLocals = 6) (hown : s.vm.findClass RX0 = some m.cls) (hts : ∀ w ∈ (m_ws yX0_findMates cX0_findMates 6 (none)), w.before args s = true) (hlocks : meth.locks = false) (hin : meth.name = yX0_findMates.name) (hE : m_EV st A s s.heap) (hA : ∀ q, s.heap.size ≤ q → A q) : ∀ (n : Nat) (h : mH) (v0 : Nat) (v1 : Nat) (v2 : Int32) (v3 : Int32) (H : Heap) (locs : List Loc) (ls : Array Slot), s_X0_findMates_L18 n h v0 v1 v2 v3 = some hF → Rl D ids A h s H → H.size = z → va_S A s.heap H locs → lv_has ls 6 [(0, .ref v0), (1, .ref v1), (2, .int v2), (3, .int v3)] → W p l e rm_X0_findMates s m args below meth c H locs 0 0 (MQ below (mQv D ids A hF z) args s 0 0 A) (F0 m 18 ls []) := by
  intro n
  induction n with
  | zero => intro h v0 v1 v2 v3 H locs ls hrun; exact absurd hrun (by intro h9; cases h9)
  | succ n ih =>
    intro h v0 v1 v2 v3 H locs ls hrun hR hz hS hl
    rw [s_X0_findMates_L18] at hrun
    refine lv_iload_n hx hb dX0_findMates_18 rfl (lv_at hl 3 rfl) ?_
    refine lv_aload_n hx hb dX0_findMates_19 rfl (lv_at hl 1 rfl) ?_
    obtain ⟨x20, hc9, hrun⟩ := m_bind hrun
    refine mr_getN (C := RX5) (T := TX5) (N := 2) (ci := 3) hx hb hts (fun w q => m_ws_in (wi_X5 w q)) hown hR rfl 1 (by decide) (hE.nf (i := 1) rfl) (fun _ h9 => h9) (m_gi_spec hc9) dX0_findMates_20 ?_
    refine lv_icmp_ge (tgt := 106) hx hb dX0_findMates_23 (by decide) (fun hc => ?_) (fun hc => ?_)
    · have hrun := mt_t hrun hc
      obtain rfl := Option.some.inj hrun
      exact mr_vret hx hb hr hlocks hR hz hS dX0_findMates_106
    · have hrun := mt_f hrun hc
      refine lv_aload_n hx hb dX0_findMates_26 rfl (lv_at hl 1 rfl) ?_
      refine lv_iload_n hx hb dX0_findMates_27 rfl (lv_at hl 3 rfl) ?_
      obtain ⟨_, ho9, hrun⟩ := m_bind hrun
      obtain ⟨fs9, ho9⟩ := m_is_spec ho9
      obtain ⟨x28, hc9, hrun⟩ := m_bind hrun
      refine mr_calli (mr_runV (As := [.int v3]) (rest := []) hx hb hml hown hts (c_X5_tapAt l D ids st z hc9) yk_X5_tapAt ys_X5_tapAt wm_0_198 ⟨(Nat.le_of_ble_eq_true rfl), (Nat.le_of_ble_eq_true rfl)⟩ (mr_recv (ci := 3) hR hE hz hS hA rfl ho9) hl.1 rfl (Nat.le_of_ble_eq_true rfl) dX0_findMates_28 ⟨(Nat.le_of_ble_eq_true rfl), (Nat.le_of_ble_eq_true rfl)⟩) hR hz hS hA (fun H locs hR hz hS => ?_)
      refine lv_istore (lv' := [(4, .int x28), (0, .ref v0), (1, .ref v1), (2, .int v2), (3, .int v3)]) hx hb dX0_findMates_31 hl (by decide) rfl (fun ls hl => ?_)
      refine lv_aload_n hx hb dX0_findMates_33 rfl (lv_at hl 1 rfl) ?_
      obtain ⟨x34, hc9, hrun⟩ := m_bind hrun
      refine mr_get (C := RX0) (T := TX0) (N := 9) (ci := 0) hx hb hts (fun w q => m_ws_in (wi_X0 w q)) hown hR rfl 6 (by decide) (hts _ (m_ws_in wm_0_111)) (fun _ h9 => h9) (m_gr_spec hc9) dX0_findMates_34 ?_
      refine lv_iload hx hb dX0_findMates_37 (lv_at hl 0 rfl) ?_
      obtain ⟨x39, hc9, hrun⟩ := m_bind hrun
      refine mr_calli (mr_runS (As := [.int x28]) (rest := [.ref x34]) hx hb hml hown hts (c_X4_walletOf l D ids st z hc9) yk_X4_walletOf ys_X4_walletOf wm_0_203 ⟨(Nat.le_of_ble_eq_true rfl), (Nat.le_of_ble_eq_true rfl)⟩ (mr_recvS hR hE hz hS hA) hl.1 rfl (Nat.le_of_ble_eq_true rfl) dX0_findMates_39 ⟨(Nat.le_of_ble_eq_true rfl), (Nat.le_of_ble_eq_true rfl)⟩) hR hz hS hA (fun H locs hR hz hS => ?_)
      obtain ⟨x42, hc9, hrun⟩ := m_bind hrun
      refine mr_calli (mr_runS (As := [.ref x34, .int x39]) (rest := []) hx hb hml hown hts (c_X1_at l D ids st z hc9) yk_X1_at ys_X1_at wm_0_190 ⟨(Nat.le_of_ble_eq_true rfl), (Nat.le_of_ble_eq_true rfl)⟩ (mr_recvS hR hE hz hS hA) hl.1 rfl (Nat.le_of_ble_eq_true rfl) dX0_findMates_42 ⟨(Nat.le_of_ble_eq_true rfl), (Nat.le_of_ble_eq_true rfl)⟩) hR hz hS hA (fun H locs hR hz hS => ?_)
      refine lv_istore (lv' := [(5, .int x42), (4, .int x28), (0, .ref v0), (1, .ref v1), (2, .int v2), (3, .int v3)]) hx hb dX0_findMates_45 hl (by decide) rfl (fun ls hl => ?_)
      refine lv_iload hx hb dX0_findMates_47 (lv_at hl 0 rfl) ?_
      refine lv_if_lt (tgt := 87) hx hb dX0_findMates_49 (by decide) (fun hc => ?_) (fun hc => ?_)
      · have hrun := mt_t hrun hc
        exact k_X0_findMates_b87 hx hb hr hml hown hts hlocks hin hE hA ih _ _ _ _ _ _ _ _ _ hrun hR hz hS (lv_sub hl [2, 3, 4, 5, 1] rfl)
      · have hrun := mt_f hrun hc
        refine lv_aload_n hx hb dX0_findMates_52 rfl (lv_at hl 3 rfl) ?_
        refine lv_iload hx hb dX0_findMates_53 (lv_at hl 0 rfl) ?_
        obtain ⟨_, ho9, hrun⟩ := m_bind hrun
        obtain ⟨fs9, ho9⟩ := m_is_spec ho9
        obtain ⟨x55, hc9, hrun⟩ := m_bind hrun
        refine mr_calli (mr_runV (As := [.int x42]) (rest := []) hx hb hml hown hts (c_X5_tapAt l D ids st z hc9) yk_X5_tapAt ys_X5_tapAt wm_0_198 ⟨(Nat.le_of_ble_eq_true rfl), (Nat.le_of_ble_eq_true rfl)⟩ (mr_recv (ci := 3) hR hE hz hS hA rfl ho9) hl.1 rfl (Nat.le_of_ble_eq_true rfl) dX0_findMates_55 ⟨(Nat.le_of_ble_eq_true rfl), (Nat.le_of_ble_eq_true rfl)⟩) hR hz hS hA (fun H locs hR hz hS => ?_)
        refine lv_iload hx hb dX0_findMates_58 (lv_at hl 1 rfl) ?_
        refine lv_iload_n hx hb dX0_findMates_60 rfl (lv_at hl 4 rfl) ?_
        obtain ⟨x61, hc9, hrun⟩ := m_bind hrun
        refine mr_calli (mr_runS (As := [.int x55, .int x28, .int v2]) (rest := []) hx hb hml hown hts (c_X0_isRide l D ids st z hc9) yk_X0_isRide ys_X0_isRide wm_0_206 ⟨(Nat.le_of_ble_eq_true rfl), (Nat.le_of_ble_eq_true rfl)⟩ (mr_recvS hR hE hz hS hA) hl.1 rfl (Nat.le_of_ble_eq_true rfl) dX0_findMates_61 ⟨(Nat.le_of_ble_eq_true rfl), (Nat.le_of_ble_eq_true rfl)⟩) hR hz hS hA (fun H locs hR hz hS => ?_)
        refine lv_if_eq (tgt := 87) hx hb dX0_findMates_64 (by decide) (fun hc => ?_) (fun hc => ?_)
        · have hrun := mt_t hrun hc
          exact k_X0_findMates_b87 hx hb hr hml hown hts hlocks hin hE hA ih _ _ _ _ _ _ _ _ _ hrun hR hz hS (lv_sub hl [2, 3, 4, 5, 1] rfl)
        · have hrun := mt_f hrun hc
          refine lv_aload_n hx hb dX0_findMates_67 rfl (lv_at hl 2 rfl) ?_
          obtain ⟨x68, hc9, hrun⟩ := m_bind hrun
          refine mr_get (C := RX0) (T := TX0) (N := 9) (ci := 0) hx hb hts (fun w q => m_ws_in (wi_X0 w q)) hown hR rfl 0 (by decide) (hts _ (m_ws_in wm_0_99)) (fun _ h9 => h9) (m_gr_spec hc9) dX0_findMates_68 ?_
          refine lv_iload hx hb dX0_findMates_71 (lv_at hl 0 rfl) ?_
          refine lv_iload_n hx hb dX0_findMates_73 rfl (lv_at hl 5 rfl) ?_
          obtain ⟨h74, hc9, hrun⟩ := m_bind hrun
          refine mr_callv (mr_runS (As := [.ref x68, .int x42, .int v3]) (rest := []) hx hb hml hown hts (c_X1_put l D ids st z hc9) yk_X1_put ys_X1_put wm_0_218 ⟨(Nat.le_of_ble_eq_true rfl), (Nat.le_of_ble_eq_true rfl)⟩ (mr_recvS hR hE hz hS hA) hl.1 rfl (Nat.le_of_ble_eq_true rfl) dX0_findMates_74 ⟨(Nat.le_of_ble_eq_true rfl), (Nat.le_of_ble_eq_true rfl)⟩) hR hz hS hA (fun H locs hR hz hS => ?_)
          refine lv_aload_n hx hb dX0_findMates_77 rfl (lv_at hl 2 rfl) ?_
          obtain ⟨x78, hc9, hrun⟩ := m_bind hrun
          refine mr_get (C := RX0) (T := TX0) (N := 9) (ci := 0) hx hb hts (fun w q => m_ws_in (wi_X0 w q)) hown hR rfl 0 (by decide) (hts _ (m_ws_in wm_0_99)) (fun _ h9 => h9) (m_gr_spec hc9) dX0_findMates_78 ?_
          refine lv_iload_n hx hb dX0_findMates_81 rfl (lv_at hl 5 rfl) ?_
          refine lv_iload hx hb dX0_findMates_82 (lv_at hl 0 rfl) ?_
          obtain ⟨h84, hc9, hrun⟩ := m_bind hrun
          refine mr_callv (mr_runS (As := [.ref x78, .int v3, .int x42]) (rest := []) hx hb hml hown hts (c_X1_put l D ids st z hc9) yk_X1_put ys_X1_put wm_0_218 ⟨(Nat.le_of_ble_eq_true rfl), (Nat.le_of_ble_eq_true rfl)⟩ (mr_recvS hR hE hz hS hA) hl.1 rfl (Nat.le_of_ble_eq_true rfl) dX0_findMates_84 ⟨(Nat.le_of_ble_eq_true rfl), (Nat.le_of_ble_eq_true rfl)⟩) hR hz hS hA (fun H locs hR hz hS => ?_)
          exact k_X0_findMates_b87 hx hb hr hml hown hts hlocks hin hE hA ih _ _ _ _ _ _ _ _ _ hrun hR hz hS (lv_sub hl [2, 3, 4, 5, 1] rfl)
set_option maxRecDepth 100000 in
set_option maxHeartbeats 4000000 in
theorem c_X0_findMates (l : Launch) (D : va_G) (ids : m_I3) (st : m_T) (z : Nat) {h : mH} {v0 : Nat} {v1 : Nat} {v2 : Int32} {hF : mH} (hrun : s_X0_findMates h v0 v1 v2 = some hF) : Met l yX0_findMates (m_ws yX0_findMates cX0_findMates 6 (none)) rm_X0_findMates (mPc D ids st [.ref v0, .ref v1, .int v2] h z) (mQv D ids (m_A h z) hF z) rm_X0_findMates.cells rm_X0_findMates.slots (m_A h z) := by
  refine mr_of (cc := cX0_findMates) (maxL := 6) (ret := none) (by decide) rfl (Nat.le_of_ble_eq_true rfl) ?_
  intro p e s m below meth c ls hx hb hr hml hown hts hlocks hin hR hE hz hl
  have hA : ∀ q, s.heap.size ≤ q → m_A h z q := fun q hq => Or.inr (by rw [← hz]; exact hq)
  have hS : va_S (m_A h z) s.heap s.heap [] := va_S.rf
  have hl : lv_has ls 6 [(0, .ref v0), (1, .ref v1), (2, .int v2)] := hl
  unfold s_X0_findMates at hrun
  refine lv_aload_n hx hb dX0_findMates_0 rfl (lv_at hl 0 rfl) ?_
  obtain ⟨x1, hc9, hrun⟩ := m_bind hrun
  refine mr_get (C := RX0) (T := TX0) (N := 9) (ci := 0) hx hb hts (fun w q => m_ws_in (wi_X0 w q)) hown hR rfl 0 (by decide) (hts _ (m_ws_in wm_0_99)) (fun _ h9 => h9) (m_gr_spec hc9) dX0_findMates_1 ?_
  refine lv_iconst (v := (-1)) hx hb dX0_findMates_4 (by decide) ?_
  obtain ⟨h5, hc9, hrun⟩ := m_bind hrun
  refine mr_callv (mr_runS (As := [.ref x1, .int (-1)]) (rest := []) hx hb hml hown hts (c_X1_fill l D ids st z hc9) yk_X1_fill ys_X1_fill wm_0_197 ⟨(Nat.le_of_ble_eq_true rfl), (Nat.le_of_ble_eq_true rfl)⟩ (mr_recvS hR hE hz hS hA) hl.1 rfl (Nat.le_of_ble_eq_true rfl) dX0_findMates_5 ⟨(Nat.le_of_ble_eq_true rfl), (Nat.le_of_ble_eq_true rfl)⟩) hR hz hS hA (fun H locs hR hz hS => ?_)
  refine lv_aload_n hx hb dX0_findMates_8 rfl (lv_at hl 0 rfl) ?_
  obtain ⟨x9, hc9, hrun⟩ := m_bind hrun
  refine mr_get (C := RX0) (T := TX0) (N := 9) (ci := 0) hx hb hts (fun w q => m_ws_in (wi_X0 w q)) hown hR rfl 6 (by decide) (hts _ (m_ws_in wm_0_111)) (fun _ h9 => h9) (m_gr_spec hc9) dX0_findMates_9 ?_
  refine lv_iconst (v := (-1)) hx hb dX0_findMates_12 (by decide) ?_
  obtain ⟨h13, hc9, hrun⟩ := m_bind hrun
  refine mr_callv (mr_runS (As := [.ref x9, .int (-1)]) (rest := []) hx hb hml hown hts (c_X1_fill l D ids st z hc9) yk_X1_fill ys_X1_fill wm_0_197 ⟨(Nat.le_of_ble_eq_true rfl), (Nat.le_of_ble_eq_true rfl)⟩ (mr_recvS hR hE hz hS hA) hl.1 rfl (Nat.le_of_ble_eq_true rfl) dX0_findMates_13 ⟨(Nat.le_of_ble_eq_true rfl), (Nat.le_of_ble_eq_true rfl)⟩) hR hz hS hA (fun H locs hR hz hS => ?_)
  refine lv_iconst (v := 0) hx hb dX0_findMates_16 (by decide) ?_
  refine lv_istore_n (lv' := [(3, .int 0), (0, .ref v0), (1, .ref v1), (2, .int v2)]) hx hb dX0_findMates_17 rfl hl (by decide) rfl (fun ls hl => ?_)
  exact k_X0_findMates_L18 hx hb hr hml hown hts hlocks hin hE hA _ _ _ _ _ _ _ _ _ hrun hR hz hS (lv_sub hl [1, 2, 3, 0] rfl)
/-! X4_zoneOf -/
abbrev rm_X4_zoneOf : Room := { frames := 1, cells := 0, slots := 0, locals := 20 }
theorem yk_X4_zoneOf : m_K yX4_zoneOf cX4_zoneOf 1 (some .int) 1 := ⟨wm_0_227, wm_0_8, by decide +kernel⟩
theorem ys_X4_zoneOf : Cond.static yX4_zoneOf ∈ wT := wm_0_226
set_option maxRecDepth 100000 in
set_option maxHeartbeats 4000000 in
theorem c_X4_zoneOf (l : Launch) (D : va_G) (ids : m_I3) (st : m_T) (z : Nat) {h : mH} {v0 : Int32} {r : Int32} (hrun : s_X4_zoneOf h v0 = some r) : Met l yX4_zoneOf (m_ws yX4_zoneOf cX4_zoneOf 1 (some .int)) rm_X4_zoneOf (mPc D ids st [.int v0] h z) (mQi D ids (m_A h z) r h z) rm_X4_zoneOf.cells rm_X4_zoneOf.slots (m_A h z) := by
  refine mr_of (cc := cX4_zoneOf) (maxL := 1) (ret := some .int) (by decide) rfl (Nat.le_of_ble_eq_true rfl) ?_
  intro p e s m below meth c ls hx hb hr hml hown hts hlocks hin hR hE hz hl
  have hA : ∀ q, s.heap.size ≤ q → m_A h z q := fun q hq => Or.inr (by rw [← hz]; exact hq)
  have hS : va_S (m_A h z) s.heap s.heap [] := va_S.rf
  have hl : lv_has ls 1 [(0, .int v0)] := hl
  unfold s_X4_zoneOf at hrun
  refine lv_iload_n hx hb dX4_zoneOf_0 rfl (lv_at hl 0 rfl) ?_
  obtain ⟨x1, hc9, hrun⟩ := m_bind hrun
  refine mr_calli (mr_runS (As := [.int v0]) (rest := []) hx hb hml hown hts (c_X4_stationOf l D ids st z hc9) yk_X4_stationOf ys_X4_stationOf wm_0_228 ⟨(Nat.le_of_ble_eq_true rfl), (Nat.le_of_ble_eq_true rfl)⟩ (mr_recvS hR hE hz hS hA) hl.1 rfl (Nat.le_of_ble_eq_true rfl) dX4_zoneOf_1 ⟨(Nat.le_of_ble_eq_true rfl), (Nat.le_of_ble_eq_true rfl)⟩) hR hz hS hA (fun H locs hR hz hS => ?_)
  refine lv_iconst (v := 2) hx hb dX4_zoneOf_4 (by decide) ?_
  obtain ⟨x5, hc9, hrun⟩ := m_bind hrun
  obtain ⟨hn9, rfl⟩ := m_div_spec hc9
  refine lv_idiv hx hb dX4_zoneOf_5 hn9 ?_
  refine lv_topi (fun x5 ex5 => ?_)
  try rw [← ex5] at hrun
  obtain rfl := Option.some.inj hrun
  exact mr_iret hx hb hr hlocks hR hz hS dX4_zoneOf_6
/-! X0_findFares -/
abbrev rm_X0_findFares : Room := { frames := 2, cells := 0, slots := 0, locals := 42 }
theorem yk_X0_findFares : m_K yX0_findFares cX0_findFares 7 (none) 2 := ⟨wm_0_224, wm_0_5, by decide +kernel⟩
theorem ys_X0_findFares : Cond.instanceMethod yX0_findFares ∈ wT ∧ Cond.selects RX0 yX0_findFares yX0_findFares ∈ wT := ⟨wm_0_223, wp_0_1⟩
set_option maxRecDepth 100000 in
set_option maxHeartbeats 4000000 in
theorem k_X0_findFares_b72 {p : Program} {l : Launch} {e : Env} {s : State} {m : MethodId} {args : Array Value} {below : List Frame} {meth : Method} {c : Code} {D : va_G} {ids : m_I3} {st : m_T} {A : Nat → Prop} {z : Nat} {hF : mH} (hx : p.tables.exec = Jvm.exec) (hb : c.code = cX0_findFares) (hr : meth.sig.returnType = none) (hml : c.maxLocals = 7) (hown : s.vm.findClass RX0 = some m.cls) (hts : ∀ w ∈ (m_ws yX0_findFares cX0_findFares 7 (none)), w.before args s = true) (hlocks : meth.locks = false) (hin : meth.name = yX0_findFares.name) (hE : m_EV st A s s.heap) (hA : ∀ q, s.heap.size ≤ q → A q) {k2 : mH → Nat → Nat → Nat → Int32 → Option (mH)} (hk2 : ∀ (h : mH) (v0 : Nat) (v1 : Nat) (v2 : Nat) (v3 : Int32) (H : Heap) (locs : List Loc) (ls : Array Slot), k2 h v0 v1 v2 v3 = some hF → Rl D ids A h s H → H.size = z → va_S A s.heap H locs → lv_has ls 7 [(0, .ref v0), (1, .ref v1), (2, .ref v2), (3, .int v3)] → W p l e rm_X0_findFares s m args below meth c H locs 0 0 (MQ below (mQv D ids A hF z) args s 0 0 A) (F0 m 2 ls [])) (h : mH) (v0 : Nat) (v1 : Nat) (v2 : Nat) (v3 : Int32) (v5 : Int32) (H : Heap) (locs : List Loc) (ls : Array Slot) (hrun : s_X0_findFares_b72 k2 h v0 v1 v2 v3 v5 = some hF) (hR : Rl D ids A h s H) (hz : H.size = z) (hS : va_S A s.heap H locs) (hl : lv_has ls 7 [(0, .ref v0), (1, .ref v1), (2, .ref v2), (3, .int v3), (5, .int v5)]) : W p l e rm_X0_findFares s m args below meth c H locs 0 0 (MQ below (mQv D ids A hF z) args s 0 0 A) (F0 m 72 ls []) := by
  unfold s_X0_findFares_b72 at hrun
  refine lv_aload_n hx hb dX0_findFares_72 rfl (lv_at hl 0 rfl) ?_
  obtain ⟨x73, hc9, hrun⟩ := m_bind hrun
  refine mr_get (C := RX0) (T := TX0) (N := 9) (ci := 0) hx hb hts (fun w q => m_ws_in (wi_X0 w q)) hown hR rfl 1 (by decide) (hts _ (m_ws_in wm_0_101)) (fun _ h9 => h9) (m_gr_spec hc9) dX0_findFares_73 ?_
  refine lv_iload_n hx hb dX0_findFares_76 rfl (lv_at hl 3 rfl) ?_
  refine lv_iload hx hb dX0_findFares_77 (lv_at hl 4 rfl) ?_
  obtain ⟨h79, hc9, hrun⟩ := m_bind hrun
  refine mr_callv (mr_runS (As := [.ref x73, .int v3, .int v5]) (rest := []) hx hb hml hown hts (c_X1_put l D ids st z hc9) yk_X1_put ys_X1_put wm_0_218 ⟨(Nat.le_of_ble_eq_true rfl), (Nat.le_of_ble_eq_true rfl)⟩ (mr_recvS hR hE hz hS hA) hl.1 rfl (Nat.le_of_ble_eq_true rfl) dX0_findFares_79 ⟨(Nat.le_of_ble_eq_true rfl), (Nat.le_of_ble_eq_true rfl)⟩) hR hz hS hA (fun H locs hR hz hS => ?_)
  refine lv_iinc (v := v3 + 1) (lv' := [(3, .int (v3 + 1)), (0, .ref v0), (1, .ref v1), (2, .ref v2), (5, .int v5)]) hx hb dX0_findFares_82 hl (k := 3) rfl rfl (by decide) rfl (fun ls hl => ?_)
  refine lv_goto (tgt := 2) hx hb dX0_findFares_85 (by decide) ?_
  exact hk2 _ _ _ _ _ _ _ _ hrun hR hz hS (lv_sub hl [1, 2, 3, 0] rfl)
set_option maxRecDepth 100000 in
set_option maxHeartbeats 4000000 in
theorem k_X0_findFares_L2 {p : Program} {l : Launch} {e : Env} {s : State} {m : MethodId} {args : Array Value} {below : List Frame} {meth : Method} {c : Code} {D : va_G} {ids : m_I3} {st : m_T} {A : Nat → Prop} {z : Nat} {hF : mH} (hx : p.tables.exec = Jvm.exec) (hb : c.code = cX0_findFares) (hr : meth.sig.returnType = none) (hml : c.maxLocals = 7) (hown : s.vm.findClass RX0 = some m.cls) (hts : ∀ w ∈ (m_ws yX0_findFares cX0_findFares 7 (none)), w.before args s = true) (hlocks : meth.locks = false) (hin : meth.name = yX0_findFares.name) (hE : m_EV st A s s.heap) (hA : ∀ q, s.heap.size ≤ q → A q) : ∀ (n : Nat) (h : mH) (v0 : Nat) (v1 : Nat) (v2 : Nat) (v3 : Int32) (H : Heap) (locs : List Loc) (ls : Array Slot), s_X0_findFares_L2 n h v0 v1 v2 v3 = some hF → Rl D ids A h s H → H.size = z → va_S A s.heap H locs → lv_has ls 7 [(0, .ref v0), (1, .ref v1), (2, .ref v2), (3, .int v3)] → W p l e rm_X0_findFares s m args below meth c H locs 0 0 (MQ below (mQv D ids A hF z) args s 0 0 A) (F0 m 2 ls []) := by
  intro n
  induction n with
  | zero => intro h v0 v1 v2 v3 H locs ls hrun; exact absurd hrun (by intro h9; cases h9)
  | succ n ih =>
    intro h v0 v1 v2 v3 H locs ls hrun hR hz hS hl
    rw [s_X0_findFares_L2] at hrun
    refine lv_iload_n hx hb dX0_findFares_2 rfl (lv_at hl 3 rfl) ?_
    refine lv_aload_n hx hb dX0_findFares_3 rfl (lv_at hl 1 rfl) ?_
    obtain ⟨x4, hc9, hrun⟩ := m_bind hrun
    refine mr_getN (C := RX5) (T := TX5) (N := 2) (ci := 3) hx hb hts (fun w q => m_ws_in (wi_X5 w q)) hown hR rfl 1 (by decide) (hE.nf (i := 1) rfl) (fun _ h9 => h9) (m_gi_spec hc9) dX0_findFares_4 ?_
    refine lv_icmp_ge (tgt := 88) hx hb dX0_findFares_7 (by decide) (fun hc => ?_) (fun hc => ?_)
    · have hrun := mt_t hrun hc
      obtain rfl := Option.some.inj hrun
      exact mr_vret hx hb hr hlocks hR hz hS dX0_findFares_88
    · have hrun := mt_f hrun hc
      refine lv_aload_n hx hb dX0_findFares_10 rfl (lv_at hl 0 rfl) ?_
      obtain ⟨x11, hc9, hrun⟩ := m_bind hrun
      refine mr_get (C := RX0) (T := TX0) (N := 9) (ci := 0) hx hb hts (fun w q => m_ws_in (wi_X0 w q)) hown hR rfl 0 (by decide) (hts _ (m_ws_in wm_0_99)) (fun _ h9 => h9) (m_gr_spec hc9) dX0_findFares_11 ?_
      refine lv_iload_n hx hb dX0_findFares_14 rfl (lv_at hl 3 rfl) ?_
      obtain ⟨x15, hc9, hrun⟩ := m_bind hrun
      refine mr_calli (mr_runS (As := [.ref x11, .int v3]) (rest := []) hx hb hml hown hts (c_X1_at l D ids st z hc9) yk_X1_at ys_X1_at wm_0_190 ⟨(Nat.le_of_ble_eq_true rfl), (Nat.le_of_ble_eq_true rfl)⟩ (mr_recvS hR hE hz hS hA) hl.1 rfl (Nat.le_of_ble_eq_true rfl) dX0_findFares_15 ⟨(Nat.le_of_ble_eq_true rfl), (Nat.le_of_ble_eq_true rfl)⟩) hR hz hS hA (fun H locs hR hz hS => ?_)
      refine lv_istore (lv' := [(4, .int x15), (0, .ref v0), (1, .ref v1), (2, .ref v2), (3, .int v3)]) hx hb dX0_findFares_18 hl (by decide) rfl (fun ls hl => ?_)
      refine lv_aload_n hx hb dX0_findFares_20 rfl (lv_at hl 3 rfl) ?_
      refine lv_iconst (v := 2) hx hb dX0_findFares_21 (by decide) ?_
      obtain ⟨x22, hc9, hrun⟩ := m_bind hrun
      refine mr_calli (mr_runS (As := [.ref v2, .int 2]) (rest := []) hx hb hml hown hts (c_X1_at l D ids st z hc9) yk_X1_at ys_X1_at wm_0_190 ⟨(Nat.le_of_ble_eq_true rfl), (Nat.le_of_ble_eq_true rfl)⟩ (mr_recvS hR hE hz hS hA) hl.1 rfl (Nat.le_of_ble_eq_true rfl) dX0_findFares_22 ⟨(Nat.le_of_ble_eq_true rfl), (Nat.le_of_ble_eq_true rfl)⟩) hR hz hS hA (fun H locs hR hz hS => ?_)
      refine lv_istore (lv' := [(5, .int x22), (4, .int x15), (0, .ref v0), (1, .ref v1), (2, .ref v2), (3, .int v3)]) hx hb dX0_findFares_25 hl (by decide) rfl (fun ls hl => ?_)
      refine lv_iload hx hb dX0_findFares_27 (lv_at hl 1 rfl) ?_
      refine lv_iconst (v := (-1)) hx hb dX0_findFares_29 (by decide) ?_
      refine lv_icmp_eq (tgt := 72) hx hb dX0_findFares_30 (by decide) (fun hc => ?_) (fun hc => ?_)
      · have hrun := mt_t hrun hc
        exact k_X0_findFares_b72 hx hb hr hml hown hts hlocks hin hE hA ih _ _ _ _ _ _ _ _ _ hrun hR hz hS (lv_sub hl [2, 3, 4, 5, 0] rfl)
      · have hrun := mt_f hrun hc
        refine lv_aload_n hx hb dX0_findFares_33 rfl (lv_at hl 3 rfl) ?_
        refine lv_iload_n hx hb dX0_findFares_34 rfl (lv_at hl 5 rfl) ?_
        obtain ⟨_, ho9, hrun⟩ := m_bind hrun
        obtain ⟨fs9, ho9⟩ := m_is_spec ho9
        obtain ⟨x35, hc9, hrun⟩ := m_bind hrun
        refine mr_calli (mr_runV (As := [.int v3]) (rest := []) hx hb hml hown hts (c_X5_tapAt l D ids st z hc9) yk_X5_tapAt ys_X5_tapAt wm_0_198 ⟨(Nat.le_of_ble_eq_true rfl), (Nat.le_of_ble_eq_true rfl)⟩ (mr_recv (ci := 3) hR hE hz hS hA rfl ho9) hl.1 rfl (Nat.le_of_ble_eq_true rfl) dX0_findFares_35 ⟨(Nat.le_of_ble_eq_true rfl), (Nat.le_of_ble_eq_true rfl)⟩) hR hz hS hA (fun H locs hR hz hS => ?_)
        obtain ⟨x38, hc9, hrun⟩ := m_bind hrun
        refine mr_calli (mr_runS (As := [.int x35]) (rest := []) hx hb hml hown hts (c_X4_zoneOf l D ids st z hc9) yk_X4_zoneOf ys_X4_zoneOf wm_0_225 ⟨(Nat.le_of_ble_eq_true rfl), (Nat.le_of_ble_eq_true rfl)⟩ (mr_recvS hR hE hz hS hA) hl.1 rfl (Nat.le_of_ble_eq_true rfl) dX0_findFares_38 ⟨(Nat.le_of_ble_eq_true rfl), (Nat.le_of_ble_eq_true rfl)⟩) hR hz hS hA (fun H locs hR hz hS => ?_)
        refine lv_aload_n hx hb dX0_findFares_41 rfl (lv_at hl 3 rfl) ?_
        refine lv_iload hx hb dX0_findFares_42 (lv_at hl 1 rfl) ?_
        obtain ⟨_, ho9, hrun⟩ := m_bind hrun
        obtain ⟨fs9, ho9⟩ := m_is_spec ho9
        obtain ⟨x44, hc9, hrun⟩ := m_bind hrun
        refine mr_calli (mr_runV (As := [.int x15]) (rest := [.int x38]) hx hb hml hown hts (c_X5_tapAt l D ids st z hc9) yk_X5_tapAt ys_X5_tapAt wm_0_198 ⟨(Nat.le_of_ble_eq_true rfl), (Nat.le_of_ble_eq_true rfl)⟩ (mr_recv (ci := 3) hR hE hz hS hA rfl ho9) hl.1 rfl (Nat.le_of_ble_eq_true rfl) dX0_findFares_44 ⟨(Nat.le_of_ble_eq_true rfl), (Nat.le_of_ble_eq_true rfl)⟩) hR hz hS hA (fun H locs hR hz hS => ?_)
        obtain ⟨x47, hc9, hrun⟩ := m_bind hrun
        refine mr_calli (mr_runS (As := [.int x44]) (rest := [.int x38]) hx hb hml hown hts (c_X4_zoneOf l D ids st z hc9) yk_X4_zoneOf ys_X4_zoneOf wm_0_225 ⟨(Nat.le_of_ble_eq_true rfl), (Nat.le_of_ble_eq_true rfl)⟩ (mr_recvS hR hE hz hS hA) hl.1 rfl (Nat.le_of_ble_eq_true rfl) dX0_findFares_47 ⟨(Nat.le_of_ble_eq_true rfl), (Nat.le_of_ble_eq_true rfl)⟩) hR hz hS hA (fun H locs hR hz hS => ?_)
        refine lv_isub hx hb dX0_findFares_50 ?_
        refine va_mabs hx hb (hml.trans hl.1.symm) hown (hts _ (m_ws_in wm_0_231)) (hts _ (m_ws_in wm_0_232)) (hts _ (m_ws_in wm_0_9)) (hts _ (m_ws_in wm_0_233)) (Nat.le_of_ble_eq_true rfl) (Nat.le_of_ble_eq_true rfl) (Nat.le_of_ble_eq_true rfl) (Nat.le_of_ble_eq_true rfl) dX0_findFares_51 ?_
        refine lv_istore (lv' := [(6, .int (if 0 ≤ (x38 - x47) then (x38 - x47) else 0 - (x38 - x47))), (5, .int x22), (4, .int x15), (0, .ref v0), (1, .ref v1), (2, .ref v2), (3, .int v3)]) hx hb dX0_findFares_54 hl (by decide) rfl (fun ls hl => ?_)
        refine lv_aload_n hx hb dX0_findFares_56 rfl (lv_at hl 5 rfl) ?_
        refine lv_iconst (v := 0) hx hb dX0_findFares_57 (by decide) ?_
        obtain ⟨x58, hc9, hrun⟩ := m_bind hrun
        refine mr_calli (mr_runS (As := [.ref v2, .int 0]) (rest := []) hx hb hml hown hts (c_X1_at l D ids st z hc9) yk_X1_at ys_X1_at wm_0_190 ⟨(Nat.le_of_ble_eq_true rfl), (Nat.le_of_ble_eq_true rfl)⟩ (mr_recvS hR hE hz hS hA) hl.1 rfl (Nat.le_of_ble_eq_true rfl) dX0_findFares_58 ⟨(Nat.le_of_ble_eq_true rfl), (Nat.le_of_ble_eq_true rfl)⟩) hR hz hS hA (fun H locs hR hz hS => ?_)
        refine lv_aload_n hx hb dX0_findFares_61 rfl (lv_at hl 5 rfl) ?_
        refine lv_iconst (v := 1) hx hb dX0_findFares_62 (by decide) ?_
        obtain ⟨x63, hc9, hrun⟩ := m_bind hrun
        refine mr_calli (mr_runS (As := [.ref v2, .int 1]) (rest := [.int x58]) hx hb hml hown hts (c_X1_at l D ids st z hc9) yk_X1_at ys_X1_at wm_0_190 ⟨(Nat.le_of_ble_eq_true rfl), (Nat.le_of_ble_eq_true rfl)⟩ (mr_recvS hR hE hz hS hA) hl.1 rfl (Nat.le_of_ble_eq_true rfl) dX0_findFares_63 ⟨(Nat.le_of_ble_eq_true rfl), (Nat.le_of_ble_eq_true rfl)⟩) hR hz hS hA (fun H locs hR hz hS => ?_)
        refine lv_iload hx hb dX0_findFares_66 (lv_at hl 0 rfl) ?_
        refine lv_imul hx hb dX0_findFares_68 ?_
        refine lv_iadd hx hb dX0_findFares_69 ?_
        refine lv_istore (lv' := [(5, .int (x58 + (x63 * (if 0 ≤ (x38 - x47) then (x38 - x47) else 0 - (x38 - x47))))), (6, .int (if 0 ≤ (x38 - x47) then (x38 - x47) else 0 - (x38 - x47))), (4, .int x15), (0, .ref v0), (1, .ref v1), (2, .ref v2), (3, .int v3)]) hx hb dX0_findFares_70 hl (by decide) rfl (fun ls hl => ?_)
        exact k_X0_findFares_b72 hx hb hr hml hown hts hlocks hin hE hA ih _ _ _ _ _ _ _ _ _ hrun hR hz hS (lv_sub hl [3, 4, 5, 6, 0] rfl)
set_option maxRecDepth 100000 in
set_option maxHeartbeats 4000000 in
theorem c_X0_findFares (l : Launch) (D : va_G) (ids : m_I3) (st : m_T) (z : Nat) {h : mH} {v0 : Nat} {v1 : Nat} {v2 : Nat} {hF : mH} (hrun : s_X0_findFares h v0 v1 v2 = some hF) : Met l yX0_findFares (m_ws yX0_findFares cX0_findFares 7 (none)) rm_X0_findFares (mPc D ids st [.ref v0, .ref v1, .ref v2] h z) (mQv D ids (m_A h z) hF z) rm_X0_findFares.cells rm_X0_findFares.slots (m_A h z) := by
  refine mr_of (cc := cX0_findFares) (maxL := 7) (ret := none) (by decide) rfl (Nat.le_of_ble_eq_true rfl) ?_
  intro p e s m below meth c ls hx hb hr hml hown hts hlocks hin hR hE hz hl
  have hA : ∀ q, s.heap.size ≤ q → m_A h z q := fun q hq => Or.inr (by rw [← hz]; exact hq)
  have hS : va_S (m_A h z) s.heap s.heap [] := va_S.rf
  have hl : lv_has ls 7 [(0, .ref v0), (1, .ref v1), (2, .ref v2)] := hl
  unfold s_X0_findFares at hrun
  refine lv_iconst (v := 0) hx hb dX0_findFares_0 (by decide) ?_
  refine lv_istore_n (lv' := [(3, .int 0), (0, .ref v0), (1, .ref v1), (2, .ref v2)]) hx hb dX0_findFares_1 rfl hl (by decide) rfl (fun ls hl => ?_)
  exact k_X0_findFares_L2 hx hb hr hml hown hts hlocks hin hE hA _ _ _ _ _ _ _ _ _ hrun hR hz hS (lv_sub hl [1, 2, 3, 0] rfl)
/-! X1_raise -/
abbrev rm_X1_raise : Room := { frames := 1, cells := 0, slots := 0, locals := 22 }
theorem yk_X1_raise : m_K yX1_raise cX1_raise 3 (none) 3 := ⟨wm_1_3, wm_0_4, by decide +kernel⟩
theorem ys_X1_raise : Cond.static yX1_raise ∈ wT := wm_1_2
set_option maxRecDepth 100000 in
set_option maxHeartbeats 4000000 in
theorem c_X1_raise (l : Launch) (D : va_G) (ids : m_I3) (st : m_T) (z : Nat) {h : mH} {v0 : Nat} {v1 : Int32} {v2 : Int32} {hF : mH} (hrun : s_X1_raise h v0 v1 v2 = some hF) : Met l yX1_raise (m_ws yX1_raise cX1_raise 3 (none)) rm_X1_raise (mPc D ids st [.ref v0, .int v1, .int v2] h z) (mQv D ids (m_A h z) hF z) rm_X1_raise.cells rm_X1_raise.slots (m_A h z) := by
  refine mr_of (cc := cX1_raise) (maxL := 3) (ret := none) (by decide) rfl (Nat.le_of_ble_eq_true rfl) ?_
  intro p e s m below meth c ls hx hb hr hml hown hts hlocks hin hR hE hz hl
  have hA : ∀ q, s.heap.size ≤ q → m_A h z q := fun q hq => Or.inr (by rw [← hz]; exact hq)
  have hS : va_S (m_A h z) s.heap s.heap [] := va_S.rf
  have hl : lv_has ls 3 [(0, .ref v0), (1, .int v1), (2, .int v2)] := hl
  unfold s_X1_raise at hrun
  refine lv_aload_n hx hb dX1_raise_0 rfl (lv_at hl 0 rfl) ?_
  refine lv_iload_n hx hb dX1_raise_1 rfl (lv_at hl 1 rfl) ?_
  refine lv_aload_n hx hb dX1_raise_2 rfl (lv_at hl 0 rfl) ?_
  refine lv_iload_n hx hb dX1_raise_3 rfl (lv_at hl 1 rfl) ?_
  obtain ⟨x4, hc9, hrun⟩ := m_bind hrun
  refine mr_calli (mr_runS (As := [.ref v0, .int v1]) (rest := [.int v1, .ref v0]) hx hb hml hown hts (c_X1_at l D ids st z hc9) yk_X1_at ys_X1_at wm_1_4 ⟨(Nat.le_of_ble_eq_true rfl), (Nat.le_of_ble_eq_true rfl)⟩ (mr_recvS hR hE hz hS hA) hl.1 rfl (Nat.le_of_ble_eq_true rfl) dX1_raise_4 ⟨(Nat.le_of_ble_eq_true rfl), (Nat.le_of_ble_eq_true rfl)⟩) hR hz hS hA (fun H locs hR hz hS => ?_)
  refine lv_iload_n hx hb dX1_raise_7 rfl (lv_at hl 2 rfl) ?_
  refine lv_iadd hx hb dX1_raise_8 ?_
  obtain ⟨h9, hc9, hrun⟩ := m_bind hrun
  refine mr_callv (mr_runS (As := [.ref v0, .int v1, .int (x4 + v2)]) (rest := []) hx hb hml hown hts (c_X1_put l D ids st z hc9) yk_X1_put ys_X1_put wm_1_5 ⟨(Nat.le_of_ble_eq_true rfl), (Nat.le_of_ble_eq_true rfl)⟩ (mr_recvS hR hE hz hS hA) hl.1 rfl (Nat.le_of_ble_eq_true rfl) dX1_raise_9 ⟨(Nat.le_of_ble_eq_true rfl), (Nat.le_of_ble_eq_true rfl)⟩) hR hz hS hA (fun H locs hR hz hS => ?_)
  obtain rfl := Option.some.inj hrun
  exact mr_vret hx hb hr hlocks hR hz hS dX1_raise_12
/-! X0_addUp -/
abbrev rm_X0_addUp : Room := { frames := 2, cells := 0, slots := 0, locals := 44 }
theorem yk_X0_addUp : m_K yX0_addUp cX0_addUp 6 (none) 1 := ⟨wm_0_237, wm_0_5, by decide +kernel⟩
theorem ys_X0_addUp : Cond.instanceMethod yX0_addUp ∈ wT ∧ Cond.selects RX0 yX0_addUp yX0_addUp ∈ wT := ⟨wm_0_236, wp_0_2⟩
set_option maxRecDepth 100000 in
set_option maxHeartbeats 4000000 in
theorem k_X0_addUp_b138 {p : Program} {l : Launch} {e : Env} {s : State} {m : MethodId} {args : Array Value} {below : List Frame} {meth : Method} {c : Code} {D : va_G} {ids : m_I3} {st : m_T} {A : Nat → Prop} {z : Nat} {hF : mH} (hx : p.tables.exec = Jvm.exec) (hb : c.code = cX0_addUp) (hr : meth.sig.returnType = none) (hml : c.maxLocals = 6) (hown : s.vm.findClass RX0 = some m.cls) (hts : ∀ w ∈ (m_ws yX0_addUp cX0_addUp 6 (none)), w.before args s = true) (hlocks : meth.locks = false) (hin : meth.name = yX0_addUp.name) (hE : m_EV st A s s.heap) (hA : ∀ q, s.heap.size ≤ q → A q) {k34 : mH → Nat → Nat → Int32 → Option (mH)} (hk34 : ∀ (h : mH) (v0 : Nat) (v1 : Nat) (v2 : Int32) (H : Heap) (locs : List Loc) (ls : Array Slot), k34 h v0 v1 v2 = some hF → Rl D ids A h s H → H.size = z → va_S A s.heap H locs → lv_has ls 6 [(0, .ref v0), (1, .ref v1), (2, .int v2)] → W p l e rm_X0_addUp s m args below meth c H locs 0 0 (MQ below (mQv D ids A hF z) args s 0 0 A) (F0 m 34 ls [])) (h : mH) (v0 : Nat) (v1 : Nat) (v2 : Int32) (H : Heap) (locs : List Loc) (ls : Array Slot) (hrun : s_X0_addUp_b138 k34 h v0 v1 v2 = some hF) (hR : Rl D ids A h s H) (hz : H.size = z) (hS : va_S A s.heap H locs) (hl : lv_has ls 6 [(0, .ref v0), (1, .ref v1), (2, .int v2)]) : W p l e rm_X0_addUp s m args below meth c H locs 0 0 (MQ below (mQv D ids A hF z) args s 0 0 A) (F0 m 138 ls []) := by
  unfold s_X0_addUp_b138 at hrun
  refine lv_iinc (v := v2 + 1) (lv' := [(2, .int (v2 + 1)), (0, .ref v0), (1, .ref v1)]) hx hb dX0_addUp_138 hl (k := 2) rfl rfl (by decide) rfl (fun ls hl => ?_)
  refine lv_goto (tgt := 34) hx hb dX0_addUp_141 (by decide) ?_
  exact hk34 _ _ _ _ _ _ _ hrun hR hz hS (lv_sub hl [1, 2, 0] rfl)
set_option maxRecDepth 100000 in
set_option maxHeartbeats 4000000 in
theorem k_X0_addUp_b110 {p : Program} {l : Launch} {e : Env} {s : State} {m : MethodId} {args : Array Value} {below : List Frame} {meth : Method} {c : Code} {D : va_G} {ids : m_I3} {st : m_T} {A : Nat → Prop} {z : Nat} {hF : mH} (hx : p.tables.exec = Jvm.exec) (hb : c.code = cX0_addUp) (hr : meth.sig.returnType = none) (hml : c.maxLocals = 6) (hown : s.vm.findClass RX0 = some m.cls) (hts : ∀ w ∈ (m_ws yX0_addUp cX0_addUp 6 (none)), w.before args s = true) (hlocks : meth.locks = false) (hin : meth.name = yX0_addUp.name) (hE : m_EV st A s s.heap) (hA : ∀ q, s.heap.size ≤ q → A q) {k34 : mH → Nat → Nat → Int32 → Option (mH)} (hk34 : ∀ (h : mH) (v0 : Nat) (v1 : Nat) (v2 : Int32) (H : Heap) (locs : List Loc) (ls : Array Slot), k34 h v0 v1 v2 = some hF → Rl D ids A h s H → H.size = z → va_S A s.heap H locs → lv_has ls 6 [(0, .ref v0), (1, .ref v1), (2, .int v2)] → W p l e rm_X0_addUp s m args below meth c H locs 0 0 (MQ below (mQv D ids A hF z) args s 0 0 A) (F0 m 34 ls [])) (h : mH) (v0 : Nat) (v1 : Nat) (v2 : Int32) (v3 : Int32) (v4 : Int32) (v5 : Int32) (H : Heap) (locs : List Loc) (ls : Array Slot) (hrun : s_X0_addUp_b110 k34 h v0 v1 v2 v3 v4 v5 = some hF) (hR : Rl D ids A h s H) (hz : H.size = z) (hS : va_S A s.heap H locs) (hl : lv_has ls 6 [(0, .ref v0), (1, .ref v1), (2, .int v2), (3, .int v3), (4, .int v4), (5, .int v5)]) : W p l e rm_X0_addUp s m args below meth c H locs 0 0 (MQ below (mQv D ids A hF z) args s 0 0 A) (F0 m 110 ls []) := by
  unfold s_X0_addUp_b110 at hrun
  refine lv_iload hx hb dX0_addUp_110 (lv_at hl 4 rfl) ?_
  refine lv_iconst (v := (-1)) hx hb dX0_addUp_112 (by decide) ?_
  refine lv_icmp_ne (tgt := 138) hx hb dX0_addUp_113 (by decide) (fun hc => ?_) (fun hc => ?_)
  · have hrun := mt_f hrun hc
    exact k_X0_addUp_b138 hx hb hr hml hown hts hlocks hin hE hA hk34 _ _ _ _ _ _ _ hrun hR hz hS (lv_sub hl [0, 1, 2] rfl)
  · have hrun := mt_t hrun hc
    refine lv_aload_n hx hb dX0_addUp_116 rfl (lv_at hl 0 rfl) ?_
    obtain ⟨x117, hc9, hrun⟩ := m_bind hrun
    refine mr_get (C := RX0) (T := TX0) (N := 9) (ci := 0) hx hb hts (fun w q => m_ws_in (wi_X0 w q)) hown hR rfl 3 (by decide) (hts _ (m_ws_in wm_0_105)) (fun _ h9 => h9) (m_gr_spec hc9) dX0_addUp_117 ?_
    refine lv_iload hx hb dX0_addUp_120 (lv_at hl 5 rfl) ?_
    refine lv_iconst (v := 1) hx hb dX0_addUp_122 (by decide) ?_
    obtain ⟨h123, hc9, hrun⟩ := m_bind hrun
    refine mr_callv (mr_runS (As := [.ref x117, .int v5, .int 1]) (rest := []) hx hb hml hown hts (c_X1_raise l D ids st z hc9) yk_X1_raise ys_X1_raise wm_1_1 ⟨(Nat.le_of_ble_eq_true rfl), (Nat.le_of_ble_eq_true rfl)⟩ (mr_recvS hR hE hz hS hA) hl.1 rfl (Nat.le_of_ble_eq_true rfl) dX0_addUp_123 ⟨(Nat.le_of_ble_eq_true rfl), (Nat.le_of_ble_eq_true rfl)⟩) hR hz hS hA (fun H locs hR hz hS => ?_)
    refine lv_aload_n hx hb dX0_addUp_126 rfl (lv_at hl 0 rfl) ?_
    obtain ⟨x127, hc9, hrun⟩ := m_bind hrun
    refine mr_get (C := RX0) (T := TX0) (N := 9) (ci := 0) hx hb hts (fun w q => m_ws_in (wi_X0 w q)) hown hR rfl 5 (by decide) (hts _ (m_ws_in wm_0_109)) (fun _ h9 => h9) (m_gr_spec hc9) dX0_addUp_127 ?_
    refine lv_iload_n hx hb dX0_addUp_130 rfl (lv_at hl 3 rfl) ?_
    obtain ⟨x131, hc9, hrun⟩ := m_bind hrun
    refine mr_calli (mr_runS (As := [.int v3]) (rest := [.ref x127]) hx hb hml hown hts (c_X4_stationOf l D ids st z hc9) yk_X4_stationOf ys_X4_stationOf wm_1_6 ⟨(Nat.le_of_ble_eq_true rfl), (Nat.le_of_ble_eq_true rfl)⟩ (mr_recvS hR hE hz hS hA) hl.1 rfl (Nat.le_of_ble_eq_true rfl) dX0_addUp_131 ⟨(Nat.le_of_ble_eq_true rfl), (Nat.le_of_ble_eq_true rfl)⟩) hR hz hS hA (fun H locs hR hz hS => ?_)
    refine lv_iconst (v := 1) hx hb dX0_addUp_134 (by decide) ?_
    obtain ⟨h135, hc9, hrun⟩ := m_bind hrun
    refine mr_callv (mr_runS (As := [.ref x127, .int x131, .int 1]) (rest := []) hx hb hml hown hts (c_X1_raise l D ids st z hc9) yk_X1_raise ys_X1_raise wm_1_1 ⟨(Nat.le_of_ble_eq_true rfl), (Nat.le_of_ble_eq_true rfl)⟩ (mr_recvS hR hE hz hS hA) hl.1 rfl (Nat.le_of_ble_eq_true rfl) dX0_addUp_135 ⟨(Nat.le_of_ble_eq_true rfl), (Nat.le_of_ble_eq_true rfl)⟩) hR hz hS hA (fun H locs hR hz hS => ?_)
    exact k_X0_addUp_b138 hx hb hr hml hown hts hlocks hin hE hA hk34 _ _ _ _ _ _ _ hrun hR hz hS (lv_sub hl [0, 1, 2] rfl)
set_option maxRecDepth 100000 in
set_option maxHeartbeats 4000000 in
theorem k_X0_addUp_b83 {p : Program} {l : Launch} {e : Env} {s : State} {m : MethodId} {args : Array Value} {below : List Frame} {meth : Method} {c : Code} {D : va_G} {ids : m_I3} {st : m_T} {A : Nat → Prop} {z : Nat} {hF : mH} (hx : p.tables.exec = Jvm.exec) (hb : c.code = cX0_addUp) (hr : meth.sig.returnType = none) (hml : c.maxLocals = 6) (hown : s.vm.findClass RX0 = some m.cls) (hts : ∀ w ∈ (m_ws yX0_addUp cX0_addUp 6 (none)), w.before args s = true) (hlocks : meth.locks = false) (hin : meth.name = yX0_addUp.name) (hE : m_EV st A s s.heap) (hA : ∀ q, s.heap.size ≤ q → A q) {k34 : mH → Nat → Nat → Int32 → Option (mH)} (hk34 : ∀ (h : mH) (v0 : Nat) (v1 : Nat) (v2 : Int32) (H : Heap) (locs : List Loc) (ls : Array Slot), k34 h v0 v1 v2 = some hF → Rl D ids A h s H → H.size = z → va_S A s.heap H locs → lv_has ls 6 [(0, .ref v0), (1, .ref v1), (2, .int v2)] → W p l e rm_X0_addUp s m args below meth c H locs 0 0 (MQ below (mQv D ids A hF z) args s 0 0 A) (F0 m 34 ls [])) (h : mH) (v0 : Nat) (v1 : Nat) (v2 : Int32) (v3 : Int32) (v4 : Int32) (v5 : Int32) (H : Heap) (locs : List Loc) (ls : Array Slot) (hrun : s_X0_addUp_b83 k34 h v0 v1 v2 v3 v4 v5 = some hF) (hR : Rl D ids A h s H) (hz : H.size = z) (hS : va_S A s.heap H locs) (hl : lv_has ls 6 [(0, .ref v0), (1, .ref v1), (2, .int v2), (3, .int v3), (4, .int v4), (5, .int v5)]) : W p l e rm_X0_addUp s m args below meth c H locs 0 0 (MQ below (mQv D ids A hF z) args s 0 0 A) (F0 m 83 ls []) := by
  unfold s_X0_addUp_b83 at hrun
  refine lv_aload_n hx hb dX0_addUp_83 rfl (lv_at hl 0 rfl) ?_
  obtain ⟨x84, hc9, hrun⟩ := m_bind hrun
  refine mr_get (C := RX0) (T := TX0) (N := 9) (ci := 0) hx hb hts (fun w q => m_ws_in (wi_X0 w q)) hown hR rfl 2 (by decide) (hts _ (m_ws_in wm_0_103)) (fun _ h9 => h9) (m_gr_spec hc9) dX0_addUp_84 ?_
  refine lv_iload hx hb dX0_addUp_87 (lv_at hl 5 rfl) ?_
  refine lv_iconst (v := 1) hx hb dX0_addUp_89 (by decide) ?_
  obtain ⟨h90, hc9, hrun⟩ := m_bind hrun
  refine mr_callv (mr_runS (As := [.ref x84, .int v5, .int 1]) (rest := []) hx hb hml hown hts (c_X1_raise l D ids st z hc9) yk_X1_raise ys_X1_raise wm_1_1 ⟨(Nat.le_of_ble_eq_true rfl), (Nat.le_of_ble_eq_true rfl)⟩ (mr_recvS hR hE hz hS hA) hl.1 rfl (Nat.le_of_ble_eq_true rfl) dX0_addUp_90 ⟨(Nat.le_of_ble_eq_true rfl), (Nat.le_of_ble_eq_true rfl)⟩) hR hz hS hA (fun H locs hR hz hS => ?_)
  refine lv_aload_n hx hb dX0_addUp_93 rfl (lv_at hl 0 rfl) ?_
  obtain ⟨x94, hc9, hrun⟩ := m_bind hrun
  refine mr_get (C := RX0) (T := TX0) (N := 9) (ci := 0) hx hb hts (fun w q => m_ws_in (wi_X0 w q)) hown hR rfl 4 (by decide) (hts _ (m_ws_in wm_0_107)) (fun _ h9 => h9) (m_gr_spec hc9) dX0_addUp_94 ?_
  refine lv_iload hx hb dX0_addUp_97 (lv_at hl 5 rfl) ?_
  refine lv_aload_n hx hb dX0_addUp_99 rfl (lv_at hl 0 rfl) ?_
  obtain ⟨x100, hc9, hrun⟩ := m_bind hrun
  refine mr_get (C := RX0) (T := TX0) (N := 9) (ci := 0) hx hb hts (fun w q => m_ws_in (wi_X0 w q)) hown hR rfl 1 (by decide) (hts _ (m_ws_in wm_0_101)) (fun _ h9 => h9) (m_gr_spec hc9) dX0_addUp_100 ?_
  refine lv_iload_n hx hb dX0_addUp_103 rfl (lv_at hl 2 rfl) ?_
  obtain ⟨x104, hc9, hrun⟩ := m_bind hrun
  refine mr_calli (mr_runS (As := [.ref x100, .int v2]) (rest := [.int v5, .ref x94]) hx hb hml hown hts (c_X1_at l D ids st z hc9) yk_X1_at ys_X1_at wm_0_190 ⟨(Nat.le_of_ble_eq_true rfl), (Nat.le_of_ble_eq_true rfl)⟩ (mr_recvS hR hE hz hS hA) hl.1 rfl (Nat.le_of_ble_eq_true rfl) dX0_addUp_104 ⟨(Nat.le_of_ble_eq_true rfl), (Nat.le_of_ble_eq_true rfl)⟩) hR hz hS hA (fun H locs hR hz hS => ?_)
  obtain ⟨h107, hc9, hrun⟩ := m_bind hrun
  refine mr_callv (mr_runS (As := [.ref x94, .int v5, .int x104]) (rest := []) hx hb hml hown hts (c_X1_raise l D ids st z hc9) yk_X1_raise ys_X1_raise wm_1_1 ⟨(Nat.le_of_ble_eq_true rfl), (Nat.le_of_ble_eq_true rfl)⟩ (mr_recvS hR hE hz hS hA) hl.1 rfl (Nat.le_of_ble_eq_true rfl) dX0_addUp_107 ⟨(Nat.le_of_ble_eq_true rfl), (Nat.le_of_ble_eq_true rfl)⟩) hR hz hS hA (fun H locs hR hz hS => ?_)
  exact k_X0_addUp_b110 hx hb hr hml hown hts hlocks hin hE hA hk34 _ _ _ _ _ _ _ _ _ _ hrun hR hz hS (lv_sub hl [0, 1, 2, 3, 4, 5] rfl)
set_option maxRecDepth 100000 in
set_option maxHeartbeats 4000000 in
theorem k_X0_addUp_L34 {p : Program} {l : Launch} {e : Env} {s : State} {m : MethodId} {args : Array Value} {below : List Frame} {meth : Method} {c : Code} {D : va_G} {ids : m_I3} {st : m_T} {A : Nat → Prop} {z : Nat} {hF : mH} (hx : p.tables.exec = Jvm.exec) (hb : c.code = cX0_addUp) (hr : meth.sig.returnType = none) (hml : c.maxLocals = 6) (hown : s.vm.findClass RX0 = some m.cls) (hts : ∀ w ∈ (m_ws yX0_addUp cX0_addUp 6 (none)), w.before args s = true) (hlocks : meth.locks = false) (hin : meth.name = yX0_addUp.name) (hE : m_EV st A s s.heap) (hA : ∀ q, s.heap.size ≤ q → A q) : ∀ (n : Nat) (h : mH) (v0 : Nat) (v1 : Nat) (v2 : Int32) (H : Heap) (locs : List Loc) (ls : Array Slot), s_X0_addUp_L34 n h v0 v1 v2 = some hF → Rl D ids A h s H → H.size = z → va_S A s.heap H locs → lv_has ls 6 [(0, .ref v0), (1, .ref v1), (2, .int v2)] → W p l e rm_X0_addUp s m args below meth c H locs 0 0 (MQ below (mQv D ids A hF z) args s 0 0 A) (F0 m 34 ls []) := by
  intro n
  induction n with
  | zero => intro h v0 v1 v2 H locs ls hrun; exact absurd hrun (by intro h9; cases h9)
  | succ n ih =>
    intro h v0 v1 v2 H locs ls hrun hR hz hS hl
    rw [s_X0_addUp_L34] at hrun
    refine lv_iload_n hx hb dX0_addUp_34 rfl (lv_at hl 2 rfl) ?_
    refine lv_aload_n hx hb dX0_addUp_35 rfl (lv_at hl 1 rfl) ?_
    obtain ⟨x36, hc9, hrun⟩ := m_bind hrun
    refine mr_getN (C := RX5) (T := TX5) (N := 2) (ci := 3) hx hb hts (fun w q => m_ws_in (wi_X5 w q)) hown hR rfl 1 (by decide) (hE.nf (i := 1) rfl) (fun _ h9 => h9) (m_gi_spec hc9) dX0_addUp_36 ?_
    refine lv_icmp_ge (tgt := 144) hx hb dX0_addUp_39 (by decide) (fun hc => ?_) (fun hc => ?_)
    · have hrun := mt_t hrun hc
      obtain rfl := Option.some.inj hrun
      exact mr_vret hx hb hr hlocks hR hz hS dX0_addUp_144
    · have hrun := mt_f hrun hc
      refine lv_aload_n hx hb dX0_addUp_42 rfl (lv_at hl 1 rfl) ?_
      refine lv_iload_n hx hb dX0_addUp_43 rfl (lv_at hl 2 rfl) ?_
      obtain ⟨_, ho9, hrun⟩ := m_bind hrun
      obtain ⟨fs9, ho9⟩ := m_is_spec ho9
      obtain ⟨x44, hc9, hrun⟩ := m_bind hrun
      refine mr_calli (mr_runV (As := [.int v2]) (rest := []) hx hb hml hown hts (c_X5_tapAt l D ids st z hc9) yk_X5_tapAt ys_X5_tapAt wm_0_198 ⟨(Nat.le_of_ble_eq_true rfl), (Nat.le_of_ble_eq_true rfl)⟩ (mr_recv (ci := 3) hR hE hz hS hA rfl ho9) hl.1 rfl (Nat.le_of_ble_eq_true rfl) dX0_addUp_44 ⟨(Nat.le_of_ble_eq_true rfl), (Nat.le_of_ble_eq_true rfl)⟩) hR hz hS hA (fun H locs hR hz hS => ?_)
      refine lv_istore_n (lv' := [(3, .int x44), (0, .ref v0), (1, .ref v1), (2, .int v2)]) hx hb dX0_addUp_47 rfl hl (by decide) rfl (fun ls hl => ?_)
      refine lv_aload_n hx hb dX0_addUp_48 rfl (lv_at hl 1 rfl) ?_
      obtain ⟨x49, hc9, hrun⟩ := m_bind hrun
      refine mr_get (C := RX0) (T := TX0) (N := 9) (ci := 0) hx hb hts (fun w q => m_ws_in (wi_X0 w q)) hown hR rfl 0 (by decide) (hts _ (m_ws_in wm_0_99)) (fun _ h9 => h9) (m_gr_spec hc9) dX0_addUp_49 ?_
      refine lv_iload_n hx hb dX0_addUp_52 rfl (lv_at hl 3 rfl) ?_
      obtain ⟨x53, hc9, hrun⟩ := m_bind hrun
      refine mr_calli (mr_runS (As := [.ref x49, .int v2]) (rest := []) hx hb hml hown hts (c_X1_at l D ids st z hc9) yk_X1_at ys_X1_at wm_0_190 ⟨(Nat.le_of_ble_eq_true rfl), (Nat.le_of_ble_eq_true rfl)⟩ (mr_recvS hR hE hz hS hA) hl.1 rfl (Nat.le_of_ble_eq_true rfl) dX0_addUp_53 ⟨(Nat.le_of_ble_eq_true rfl), (Nat.le_of_ble_eq_true rfl)⟩) hR hz hS hA (fun H locs hR hz hS => ?_)
      refine lv_istore (lv' := [(4, .int x53), (3, .int x44), (0, .ref v0), (1, .ref v1), (2, .int v2)]) hx hb dX0_addUp_56 hl (by decide) rfl (fun ls hl => ?_)
      refine lv_iload_n hx hb dX0_addUp_58 rfl (lv_at hl 1 rfl) ?_
      obtain ⟨x59, hc9, hrun⟩ := m_bind hrun
      refine mr_calli (mr_runS (As := [.int x44]) (rest := []) hx hb hml hown hts (c_X4_walletOf l D ids st z hc9) yk_X4_walletOf ys_X4_walletOf wm_0_203 ⟨(Nat.le_of_ble_eq_true rfl), (Nat.le_of_ble_eq_true rfl)⟩ (mr_recvS hR hE hz hS hA) hl.1 rfl (Nat.le_of_ble_eq_true rfl) dX0_addUp_59 ⟨(Nat.le_of_ble_eq_true rfl), (Nat.le_of_ble_eq_true rfl)⟩) hR hz hS hA (fun H locs hR hz hS => ?_)
      refine lv_iload_n hx hb dX0_addUp_62 rfl (lv_at hl 1 rfl) ?_
      obtain ⟨x63, hc9, hrun⟩ := m_bind hrun
      refine mr_calli (mr_runS (As := [.int x44]) (rest := [.int x59]) hx hb hml hown hts (c_X4_dayOf l D ids st z hc9) yk_X4_dayOf ys_X4_dayOf wm_0_212 ⟨(Nat.le_of_ble_eq_true rfl), (Nat.le_of_ble_eq_true rfl)⟩ (mr_recvS hR hE hz hS hA) hl.1 rfl (Nat.le_of_ble_eq_true rfl) dX0_addUp_63 ⟨(Nat.le_of_ble_eq_true rfl), (Nat.le_of_ble_eq_true rfl)⟩) hR hz hS hA (fun H locs hR hz hS => ?_)
      obtain ⟨x66, hc9, hrun⟩ := m_bind hrun
      refine mr_calli (mr_runSN (As := [.int x59, .int x63]) (rest := []) hx hb hml hown hts (c_X7_dayCell l D ids st z hc9) yk_X7_dayCell ys_X7_dayCell (hE.nm (i := 0) rfl) ⟨(Nat.le_of_ble_eq_true rfl), (Nat.le_of_ble_eq_true rfl)⟩ (mr_recvS hR hE hz hS hA) hl.1 rfl (Nat.le_of_ble_eq_true rfl) dX0_addUp_66 ⟨(Nat.le_of_ble_eq_true rfl), (Nat.le_of_ble_eq_true rfl)⟩) hR hz hS hA (fun H locs hR hz hS => ?_)
      refine lv_istore (lv' := [(5, .int x66), (4, .int x53), (3, .int x44), (0, .ref v0), (1, .ref v1), (2, .int v2)]) hx hb dX0_addUp_69 hl (by decide) rfl (fun ls hl => ?_)
      refine lv_iload hx hb dX0_addUp_71 (lv_at hl 1 rfl) ?_
      refine lv_iconst (v := (-1)) hx hb dX0_addUp_73 (by decide) ?_
      refine lv_icmp_eq (tgt := 83) hx hb dX0_addUp_74 (by decide) (fun hc => ?_) (fun hc => ?_)
      · have hrun := mt_t hrun hc
        exact k_X0_addUp_b83 hx hb hr hml hown hts hlocks hin hE hA ih _ _ _ _ _ _ _ _ _ _ hrun hR hz hS (lv_sub hl [3, 4, 5, 2, 1, 0] rfl)
      · have hrun := mt_f hrun hc
        refine lv_iload hx hb dX0_addUp_77 (lv_at hl 1 rfl) ?_
        refine lv_iload_n hx hb dX0_addUp_79 rfl (lv_at hl 5 rfl) ?_
        refine lv_icmp_le (tgt := 110) hx hb dX0_addUp_80 (by decide) (fun hc => ?_) (fun hc => ?_)
        · have hrun := mt_t hrun hc
          exact k_X0_addUp_b110 hx hb hr hml hown hts hlocks hin hE hA ih _ _ _ _ _ _ _ _ _ _ hrun hR hz hS (lv_sub hl [3, 4, 5, 2, 1, 0] rfl)
        · have hrun := mt_f hrun hc
          exact k_X0_addUp_b83 hx hb hr hml hown hts hlocks hin hE hA ih _ _ _ _ _ _ _ _ _ _ hrun hR hz hS (lv_sub hl [3, 4, 5, 2, 1, 0] rfl)
set_option maxRecDepth 100000 in
set_option maxHeartbeats 4000000 in
theorem c_X0_addUp (l : Launch) (D : va_G) (ids : m_I3) (st : m_T) (z : Nat) {h : mH} {v0 : Nat} {v1 : Nat} {hF : mH} (hrun : s_X0_addUp h v0 v1 = some hF) : Met l yX0_addUp (m_ws yX0_addUp cX0_addUp 6 (none)) rm_X0_addUp (mPc D ids st [.ref v0, .ref v1] h z) (mQv D ids (m_A h z) hF z) rm_X0_addUp.cells rm_X0_addUp.slots (m_A h z) := by
  refine mr_of (cc := cX0_addUp) (maxL := 6) (ret := none) (by decide) rfl (Nat.le_of_ble_eq_true rfl) ?_
  intro p e s m below meth c ls hx hb hr hml hown hts hlocks hin hR hE hz hl
  have hA : ∀ q, s.heap.size ≤ q → m_A h z q := fun q hq => Or.inr (by rw [← hz]; exact hq)
  have hS : va_S (m_A h z) s.heap s.heap [] := va_S.rf
  have hl : lv_has ls 6 [(0, .ref v0), (1, .ref v1)] := hl
  unfold s_X0_addUp at hrun
  refine lv_aload_n hx hb dX0_addUp_0 rfl (lv_at hl 0 rfl) ?_
  obtain ⟨x1, hc9, hrun⟩ := m_bind hrun
  refine mr_get (C := RX0) (T := TX0) (N := 9) (ci := 0) hx hb hts (fun w q => m_ws_in (wi_X0 w q)) hown hR rfl 2 (by decide) (hts _ (m_ws_in wm_0_103)) (fun _ h9 => h9) (m_gr_spec hc9) dX0_addUp_1 ?_
  refine lv_iconst (v := 0) hx hb dX0_addUp_4 (by decide) ?_
  obtain ⟨h5, hc9, hrun⟩ := m_bind hrun
  refine mr_callv (mr_runS (As := [.ref x1, .int 0]) (rest := []) hx hb hml hown hts (c_X1_fill l D ids st z hc9) yk_X1_fill ys_X1_fill wm_0_197 ⟨(Nat.le_of_ble_eq_true rfl), (Nat.le_of_ble_eq_true rfl)⟩ (mr_recvS hR hE hz hS hA) hl.1 rfl (Nat.le_of_ble_eq_true rfl) dX0_addUp_5 ⟨(Nat.le_of_ble_eq_true rfl), (Nat.le_of_ble_eq_true rfl)⟩) hR hz hS hA (fun H locs hR hz hS => ?_)
  refine lv_aload_n hx hb dX0_addUp_8 rfl (lv_at hl 0 rfl) ?_
  obtain ⟨x9, hc9, hrun⟩ := m_bind hrun
  refine mr_get (C := RX0) (T := TX0) (N := 9) (ci := 0) hx hb hts (fun w q => m_ws_in (wi_X0 w q)) hown hR rfl 3 (by decide) (hts _ (m_ws_in wm_0_105)) (fun _ h9 => h9) (m_gr_spec hc9) dX0_addUp_9 ?_
  refine lv_iconst (v := 0) hx hb dX0_addUp_12 (by decide) ?_
  obtain ⟨h13, hc9, hrun⟩ := m_bind hrun
  refine mr_callv (mr_runS (As := [.ref x9, .int 0]) (rest := []) hx hb hml hown hts (c_X1_fill l D ids st z hc9) yk_X1_fill ys_X1_fill wm_0_197 ⟨(Nat.le_of_ble_eq_true rfl), (Nat.le_of_ble_eq_true rfl)⟩ (mr_recvS hR hE hz hS hA) hl.1 rfl (Nat.le_of_ble_eq_true rfl) dX0_addUp_13 ⟨(Nat.le_of_ble_eq_true rfl), (Nat.le_of_ble_eq_true rfl)⟩) hR hz hS hA (fun H locs hR hz hS => ?_)
  refine lv_aload_n hx hb dX0_addUp_16 rfl (lv_at hl 0 rfl) ?_
  obtain ⟨x17, hc9, hrun⟩ := m_bind hrun
  refine mr_get (C := RX0) (T := TX0) (N := 9) (ci := 0) hx hb hts (fun w q => m_ws_in (wi_X0 w q)) hown hR rfl 4 (by decide) (hts _ (m_ws_in wm_0_107)) (fun _ h9 => h9) (m_gr_spec hc9) dX0_addUp_17 ?_
  refine lv_iconst (v := 0) hx hb dX0_addUp_20 (by decide) ?_
  obtain ⟨h21, hc9, hrun⟩ := m_bind hrun
  refine mr_callv (mr_runS (As := [.ref x17, .int 0]) (rest := []) hx hb hml hown hts (c_X1_fill l D ids st z hc9) yk_X1_fill ys_X1_fill wm_0_197 ⟨(Nat.le_of_ble_eq_true rfl), (Nat.le_of_ble_eq_true rfl)⟩ (mr_recvS hR hE hz hS hA) hl.1 rfl (Nat.le_of_ble_eq_true rfl) dX0_addUp_21 ⟨(Nat.le_of_ble_eq_true rfl), (Nat.le_of_ble_eq_true rfl)⟩) hR hz hS hA (fun H locs hR hz hS => ?_)
  refine lv_aload_n hx hb dX0_addUp_24 rfl (lv_at hl 0 rfl) ?_
  obtain ⟨x25, hc9, hrun⟩ := m_bind hrun
  refine mr_get (C := RX0) (T := TX0) (N := 9) (ci := 0) hx hb hts (fun w q => m_ws_in (wi_X0 w q)) hown hR rfl 5 (by decide) (hts _ (m_ws_in wm_0_109)) (fun _ h9 => h9) (m_gr_spec hc9) dX0_addUp_25 ?_
  refine lv_iconst (v := 0) hx hb dX0_addUp_28 (by decide) ?_
  obtain ⟨h29, hc9, hrun⟩ := m_bind hrun
  refine mr_callv (mr_runS (As := [.ref x25, .int 0]) (rest := []) hx hb hml hown hts (c_X1_fill l D ids st z hc9) yk_X1_fill ys_X1_fill wm_0_197 ⟨(Nat.le_of_ble_eq_true rfl), (Nat.le_of_ble_eq_true rfl)⟩ (mr_recvS hR hE hz hS hA) hl.1 rfl (Nat.le_of_ble_eq_true rfl) dX0_addUp_29 ⟨(Nat.le_of_ble_eq_true rfl), (Nat.le_of_ble_eq_true rfl)⟩) hR hz hS hA (fun H locs hR hz hS => ?_)
  refine lv_iconst (v := 0) hx hb dX0_addUp_32 (by decide) ?_
  refine lv_istore_n (lv' := [(2, .int 0), (0, .ref v0), (1, .ref v1)]) hx hb dX0_addUp_33 rfl hl (by decide) rfl (fun ls hl => ?_)
  exact k_X0_addUp_L34 hx hb hr hml hown hts hlocks hin hE hA _ _ _ _ _ _ _ _ hrun hR hz hS (lv_sub hl [1, 2, 0] rfl)
/-! X0_readFrom -/
abbrev rm_X0_readFrom : Room := { frames := 3, cells := 0, slots := 0, locals := 69 }
theorem yk_X0_readFrom : m_K yX0_readFrom cX0_readFrom 3 (none) 2 := ⟨wm_0_189, wm_0_5, by decide +kernel⟩
theorem ys_X0_readFrom : Cond.instanceMethod yX0_readFrom ∈ wT ∧ Cond.selects RX0 yX0_readFrom yX0_readFrom ∈ wT := ⟨wm_0_187, wm_0_188⟩
set_option maxRecDepth 100000 in
set_option maxHeartbeats 4000000 in
theorem c_X0_readFrom (l : Launch) (D : va_G) (ids : m_I3) (st : m_T) (z : Nat) {h : mH} {v0 : Nat} {v1 : Nat} {v2 : Nat} {hF : mH} (hrun : s_X0_readFrom h v0 v1 v2 = some hF) : Met l yX0_readFrom (m_ws yX0_readFrom cX0_readFrom 3 (none)) rm_X0_readFrom (mPc D ids st [.ref v0, .ref v1, .ref v2] h z) (mQv D ids (m_A h z) hF z) rm_X0_readFrom.cells rm_X0_readFrom.slots (m_A h z) := by
  refine mr_of (cc := cX0_readFrom) (maxL := 3) (ret := none) (by decide) rfl (Nat.le_of_ble_eq_true rfl) ?_
  intro p e s m below meth c ls hx hb hr hml hown hts hlocks hin hR hE hz hl
  have hA : ∀ q, s.heap.size ≤ q → m_A h z q := fun q hq => Or.inr (by rw [← hz]; exact hq)
  have hS : va_S (m_A h z) s.heap s.heap [] := va_S.rf
  have hl : lv_has ls 3 [(0, .ref v0), (1, .ref v1), (2, .ref v2)] := hl
  unfold s_X0_readFrom at hrun
  refine lv_aload_n hx hb dX0_readFrom_0 rfl (lv_at hl 0 rfl) ?_
  refine lv_aload_n hx hb dX0_readFrom_1 rfl (lv_at hl 2 rfl) ?_
  refine lv_iconst (v := 4) hx hb dX0_readFrom_2 (by decide) ?_
  obtain ⟨x3, hc9, hrun⟩ := m_bind hrun
  refine mr_calli (mr_runS (As := [.ref v2, .int 4]) (rest := [.ref v0]) hx hb hml hown hts (c_X1_at l D ids st z hc9) yk_X1_at ys_X1_at wm_0_190 ⟨(Nat.le_of_ble_eq_true rfl), (Nat.le_of_ble_eq_true rfl)⟩ (mr_recvS hR hE hz hS hA) hl.1 rfl (Nat.le_of_ble_eq_true rfl) dX0_readFrom_3 ⟨(Nat.le_of_ble_eq_true rfl), (Nat.le_of_ble_eq_true rfl)⟩) hR hz hS hA (fun H locs hR hz hS => ?_)
  obtain ⟨h6, hc9, hrun⟩ := m_bind hrun
  refine mr_put (C := RX0) (T := TX0) (N := 9) (ci := 0) hx hb hts (fun w q => m_ws_in (wi_X0 w q)) tyX0 tyX0_ok nmX0 hown hR hz hS rfl 7 (by decide) (hts _ (m_ws_in wm_0_112)) (fun _ h9 => h9) rfl (tyX0_ok 7 (by decide)) rfl rfl hc9 dX0_readFrom_6 (fun H locs hR hz hS => ?_)
  refine lv_aload_n hx hb dX0_readFrom_9 rfl (lv_at hl 0 rfl) ?_
  refine lv_aload_n hx hb dX0_readFrom_10 rfl (lv_at hl 2 rfl) ?_
  refine lv_iconst (v := 5) hx hb dX0_readFrom_11 (by decide) ?_
  obtain ⟨x12, hc9, hrun⟩ := m_bind hrun
  refine mr_calli (mr_runS (As := [.ref v2, .int 5]) (rest := [.ref v0]) hx hb hml hown hts (c_X1_at l D ids st z hc9) yk_X1_at ys_X1_at wm_0_190 ⟨(Nat.le_of_ble_eq_true rfl), (Nat.le_of_ble_eq_true rfl)⟩ (mr_recvS hR hE hz hS hA) hl.1 rfl (Nat.le_of_ble_eq_true rfl) dX0_readFrom_12 ⟨(Nat.le_of_ble_eq_true rfl), (Nat.le_of_ble_eq_true rfl)⟩) hR hz hS hA (fun H locs hR hz hS => ?_)
  obtain ⟨h15, hc9, hrun⟩ := m_bind hrun
  refine mr_put (C := RX0) (T := TX0) (N := 9) (ci := 0) hx hb hts (fun w q => m_ws_in (wi_X0 w q)) tyX0 tyX0_ok nmX0 hown hR hz hS rfl 8 (by decide) (hts _ (m_ws_in wm_0_113)) (fun _ h9 => h9) rfl (tyX0_ok 8 (by decide)) rfl rfl hc9 dX0_readFrom_15 (fun H locs hR hz hS => ?_)
  refine lv_aload_n hx hb dX0_readFrom_18 rfl (lv_at hl 0 rfl) ?_
  refine lv_aload_n hx hb dX0_readFrom_19 rfl (lv_at hl 1 rfl) ?_
  refine lv_aload_n hx hb dX0_readFrom_20 rfl (lv_at hl 2 rfl) ?_
  refine lv_iconst (v := 3) hx hb dX0_readFrom_21 (by decide) ?_
  obtain ⟨x22, hc9, hrun⟩ := m_bind hrun
  refine mr_calli (mr_runS (As := [.ref v2, .int 3]) (rest := [.ref v1, .ref v0]) hx hb hml hown hts (c_X1_at l D ids st z hc9) yk_X1_at ys_X1_at wm_0_190 ⟨(Nat.le_of_ble_eq_true rfl), (Nat.le_of_ble_eq_true rfl)⟩ (mr_recvS hR hE hz hS hA) hl.1 rfl (Nat.le_of_ble_eq_true rfl) dX0_readFrom_22 ⟨(Nat.le_of_ble_eq_true rfl), (Nat.le_of_ble_eq_true rfl)⟩) hR hz hS hA (fun H locs hR hz hS => ?_)
  obtain ⟨_, ho9, hrun⟩ := m_bind hrun
  obtain ⟨fs9, ho9⟩ := m_is_spec ho9
  obtain ⟨h25, hc9, hrun⟩ := m_bind hrun
  refine mr_callv (mr_runV (As := [.ref v1, .int x22]) (rest := []) hx hb hml hown hts (c_X0_findMates l D ids st z hc9) yk_X0_findMates ys_X0_findMates wm_0_193 ⟨(Nat.le_of_ble_eq_true rfl), (Nat.le_of_ble_eq_true rfl)⟩ (mr_recv (ci := 0) hR hE hz hS hA rfl ho9) hl.1 rfl (Nat.le_of_ble_eq_true rfl) dX0_readFrom_25 ⟨(Nat.le_of_ble_eq_true rfl), (Nat.le_of_ble_eq_true rfl)⟩) hR hz hS hA (fun H locs hR hz hS => ?_)
  refine lv_aload_n hx hb dX0_readFrom_28 rfl (lv_at hl 0 rfl) ?_
  refine lv_aload_n hx hb dX0_readFrom_29 rfl (lv_at hl 1 rfl) ?_
  refine lv_aload_n hx hb dX0_readFrom_30 rfl (lv_at hl 2 rfl) ?_
  obtain ⟨_, ho9, hrun⟩ := m_bind hrun
  obtain ⟨fs9, ho9⟩ := m_is_spec ho9
  obtain ⟨h31, hc9, hrun⟩ := m_bind hrun
  refine mr_callv (mr_runV (As := [.ref v1, .ref v2]) (rest := []) hx hb hml hown hts (c_X0_findFares l D ids st z hc9) yk_X0_findFares ys_X0_findFares wm_0_221 ⟨(Nat.le_of_ble_eq_true rfl), (Nat.le_of_ble_eq_true rfl)⟩ (mr_recv (ci := 0) hR hE hz hS hA rfl ho9) hl.1 rfl (Nat.le_of_ble_eq_true rfl) dX0_readFrom_31 ⟨(Nat.le_of_ble_eq_true rfl), (Nat.le_of_ble_eq_true rfl)⟩) hR hz hS hA (fun H locs hR hz hS => ?_)
  refine lv_aload_n hx hb dX0_readFrom_34 rfl (lv_at hl 0 rfl) ?_
  refine lv_aload_n hx hb dX0_readFrom_35 rfl (lv_at hl 1 rfl) ?_
  obtain ⟨_, ho9, hrun⟩ := m_bind hrun
  obtain ⟨fs9, ho9⟩ := m_is_spec ho9
  obtain ⟨h36, hc9, hrun⟩ := m_bind hrun
  refine mr_callv (mr_runV (As := [.ref v1]) (rest := []) hx hb hml hown hts (c_X0_addUp l D ids st z hc9) yk_X0_addUp ys_X0_addUp wm_0_234 ⟨(Nat.le_of_ble_eq_true rfl), (Nat.le_of_ble_eq_true rfl)⟩ (mr_recv (ci := 0) hR hE hz hS hA rfl ho9) hl.1 rfl (Nat.le_of_ble_eq_true rfl) dX0_readFrom_36 ⟨(Nat.le_of_ble_eq_true rfl), (Nat.le_of_ble_eq_true rfl)⟩) hR hz hS hA (fun H locs hR hz hS => ?_)
  obtain rfl := Option.some.inj hrun
  exact mr_vret hx hb hr hlocks hR hz hS dX0_readFrom_39
/-! X7_readRides -/
abbrev rm_X7_readRides : Room := { frames := 4, cells := 0, slots := 0, locals := 91 }
theorem yk_X7_readRides : m_K yX7_readRides cX7_readRides 1 (none) 0 := ⟨wm_1_124, wm_0_1, by decide +kernel⟩
theorem ys_X7_readRides : Cond.instanceMethod yX7_readRides ∈ wT ∧ Cond.selects RX7 yX7_readRides yX7_readRides ∈ wT := ⟨wm_1_123, wp_0_5⟩
set_option maxRecDepth 100000 in
set_option maxHeartbeats 4000000 in
theorem c_X7_readRides (l : Launch) (D : va_G) (ids : m_I3) (st : m_T) (z : Nat) {h : mH} {v0 : Nat} {hF : mH} (hrun : s_X7_readRides h v0 = some hF) : Met l yX7_readRides (m_ws yX7_readRides cX7_readRides 1 (none)) rm_X7_readRides (mPc D ids st [.ref v0] h z) (mQv D ids (m_A h z) hF z) rm_X7_readRides.cells rm_X7_readRides.slots (m_A h z) := by
  refine mr_of (cc := cX7_readRides) (maxL := 1) (ret := none) (by decide) rfl (Nat.le_of_ble_eq_true rfl) ?_
  intro p e s m below meth c ls hx hb hr hml hown hts hlocks hin hR hE hz hl
  have hA : ∀ q, s.heap.size ≤ q → m_A h z q := fun q hq => Or.inr (by rw [← hz]; exact hq)
  have hS : va_S (m_A h z) s.heap s.heap [] := va_S.rf
  have hl : lv_has ls 1 [(0, .ref v0)] := hl
  unfold s_X7_readRides at hrun
  refine lv_aload_n hx hb dX7_readRides_0 rfl (lv_at hl 0 rfl) ?_
  obtain ⟨x1, hc9, hrun⟩ := m_bind hrun
  refine mr_get (C := RX7) (T := TX7) (N := 8) (ci := 5) hx hb hts (fun w q => m_ws_in (wi_X7 w q)) hown hR rfl 1 (by decide) (hts _ (m_ws_in wm_1_8)) (fun _ h9 => h9) (m_gr_spec hc9) dX7_readRides_1 ?_
  refine lv_aload_n hx hb dX7_readRides_4 rfl (lv_at hl 0 rfl) ?_
  obtain ⟨x5, hc9, hrun⟩ := m_bind hrun
  refine mr_get (C := RX7) (T := TX7) (N := 8) (ci := 5) hx hb hts (fun w q => m_ws_in (wi_X7 w q)) hown hR rfl 0 (by decide) (hts _ (m_ws_in wm_1_7)) (fun _ h9 => h9) (m_gr_spec hc9) dX7_readRides_5 ?_
  obtain ⟨x8, hc9, hrun⟩ := m_bind hrun
  refine mr_getN (C := RX3) (T := TX3) (N := 10) (ci := 2) hx hb hts (fun w q => m_ws_in (wi_X3 w q)) hown hR rfl 0 (by decide) (hE.nf (i := 3) rfl) (fun _ h9 => h9) (m_gr_spec hc9) dX7_readRides_8 ?_
  refine lv_aload_n hx hb dX7_readRides_11 rfl (lv_at hl 0 rfl) ?_
  obtain ⟨x12, hc9, hrun⟩ := m_bind hrun
  refine mr_get (C := RX7) (T := TX7) (N := 8) (ci := 5) hx hb hts (fun w q => m_ws_in (wi_X7 w q)) hown hR rfl 0 (by decide) (hts _ (m_ws_in wm_1_7)) (fun _ h9 => h9) (m_gr_spec hc9) dX7_readRides_12 ?_
  obtain ⟨x15, hc9, hrun⟩ := m_bind hrun
  refine mr_getN (C := RX3) (T := TX3) (N := 10) (ci := 2) hx hb hts (fun w q => m_ws_in (wi_X3 w q)) hown hR rfl 1 (by decide) (hE.nf (i := 4) rfl) (fun _ h9 => h9) (m_gr_spec hc9) dX7_readRides_15 ?_
  obtain ⟨_, ho9, hrun⟩ := m_bind hrun
  obtain ⟨fs9, ho9⟩ := m_is_spec ho9
  obtain ⟨h18, hc9, hrun⟩ := m_bind hrun
  refine mr_callv (mr_runV (As := [.ref x8, .ref x15]) (rest := []) hx hb hml hown hts (c_X0_readFrom l D ids st z hc9) yk_X0_readFrom ys_X0_readFrom wm_0_186 ⟨(Nat.le_of_ble_eq_true rfl), (Nat.le_of_ble_eq_true rfl)⟩ (mr_recv (ci := 0) hR hE hz hS hA rfl ho9) hl.1 rfl (Nat.le_of_ble_eq_true rfl) dX7_readRides_18 ⟨(Nat.le_of_ble_eq_true rfl), (Nat.le_of_ble_eq_true rfl)⟩) hR hz hS hA (fun H locs hR hz hS => ?_)
  obtain rfl := Option.some.inj hrun
  exact mr_vret hx hb hr hlocks hR hz hS dX7_readRides_21
/-! X7_set -/
abbrev rm_X7_set : Room := { frames := 5, cells := 0, slots := 0, locals := 111 }
theorem yk_X7_set : m_K yX7_set cX7_set 4 (some .int) 2 := ⟨wm_2_20, wm_0_1, by decide +kernel⟩
theorem ys_X7_set : Cond.instanceMethod yX7_set ∈ wT ∧ Cond.selects RX7 yX7_set yX7_set ∈ wT := ⟨wm_2_18, wm_2_19⟩
set_option maxRecDepth 100000 in
set_option maxHeartbeats 4000000 in
theorem k_X7_set_b41 {p : Program} {l : Launch} {e : Env} {s : State} {m : MethodId} {args : Array Value} {below : List Frame} {meth : Method} {c : Code} {D : va_G} {ids : m_I3} {st : m_T} {A : Nat → Prop} {z : Nat} {r : Int32} {hF : mH} (hx : p.tables.exec = Jvm.exec) (hb : c.code = cX7_set) (hr : meth.sig.returnType = some .int) (hml : c.maxLocals = 4) (hown : s.vm.findClass RX7 = some m.cls) (hts : ∀ w ∈ (m_ws yX7_set cX7_set 4 (some .int)), w.before args s = true) (hlocks : meth.locks = false) (hin : meth.name = yX7_set.name) (hE : m_EV st A s s.heap) (hA : ∀ q, s.heap.size ≤ q → A q) (h : mH) (H : Heap) (locs : List Loc) (ls : Array Slot) (hrun : s_X7_set_b41 st h = some (Sum.inr r, hF)) (hR : Rl D ids A h s H) (hz : H.size = z) (hS : va_S A s.heap H locs) (hl : lv_has ls 4 []) : W p l e rm_X7_set s m args below meth c H locs 0 0 (MQ below (mQi D ids A r hF z) args s 0 0 A) (F0 m 41 ls []) := by
  unfold s_X7_set_b41 at hrun
  exact absurd (Prod.mk.inj (Option.some.inj hrun)).1 (fun h9 => nomatch h9)
set_option maxRecDepth 100000 in
set_option maxHeartbeats 4000000 in
theorem c_X7_set (l : Launch) (D : va_G) (ids : m_I3) (st : m_T) (z : Nat) {h : mH} {v0 : Nat} {v1 : Int32} {v2 : Int32} {r : Int32} {hF : mH} (hrun : s_X7_set st h v0 v1 v2 = some (Sum.inr r, hF)) : Met l yX7_set (m_ws yX7_set cX7_set 4 (some .int)) rm_X7_set (mPc D ids st [.ref v0, .int v1, .int v2] h z) (mQi D ids (m_A h z) r hF z) rm_X7_set.cells rm_X7_set.slots (m_A h z) := by
  refine mr_of (cc := cX7_set) (maxL := 4) (ret := some .int) (by decide) rfl (Nat.le_of_ble_eq_true rfl) ?_
  intro p e s m below meth c ls hx hb hr hml hown hts hlocks hin hR hE hz hl
  have hA : ∀ q, s.heap.size ≤ q → m_A h z q := fun q hq => Or.inr (by rw [← hz]; exact hq)
  have hS : va_S (m_A h z) s.heap s.heap [] := va_S.rf
  have hl : lv_has ls 4 [(0, .ref v0), (1, .int v1), (2, .int v2)] := hl
  unfold s_X7_set at hrun
  refine lv_iload_n hx hb dX7_set_0 rfl (lv_at hl 1 rfl) ?_
  refine lv_bipush (v := 6) hx hb dX7_set_1 (by decide) ?_
  obtain ⟨x3, hc9, hrun⟩ := m_bind hrun
  refine mr_calli (mr_runS (As := [.int v1, .int 6]) (rest := []) hx hb hml hown hts (c_X7_isBelow l D ids st z hc9) yk_X7_isBelow ys_X7_isBelow wm_1_129 ⟨(Nat.le_of_ble_eq_true rfl), (Nat.le_of_ble_eq_true rfl)⟩ (mr_recvS hR hE hz hS hA) hl.1 rfl (Nat.le_of_ble_eq_true rfl) dX7_set_3 ⟨(Nat.le_of_ble_eq_true rfl), (Nat.le_of_ble_eq_true rfl)⟩) hR hz hS hA (fun H locs hR hz hS => ?_)
  refine lv_if_ne (tgt := 19) hx hb dX7_set_6 (by decide) (fun hc => ?_) (fun hc => ?_)
  · have hrun := mt_f hrun hc
    refine lv_iload_n hx hb dX7_set_19 rfl (lv_at hl 2 rfl) ?_
    refine mr_gets (n := "LEAST_VALUES") (k := 1) hx hb hE (List.mem_of_getElem? (i := 1) rfl) hS hown (hts _ (m_ws_in wm_2_22)) dX7_set_20 ?_
    refine lv_iload_n hx hb dX7_set_23 rfl (lv_at hl 1 rfl) ?_
    obtain ⟨x24, hc9, hrun⟩ := m_bind hrun
    refine mr_calli (mr_runS (As := [.ref (st.2 1), .int v1]) (rest := [.int v2]) hx hb hml hown hts (c_X1_at l D ids st z hc9) yk_X1_at ys_X1_at wm_1_181 ⟨(Nat.le_of_ble_eq_true rfl), (Nat.le_of_ble_eq_true rfl)⟩ (mr_recvS hR hE hz hS hA) hl.1 rfl (Nat.le_of_ble_eq_true rfl) dX7_set_24 ⟨(Nat.le_of_ble_eq_true rfl), (Nat.le_of_ble_eq_true rfl)⟩) hR hz hS hA (fun H locs hR hz hS => ?_)
    refine lv_icmp_lt (tgt := 41) hx hb dX7_set_27 (by decide) (fun hc => ?_) (fun hc => ?_)
    · have hrun := mt_t hrun hc
      exact k_X7_set_b41 hx hb hr hml hown hts hlocks hin hE hA _ _ _ _ hrun hR hz hS (lv_sub hl [] rfl)
    · have hrun := mt_f hrun hc
      refine lv_iload_n hx hb dX7_set_30 rfl (lv_at hl 2 rfl) ?_
      refine mr_gets (n := "MOST_VALUES") (k := 2) hx hb hE (List.mem_of_getElem? (i := 2) rfl) hS hown (hts _ (m_ws_in wm_2_24)) dX7_set_31 ?_
      refine lv_iload_n hx hb dX7_set_34 rfl (lv_at hl 1 rfl) ?_
      obtain ⟨x35, hc9, hrun⟩ := m_bind hrun
      refine mr_calli (mr_runS (As := [.ref (st.2 2), .int v1]) (rest := [.int v2]) hx hb hml hown hts (c_X1_at l D ids st z hc9) yk_X1_at ys_X1_at wm_1_181 ⟨(Nat.le_of_ble_eq_true rfl), (Nat.le_of_ble_eq_true rfl)⟩ (mr_recvS hR hE hz hS hA) hl.1 rfl (Nat.le_of_ble_eq_true rfl) dX7_set_35 ⟨(Nat.le_of_ble_eq_true rfl), (Nat.le_of_ble_eq_true rfl)⟩) hR hz hS hA (fun H locs hR hz hS => ?_)
      refine lv_icmp_le (tgt := 51) hx hb dX7_set_38 (by decide) (fun hc => ?_) (fun hc => ?_)
      · have hrun := mt_t hrun hc
        refine lv_aload_n hx hb dX7_set_51 rfl (lv_at hl 0 rfl) ?_
        obtain ⟨x52, hc9, hrun⟩ := m_bind hrun
        refine mr_get (C := RX7) (T := TX7) (N := 8) (ci := 5) hx hb hts (fun w q => m_ws_in (wi_X7 w q)) hown hR rfl 2 (by decide) (hts _ (m_ws_in wm_1_9)) (fun _ h9 => h9) (m_gr_spec hc9) dX7_set_52 ?_
        refine lv_aload_n hx hb dX7_set_55 rfl (lv_at hl 0 rfl) ?_
        obtain ⟨x56, hc9, hrun⟩ := m_bind hrun
        refine mr_get (C := RX7) (T := TX7) (N := 8) (ci := 5) hx hb hts (fun w q => m_ws_in (wi_X7 w q)) hown hR rfl 0 (by decide) (hts _ (m_ws_in wm_1_7)) (fun _ h9 => h9) (m_gr_spec hc9) dX7_set_56 ?_
        obtain ⟨_, ho9, hrun⟩ := m_bind hrun
        obtain ⟨fs9, ho9⟩ := m_is_spec ho9
        obtain ⟨h59, hc9, hrun⟩ := m_bind hrun
        refine mr_callv (mr_runV (As := [.ref x56]) (rest := []) hx hb hml hown hts (c_X2_push l D ids st z hc9) yk_X2_push ys_X2_push wm_2_27 ⟨(Nat.le_of_ble_eq_true rfl), (Nat.le_of_ble_eq_true rfl)⟩ (mr_recv (ci := 1) hR hE hz hS hA rfl ho9) hl.1 rfl (Nat.le_of_ble_eq_true rfl) dX7_set_59 ⟨(Nat.le_of_ble_eq_true rfl), (Nat.le_of_ble_eq_true rfl)⟩) hR hz hS hA (fun H locs hR hz hS => ?_)
        refine lv_aload_n hx hb dX7_set_62 rfl (lv_at hl 0 rfl) ?_
        obtain ⟨x63, hc9, hrun⟩ := m_bind hrun
        refine mr_get (C := RX7) (T := TX7) (N := 8) (ci := 5) hx hb hts (fun w q => m_ws_in (wi_X7 w q)) hown hR rfl 0 (by decide) (hts _ (m_ws_in wm_1_7)) (fun _ h9 => h9) (m_gr_spec hc9) dX7_set_63 ?_
        obtain ⟨x66, hc9, hrun⟩ := m_bind hrun
        refine mr_getN (C := RX3) (T := TX3) (N := 10) (ci := 2) hx hb hts (fun w q => m_ws_in (wi_X3 w q)) hown hR rfl 1 (by decide) (hE.nf (i := 4) rfl) (fun _ h9 => h9) (m_gr_spec hc9) dX7_set_66 ?_
        refine lv_iload_n hx hb dX7_set_69 rfl (lv_at hl 1 rfl) ?_
        obtain ⟨x70, hc9, hrun⟩ := m_bind hrun
        refine mr_calli (mr_runS (As := [.ref x66, .int v1]) (rest := []) hx hb hml hown hts (c_X1_at l D ids st z hc9) yk_X1_at ys_X1_at wm_1_181 ⟨(Nat.le_of_ble_eq_true rfl), (Nat.le_of_ble_eq_true rfl)⟩ (mr_recvS hR hE hz hS hA) hl.1 rfl (Nat.le_of_ble_eq_true rfl) dX7_set_70 ⟨(Nat.le_of_ble_eq_true rfl), (Nat.le_of_ble_eq_true rfl)⟩) hR hz hS hA (fun H locs hR hz hS => ?_)
        refine lv_istore_n (lv' := [(3, .int x70), (0, .ref v0), (1, .int v1), (2, .int v2)]) hx hb dX7_set_73 rfl hl (by decide) rfl (fun ls hl => ?_)
        refine lv_aload_n hx hb dX7_set_74 rfl (lv_at hl 1 rfl) ?_
        obtain ⟨x75, hc9, hrun⟩ := m_bind hrun
        refine mr_get (C := RX7) (T := TX7) (N := 8) (ci := 5) hx hb hts (fun w q => m_ws_in (wi_X7 w q)) hown hR rfl 0 (by decide) (hts _ (m_ws_in wm_1_7)) (fun _ h9 => h9) (m_gr_spec hc9) dX7_set_75 ?_
        obtain ⟨x78, hc9, hrun⟩ := m_bind hrun
        refine mr_getN (C := RX3) (T := TX3) (N := 10) (ci := 2) hx hb hts (fun w q => m_ws_in (wi_X3 w q)) hown hR rfl 1 (by decide) (hE.nf (i := 4) rfl) (fun _ h9 => h9) (m_gr_spec hc9) dX7_set_78 ?_
        refine lv_iload_n hx hb dX7_set_81 rfl (lv_at hl 2 rfl) ?_
        refine lv_iload_n hx hb dX7_set_82 rfl (lv_at hl 3 rfl) ?_
        obtain ⟨h83, hc9, hrun⟩ := m_bind hrun
        refine mr_callv (mr_runS (As := [.ref x78, .int v1, .int v2]) (rest := []) hx hb hml hown hts (c_X1_put l D ids st z hc9) yk_X1_put ys_X1_put wm_2_32 ⟨(Nat.le_of_ble_eq_true rfl), (Nat.le_of_ble_eq_true rfl)⟩ (mr_recvS hR hE hz hS hA) hl.1 rfl (Nat.le_of_ble_eq_true rfl) dX7_set_83 ⟨(Nat.le_of_ble_eq_true rfl), (Nat.le_of_ble_eq_true rfl)⟩) hR hz hS hA (fun H locs hR hz hS => ?_)
        refine lv_aload_n hx hb dX7_set_86 rfl (lv_at hl 1 rfl) ?_
        obtain ⟨_, ho9, hrun⟩ := m_bind hrun
        obtain ⟨fs9, ho9⟩ := m_is_spec ho9
        obtain ⟨h87, hc9, hrun⟩ := m_bind hrun
        refine mr_callv (mr_runV (As := []) (rest := []) hx hb hml hown hts (c_X7_readRides l D ids st z hc9) yk_X7_readRides ys_X7_readRides wm_1_121 ⟨(Nat.le_of_ble_eq_true rfl), (Nat.le_of_ble_eq_true rfl)⟩ (mr_recv (ci := 5) hR hE hz hS hA rfl ho9) hl.1 rfl (Nat.le_of_ble_eq_true rfl) dX7_set_87 ⟨(Nat.le_of_ble_eq_true rfl), (Nat.le_of_ble_eq_true rfl)⟩) hR hz hS hA (fun H locs hR hz hS => ?_)
        refine lv_iload_n hx hb dX7_set_90 rfl (lv_at hl 0 rfl) ?_
        obtain ⟨hv9, rfl⟩ := Prod.mk.inj (Option.some.inj hrun); obtain rfl := Sum.inr.inj hv9
        exact mr_iret hx hb hr hlocks hR hz hS dX7_set_91
      · have hrun := mt_f hrun hc
        exact k_X7_set_b41 hx hb hr hml hown hts hlocks hin hE hA _ _ _ _ hrun hR hz hS (lv_sub hl [] rfl)
  · have hrun := mt_t hrun hc
    exact absurd (Prod.mk.inj (Option.some.inj hrun)).1 (fun h9 => nomatch h9)
/-! X5_takeAway -/
abbrev rm_X5_takeAway : Room := { frames := 2, cells := 0, slots := 0, locals := 42 }
theorem yk_X5_takeAway : m_K yX5_takeAway cX5_takeAway 3 (none) 1 := ⟨wm_2_40, wm_0_3, by decide +kernel⟩
theorem ys_X5_takeAway : Cond.instanceMethod yX5_takeAway ∈ wT ∧ Cond.selects RX5 yX5_takeAway yX5_takeAway ∈ wT := ⟨wm_2_38, wm_2_39⟩
set_option maxRecDepth 100000 in
set_option maxHeartbeats 4000000 in
theorem k_X5_takeAway_L2 {p : Program} {l : Launch} {e : Env} {s : State} {m : MethodId} {args : Array Value} {below : List Frame} {meth : Method} {c : Code} {D : va_G} {ids : m_I3} {st : m_T} {A : Nat → Prop} {z : Nat} {hF : mH} (hx : p.tables.exec = Jvm.exec) (hb : c.code = cX5_takeAway) (hr : meth.sig.returnType = none) (hml : c.maxLocals = 3) (hown : s.vm.findClass RX5 = some m.cls) (hts : ∀ w ∈ (m_ws yX5_takeAway cX5_takeAway 3 (none)), w.before args s = true) (hlocks : meth.locks = false) (hin : meth.name = yX5_takeAway.name) (hE : m_EV st A s s.heap) (hA : ∀ q, s.heap.size ≤ q → A q) : ∀ (n : Nat) (h : mH) (v0 : Nat) (v2 : Int32) (H : Heap) (locs : List Loc) (ls : Array Slot), s_X5_takeAway_L2 n h v0 v2 = some hF → Rl D ids A h s H → H.size = z → va_S A s.heap H locs → lv_has ls 3 [(0, .ref v0), (2, .int v2)] → W p l e rm_X5_takeAway s m args below meth c H locs 0 0 (MQ below (mQv D ids A hF z) args s 0 0 A) (F0 m 2 ls []) := by
  intro n
  induction n with
  | zero => intro h v0 v2 H locs ls hrun; exact absurd hrun (by intro h9; cases h9)
  | succ n ih =>
    intro h v0 v2 H locs ls hrun hR hz hS hl
    rw [s_X5_takeAway_L2] at hrun
    refine lv_iload_n hx hb dX5_takeAway_2 rfl (lv_at hl 1 rfl) ?_
    refine lv_iconst (v := 1) hx hb dX5_takeAway_3 (by decide) ?_
    refine lv_iadd hx hb dX5_takeAway_4 ?_
    refine lv_aload_n hx hb dX5_takeAway_5 rfl (lv_at hl 0 rfl) ?_
    obtain ⟨x6, hc9, hrun⟩ := m_bind hrun
    refine mr_get (C := RX5) (T := TX5) (N := 2) (ci := 3) hx hb hts (fun w q => m_ws_in (wi_X5 w q)) hown hR rfl 1 (by decide) (hts _ (m_ws_in wm_0_37)) (fun _ h9 => h9) (m_gi_spec hc9) dX5_takeAway_6 ?_
    refine lv_icmp_ge (tgt := 33) hx hb dX5_takeAway_9 (by decide) (fun hc => ?_) (fun hc => ?_)
    · have hrun := mt_t hrun hc
      refine lv_aload_n hx hb dX5_takeAway_33 rfl (lv_at hl 0 rfl) ?_
      refine lv_dup hx hb dX5_takeAway_34 rfl ?_
      obtain ⟨x35, hc9, hrun⟩ := m_bind hrun
      refine mr_get (C := RX5) (T := TX5) (N := 2) (ci := 3) hx hb hts (fun w q => m_ws_in (wi_X5 w q)) hown hR rfl 1 (by decide) (hts _ (m_ws_in wm_0_37)) (fun _ h9 => h9) (m_gi_spec hc9) dX5_takeAway_35 ?_
      refine lv_iconst (v := 1) hx hb dX5_takeAway_38 (by decide) ?_
      refine lv_isub hx hb dX5_takeAway_39 ?_
      obtain ⟨h40, hc9, hrun⟩ := m_bind hrun
      refine mr_put (C := RX5) (T := TX5) (N := 2) (ci := 3) hx hb hts (fun w q => m_ws_in (wi_X5 w q)) tyX5 tyX5_ok nmX5 hown hR hz hS rfl 1 (by decide) (hts _ (m_ws_in wm_0_37)) (fun _ h9 => h9) rfl (tyX5_ok 1 (by decide)) rfl rfl hc9 dX5_takeAway_40 (fun H locs hR hz hS => ?_)
      obtain rfl := Option.some.inj hrun
      exact mr_vret hx hb hr hlocks hR hz hS dX5_takeAway_43
    · have hrun := mt_f hrun hc
      refine lv_aload_n hx hb dX5_takeAway_12 rfl (lv_at hl 0 rfl) ?_
      obtain ⟨x13, hc9, hrun⟩ := m_bind hrun
      refine mr_get (C := RX5) (T := TX5) (N := 2) (ci := 3) hx hb hts (fun w q => m_ws_in (wi_X5 w q)) hown hR rfl 0 (by decide) (hts _ (m_ws_in wm_0_36)) (fun _ h9 => h9) (m_gr_spec hc9) dX5_takeAway_13 ?_
      refine lv_iload_n hx hb dX5_takeAway_16 rfl (lv_at hl 1 rfl) ?_
      refine lv_aload_n hx hb dX5_takeAway_17 rfl (lv_at hl 0 rfl) ?_
      refine lv_iload_n hx hb dX5_takeAway_18 rfl (lv_at hl 1 rfl) ?_
      refine lv_iconst (v := 1) hx hb dX5_takeAway_19 (by decide) ?_
      refine lv_iadd hx hb dX5_takeAway_20 ?_
      obtain ⟨_, ho9, hrun⟩ := m_bind hrun
      obtain ⟨fs9, ho9⟩ := m_is_spec ho9
      obtain ⟨x21, hc9, hrun⟩ := m_bind hrun
      refine mr_calli (mr_runV (As := [.int (v2 + 1)]) (rest := [.int v2, .ref x13]) hx hb hml hown hts (c_X5_tapAt l D ids st z hc9) yk_X5_tapAt ys_X5_tapAt wm_2_41 ⟨(Nat.le_of_ble_eq_true rfl), (Nat.le_of_ble_eq_true rfl)⟩ (mr_recv (ci := 3) hR hE hz hS hA rfl ho9) hl.1 rfl (Nat.le_of_ble_eq_true rfl) dX5_takeAway_21 ⟨(Nat.le_of_ble_eq_true rfl), (Nat.le_of_ble_eq_true rfl)⟩) hR hz hS hA (fun H locs hR hz hS => ?_)
      obtain ⟨h24, hc9, hrun⟩ := m_bind hrun
      refine mr_callv (mr_runS (As := [.ref x13, .int v2, .int x21]) (rest := []) hx hb hml hown hts (c_X1_put l D ids st z hc9) yk_X1_put ys_X1_put wm_2_42 ⟨(Nat.le_of_ble_eq_true rfl), (Nat.le_of_ble_eq_true rfl)⟩ (mr_recvS hR hE hz hS hA) hl.1 rfl (Nat.le_of_ble_eq_true rfl) dX5_takeAway_24 ⟨(Nat.le_of_ble_eq_true rfl), (Nat.le_of_ble_eq_true rfl)⟩) hR hz hS hA (fun H locs hR hz hS => ?_)
      refine lv_iinc (v := v2 + 1) (lv' := [(2, .int (v2 + 1)), (0, .ref v0)]) hx hb dX5_takeAway_27 hl (k := 1) rfl rfl (by decide) rfl (fun ls hl => ?_)
      refine lv_goto (tgt := 2) hx hb dX5_takeAway_30 (by decide) ?_
      exact ih _ _ _ _ _ _ hrun hR hz hS (lv_sub hl [1, 0] rfl)
set_option maxRecDepth 100000 in
set_option maxHeartbeats 4000000 in
theorem c_X5_takeAway (l : Launch) (D : va_G) (ids : m_I3) (st : m_T) (z : Nat) {h : mH} {v0 : Nat} {v1 : Int32} {hF : mH} (hrun : s_X5_takeAway h v0 v1 = some hF) : Met l yX5_takeAway (m_ws yX5_takeAway cX5_takeAway 3 (none)) rm_X5_takeAway (mPc D ids st [.ref v0, .int v1] h z) (mQv D ids (m_A h z) hF z) rm_X5_takeAway.cells rm_X5_takeAway.slots (m_A h z) := by
  refine mr_of (cc := cX5_takeAway) (maxL := 3) (ret := none) (by decide) rfl (Nat.le_of_ble_eq_true rfl) ?_
  intro p e s m below meth c ls hx hb hr hml hown hts hlocks hin hR hE hz hl
  have hA : ∀ q, s.heap.size ≤ q → m_A h z q := fun q hq => Or.inr (by rw [← hz]; exact hq)
  have hS : va_S (m_A h z) s.heap s.heap [] := va_S.rf
  have hl : lv_has ls 3 [(0, .ref v0), (1, .int v1)] := hl
  unfold s_X5_takeAway at hrun
  refine lv_iload_n hx hb dX5_takeAway_0 rfl (lv_at hl 1 rfl) ?_
  refine lv_istore_n (lv' := [(2, .int v1), (0, .ref v0), (1, .int v1)]) hx hb dX5_takeAway_1 rfl hl (by decide) rfl (fun ls hl => ?_)
  exact k_X5_takeAway_L2 hx hb hr hml hown hts hlocks hin hE hA _ _ _ _ _ _ _ hrun hR hz hS (lv_sub hl [1, 0] rfl)
/-! X7_remove -/
abbrev rm_X7_remove : Room := { frames := 5, cells := 0, slots := 0, locals := 111 }
theorem yk_X7_remove : m_K yX7_remove cX7_remove 2 (some .int) 1 := ⟨wm_2_36, wm_0_1, by decide +kernel⟩
theorem ys_X7_remove : Cond.instanceMethod yX7_remove ∈ wT ∧ Cond.selects RX7 yX7_remove yX7_remove ∈ wT := ⟨wm_2_34, wm_2_35⟩
set_option maxRecDepth 100000 in
set_option maxHeartbeats 4000000 in
theorem c_X7_remove (l : Launch) (D : va_G) (ids : m_I3) (st : m_T) (z : Nat) {h : mH} {v0 : Nat} {v1 : Int32} {r : Int32} {hF : mH} (hrun : s_X7_remove h v0 v1 = some (Sum.inr r, hF)) : Met l yX7_remove (m_ws yX7_remove cX7_remove 2 (some .int)) rm_X7_remove (mPc D ids st [.ref v0, .int v1] h z) (mQi D ids (m_A h z) r hF z) rm_X7_remove.cells rm_X7_remove.slots (m_A h z) := by
  refine mr_of (cc := cX7_remove) (maxL := 2) (ret := some .int) (by decide) rfl (Nat.le_of_ble_eq_true rfl) ?_
  intro p e s m below meth c ls hx hb hr hml hown hts hlocks hin hR hE hz hl
  have hA : ∀ q, s.heap.size ≤ q → m_A h z q := fun q hq => Or.inr (by rw [← hz]; exact hq)
  have hS : va_S (m_A h z) s.heap s.heap [] := va_S.rf
  have hl : lv_has ls 2 [(0, .ref v0), (1, .int v1)] := hl
  unfold s_X7_remove at hrun
  refine lv_aload_n hx hb dX7_remove_0 rfl (lv_at hl 0 rfl) ?_
  refine lv_iload_n hx hb dX7_remove_1 rfl (lv_at hl 1 rfl) ?_
  obtain ⟨_, ho9, hrun⟩ := m_bind hrun
  obtain ⟨fs9, ho9⟩ := m_is_spec ho9
  obtain ⟨x2, hc9, hrun⟩ := m_bind hrun
  refine mr_calli (mr_runV (As := [.int v1]) (rest := []) hx hb hml hown hts (c_X7_isPlace l D ids st z hc9) yk_X7_isPlace ys_X7_isPlace wm_1_194 ⟨(Nat.le_of_ble_eq_true rfl), (Nat.le_of_ble_eq_true rfl)⟩ (mr_recv (ci := 5) hR hE hz hS hA rfl ho9) hl.1 rfl (Nat.le_of_ble_eq_true rfl) dX7_remove_2 ⟨(Nat.le_of_ble_eq_true rfl), (Nat.le_of_ble_eq_true rfl)⟩) hR hz hS hA (fun H locs hR hz hS => ?_)
  refine lv_if_ne (tgt := 18) hx hb dX7_remove_5 (by decide) (fun hc => ?_) (fun hc => ?_)
  · have hrun := mt_f hrun hc
    refine lv_aload_n hx hb dX7_remove_18 rfl (lv_at hl 0 rfl) ?_
    obtain ⟨x19, hc9, hrun⟩ := m_bind hrun
    refine mr_get (C := RX7) (T := TX7) (N := 8) (ci := 5) hx hb hts (fun w q => m_ws_in (wi_X7 w q)) hown hR rfl 2 (by decide) (hts _ (m_ws_in wm_1_9)) (fun _ h9 => h9) (m_gr_spec hc9) dX7_remove_19 ?_
    refine lv_aload_n hx hb dX7_remove_22 rfl (lv_at hl 0 rfl) ?_
    obtain ⟨x23, hc9, hrun⟩ := m_bind hrun
    refine mr_get (C := RX7) (T := TX7) (N := 8) (ci := 5) hx hb hts (fun w q => m_ws_in (wi_X7 w q)) hown hR rfl 0 (by decide) (hts _ (m_ws_in wm_1_7)) (fun _ h9 => h9) (m_gr_spec hc9) dX7_remove_23 ?_
    obtain ⟨_, ho9, hrun⟩ := m_bind hrun
    obtain ⟨fs9, ho9⟩ := m_is_spec ho9
    obtain ⟨h26, hc9, hrun⟩ := m_bind hrun
    refine mr_callv (mr_runV (As := [.ref x23]) (rest := []) hx hb hml hown hts (c_X2_push l D ids st z hc9) yk_X2_push ys_X2_push wm_2_27 ⟨(Nat.le_of_ble_eq_true rfl), (Nat.le_of_ble_eq_true rfl)⟩ (mr_recv (ci := 1) hR hE hz hS hA rfl ho9) hl.1 rfl (Nat.le_of_ble_eq_true rfl) dX7_remove_26 ⟨(Nat.le_of_ble_eq_true rfl), (Nat.le_of_ble_eq_true rfl)⟩) hR hz hS hA (fun H locs hR hz hS => ?_)
    refine lv_aload_n hx hb dX7_remove_29 rfl (lv_at hl 0 rfl) ?_
    obtain ⟨x30, hc9, hrun⟩ := m_bind hrun
    refine mr_get (C := RX7) (T := TX7) (N := 8) (ci := 5) hx hb hts (fun w q => m_ws_in (wi_X7 w q)) hown hR rfl 0 (by decide) (hts _ (m_ws_in wm_1_7)) (fun _ h9 => h9) (m_gr_spec hc9) dX7_remove_30 ?_
    obtain ⟨x33, hc9, hrun⟩ := m_bind hrun
    refine mr_getN (C := RX3) (T := TX3) (N := 10) (ci := 2) hx hb hts (fun w q => m_ws_in (wi_X3 w q)) hown hR rfl 0 (by decide) (hE.nf (i := 3) rfl) (fun _ h9 => h9) (m_gr_spec hc9) dX7_remove_33 ?_
    refine lv_iload_n hx hb dX7_remove_36 rfl (lv_at hl 1 rfl) ?_
    obtain ⟨_, ho9, hrun⟩ := m_bind hrun
    obtain ⟨fs9, ho9⟩ := m_is_spec ho9
    obtain ⟨h37, hc9, hrun⟩ := m_bind hrun
    refine mr_callv (mr_runV (As := [.int v1]) (rest := []) hx hb hml hown hts (c_X5_takeAway l D ids st z hc9) yk_X5_takeAway ys_X5_takeAway wm_2_37 ⟨(Nat.le_of_ble_eq_true rfl), (Nat.le_of_ble_eq_true rfl)⟩ (mr_recv (ci := 3) hR hE hz hS hA rfl ho9) hl.1 rfl (Nat.le_of_ble_eq_true rfl) dX7_remove_37 ⟨(Nat.le_of_ble_eq_true rfl), (Nat.le_of_ble_eq_true rfl)⟩) hR hz hS hA (fun H locs hR hz hS => ?_)
    refine lv_aload_n hx hb dX7_remove_40 rfl (lv_at hl 0 rfl) ?_
    obtain ⟨_, ho9, hrun⟩ := m_bind hrun
    obtain ⟨fs9, ho9⟩ := m_is_spec ho9
    obtain ⟨h41, hc9, hrun⟩ := m_bind hrun
    refine mr_callv (mr_runV (As := []) (rest := []) hx hb hml hown hts (c_X7_readRides l D ids st z hc9) yk_X7_readRides ys_X7_readRides wm_1_121 ⟨(Nat.le_of_ble_eq_true rfl), (Nat.le_of_ble_eq_true rfl)⟩ (mr_recv (ci := 5) hR hE hz hS hA rfl ho9) hl.1 rfl (Nat.le_of_ble_eq_true rfl) dX7_remove_41 ⟨(Nat.le_of_ble_eq_true rfl), (Nat.le_of_ble_eq_true rfl)⟩) hR hz hS hA (fun H locs hR hz hS => ?_)
    refine lv_aload_n hx hb dX7_remove_44 rfl (lv_at hl 0 rfl) ?_
    obtain ⟨x45, hc9, hrun⟩ := m_bind hrun
    refine mr_get (C := RX7) (T := TX7) (N := 8) (ci := 5) hx hb hts (fun w q => m_ws_in (wi_X7 w q)) hown hR rfl 0 (by decide) (hts _ (m_ws_in wm_1_7)) (fun _ h9 => h9) (m_gr_spec hc9) dX7_remove_45 ?_
    obtain ⟨x48, hc9, hrun⟩ := m_bind hrun
    refine mr_getN (C := RX3) (T := TX3) (N := 10) (ci := 2) hx hb hts (fun w q => m_ws_in (wi_X3 w q)) hown hR rfl 0 (by decide) (hE.nf (i := 3) rfl) (fun _ h9 => h9) (m_gr_spec hc9) dX7_remove_48 ?_
    obtain ⟨x51, hc9, hrun⟩ := m_bind hrun
    refine mr_getN (C := RX5) (T := TX5) (N := 2) (ci := 3) hx hb hts (fun w q => m_ws_in (wi_X5 w q)) hown hR rfl 1 (by decide) (hE.nf (i := 0) rfl) (fun _ h9 => h9) (m_gi_spec hc9) dX7_remove_51 ?_
    obtain ⟨hv9, rfl⟩ := Prod.mk.inj (Option.some.inj hrun); obtain rfl := Sum.inr.inj hv9
    exact mr_iret hx hb hr hlocks hR hz hS dX7_remove_54
  · have hrun := mt_t hrun hc
    exact absurd (Prod.mk.inj (Option.some.inj hrun)).1 (fun h9 => nomatch h9)
/-! X3_enter -/
abbrev rm_X3_enter : Room := { frames := 1, cells := 0, slots := 0, locals := 22 }
theorem yk_X3_enter : m_K yX3_enter cX3_enter 5 (none) 3 := ⟨wm_2_57, wm_0_2, by decide +kernel⟩
theorem ys_X3_enter : Cond.static yX3_enter ∈ wT := wm_2_56
set_option maxRecDepth 100000 in
set_option maxHeartbeats 4000000 in
theorem k_X3_enter_L9 {p : Program} {l : Launch} {e : Env} {s : State} {m : MethodId} {args : Array Value} {below : List Frame} {meth : Method} {c : Code} {D : va_G} {ids : m_I3} {st : m_T} {A : Nat → Prop} {z : Nat} {hF : mH} (hx : p.tables.exec = Jvm.exec) (hb : c.code = cX3_enter) (hr : meth.sig.returnType = none) (hml : c.maxLocals = 5) (hown : s.vm.findClass RX3 = some m.cls) (hts : ∀ w ∈ (m_ws yX3_enter cX3_enter 5 (none)), w.before args s = true) (hlocks : meth.locks = false) (hin : meth.name = yX3_enter.name) (hE : m_EV st A s s.heap) (hA : ∀ q, s.heap.size ≤ q → A q) : ∀ (n : Nat) (h : mH) (v0 : Nat) (v2 : Int32) (v3 : Int32) (v4 : Int32) (H : Heap) (locs : List Loc) (ls : Array Slot), s_X3_enter_L9 n h v0 v2 v3 v4 = some hF → Rl D ids A h s H → H.size = z → va_S A s.heap H locs → lv_has ls 5 [(0, .ref v0), (2, .int v2), (3, .int v3), (4, .int v4)] → W p l e rm_X3_enter s m args below meth c H locs 0 0 (MQ below (mQv D ids A hF z) args s 0 0 A) (F0 m 9 ls []) := by
  intro n
  induction n with
  | zero => intro h v0 v2 v3 v4 H locs ls hrun; exact absurd hrun (by intro h9; cases h9)
  | succ n ih =>
    intro h v0 v2 v3 v4 H locs ls hrun hR hz hS hl
    rw [s_X3_enter_L9] at hrun
    refine lv_iload hx hb dX3_enter_9 (lv_at hl 3 rfl) ?_
    refine lv_if_le (tgt := 38) hx hb dX3_enter_11 (by decide) (fun hc => ?_) (fun hc => ?_)
    · have hrun := mt_t hrun hc
      refine lv_aload_n hx hb dX3_enter_38 rfl (lv_at hl 0 rfl) ?_
      refine lv_iload_n hx hb dX3_enter_39 rfl (lv_at hl 2 rfl) ?_
      refine lv_iload_n hx hb dX3_enter_40 rfl (lv_at hl 1 rfl) ?_
      obtain ⟨h41, hc9, hrun⟩ := m_bind hrun
      refine mr_callv (mr_runS (As := [.ref v0, .int v3, .int v2]) (rest := []) hx hb hml hown hts (c_X1_put l D ids st z hc9) yk_X1_put ys_X1_put wm_2_53 ⟨(Nat.le_of_ble_eq_true rfl), (Nat.le_of_ble_eq_true rfl)⟩ (mr_recvS hR hE hz hS hA) hl.1 rfl (Nat.le_of_ble_eq_true rfl) dX3_enter_41 ⟨(Nat.le_of_ble_eq_true rfl), (Nat.le_of_ble_eq_true rfl)⟩) hR hz hS hA (fun H locs hR hz hS => ?_)
      obtain rfl := Option.some.inj hrun
      exact mr_vret hx hb hr hlocks hR hz hS dX3_enter_44
    · have hrun := mt_f hrun hc
      refine lv_aload_n hx hb dX3_enter_14 rfl (lv_at hl 0 rfl) ?_
      refine lv_iload_n hx hb dX3_enter_15 rfl (lv_at hl 2 rfl) ?_
      refine lv_iload hx hb dX3_enter_16 (lv_at hl 3 rfl) ?_
      refine lv_iadd hx hb dX3_enter_18 ?_
      refine lv_aload_n hx hb dX3_enter_19 rfl (lv_at hl 0 rfl) ?_
      refine lv_iload_n hx hb dX3_enter_20 rfl (lv_at hl 2 rfl) ?_
      refine lv_iload hx hb dX3_enter_21 (lv_at hl 3 rfl) ?_
      refine lv_iadd hx hb dX3_enter_23 ?_
      refine lv_iconst (v := 1) hx hb dX3_enter_24 (by decide) ?_
      refine lv_isub hx hb dX3_enter_25 ?_
      obtain ⟨x26, hc9, hrun⟩ := m_bind hrun
      refine mr_calli (mr_runS (As := [.ref v0, .int ((v3 + v4) - 1)]) (rest := [.int (v3 + v4), .ref v0]) hx hb hml hown hts (c_X1_at l D ids st z hc9) yk_X1_at ys_X1_at wm_2_9 ⟨(Nat.le_of_ble_eq_true rfl), (Nat.le_of_ble_eq_true rfl)⟩ (mr_recvS hR hE hz hS hA) hl.1 rfl (Nat.le_of_ble_eq_true rfl) dX3_enter_26 ⟨(Nat.le_of_ble_eq_true rfl), (Nat.le_of_ble_eq_true rfl)⟩) hR hz hS hA (fun H locs hR hz hS => ?_)
      obtain ⟨h29, hc9, hrun⟩ := m_bind hrun
      refine mr_callv (mr_runS (As := [.ref v0, .int (v3 + v4), .int x26]) (rest := []) hx hb hml hown hts (c_X1_put l D ids st z hc9) yk_X1_put ys_X1_put wm_2_53 ⟨(Nat.le_of_ble_eq_true rfl), (Nat.le_of_ble_eq_true rfl)⟩ (mr_recvS hR hE hz hS hA) hl.1 rfl (Nat.le_of_ble_eq_true rfl) dX3_enter_29 ⟨(Nat.le_of_ble_eq_true rfl), (Nat.le_of_ble_eq_true rfl)⟩) hR hz hS hA (fun H locs hR hz hS => ?_)
      refine lv_iinc (v := v4 + (-1)) (lv' := [(4, .int (v4 + (-1))), (0, .ref v0), (2, .int v2), (3, .int v3)]) hx hb dX3_enter_32 hl (k := 3) rfl rfl (by decide) rfl (fun ls hl => ?_)
      refine lv_goto (tgt := 9) hx hb dX3_enter_35 (by decide) ?_
      exact ih _ _ _ _ _ _ _ _ hrun hR hz hS (lv_sub hl [1, 2, 3, 0] rfl)
set_option maxRecDepth 100000 in
set_option maxHeartbeats 4000000 in
theorem c_X3_enter (l : Launch) (D : va_G) (ids : m_I3) (st : m_T) (z : Nat) {h : mH} {v0 : Nat} {v1 : Int32} {v2 : Int32} {hF : mH} (hrun : s_X3_enter h v0 v1 v2 = some hF) : Met l yX3_enter (m_ws yX3_enter cX3_enter 5 (none)) rm_X3_enter (mPc D ids st [.ref v0, .int v1, .int v2] h z) (mQv D ids (m_A h z) hF z) rm_X3_enter.cells rm_X3_enter.slots (m_A h z) := by
  refine mr_of (cc := cX3_enter) (maxL := 5) (ret := none) (by decide) rfl (Nat.le_of_ble_eq_true rfl) ?_
  intro p e s m below meth c ls hx hb hr hml hown hts hlocks hin hR hE hz hl
  have hA : ∀ q, s.heap.size ≤ q → m_A h z q := fun q hq => Or.inr (by rw [← hz]; exact hq)
  have hS : va_S (m_A h z) s.heap s.heap [] := va_S.rf
  have hl : lv_has ls 5 [(0, .ref v0), (1, .int v1), (2, .int v2)] := hl
  unfold s_X3_enter at hrun
  refine lv_iload_n hx hb dX3_enter_0 rfl (lv_at hl 1 rfl) ?_
  refine lv_bipush (v := 8) hx hb dX3_enter_1 (by decide) ?_
  refine lv_imul hx hb dX3_enter_3 ?_
  refine lv_istore_n (lv' := [(3, .int (v1 * 8)), (0, .ref v0), (1, .int v1), (2, .int v2)]) hx hb dX3_enter_4 rfl hl (by decide) rfl (fun ls hl => ?_)
  refine lv_bipush (v := 7) hx hb dX3_enter_5 (by decide) ?_
  refine lv_istore (lv' := [(4, .int 7), (3, .int (v1 * 8)), (0, .ref v0), (1, .int v1), (2, .int v2)]) hx hb dX3_enter_7 hl (by decide) rfl (fun ls hl => ?_)
  exact k_X3_enter_L9 hx hb hr hml hown hts hlocks hin hE hA _ _ _ _ _ _ _ _ _ hrun hR hz hS (lv_sub hl [2, 4, 1, 0] rfl)
/-! X3_charge -/
abbrev rm_X3_charge : Room := { frames := 2, cells := 0, slots := 0, locals := 46 }
theorem yk_X3_charge : m_K yX3_charge cX3_charge 6 (some .int) 3 := ⟨wm_2_51, wm_0_2, by decide +kernel⟩
theorem ys_X3_charge : Cond.instanceMethod yX3_charge ∈ wT ∧ Cond.selects RX3 yX3_charge yX3_charge ∈ wT := ⟨wm_2_49, wm_2_50⟩
set_option maxRecDepth 100000 in
set_option maxHeartbeats 4000000 in
theorem k_X3_charge_b66 {p : Program} {l : Launch} {e : Env} {s : State} {m : MethodId} {args : Array Value} {below : List Frame} {meth : Method} {c : Code} {D : va_G} {ids : m_I3} {st : m_T} {A : Nat → Prop} {z : Nat} {r : Int32} {hF : mH} (hx : p.tables.exec = Jvm.exec) (hb : c.code = cX3_charge) (hr : meth.sig.returnType = some .int) (hml : c.maxLocals = 6) (hown : s.vm.findClass RX3 = some m.cls) (hts : ∀ w ∈ (m_ws yX3_charge cX3_charge 6 (some .int)), w.before args s = true) (hlocks : meth.locks = false) (hin : meth.name = yX3_charge.name) (hE : m_EV st A s s.heap) (hA : ∀ q, s.heap.size ≤ q → A q) (h : mH) (v0 : Nat) (v1 : Int32) (v2 : Int32) (v5 : Int32) (H : Heap) (locs : List Loc) (ls : Array Slot) (hrun : s_X3_charge_b66 h v0 v1 v2 v5 = some (r, hF)) (hR : Rl D ids A h s H) (hz : H.size = z) (hS : va_S A s.heap H locs) (hl : lv_has ls 6 [(0, .ref v0), (1, .int v1), (2, .int v2), (5, .int v5)]) : W p l e rm_X3_charge s m args below meth c H locs 0 0 (MQ below (mQi D ids A r hF z) args s 0 0 A) (F0 m 66 ls []) := by
  unfold s_X3_charge_b66 at hrun
  refine lv_aload_n hx hb dX3_charge_66 rfl (lv_at hl 0 rfl) ?_
  obtain ⟨x67, hc9, hrun⟩ := m_bind hrun
  refine mr_get (C := RX3) (T := TX3) (N := 10) (ci := 2) hx hb hts (fun w q => m_ws_in (wi_X3 w q)) hown hR rfl 5 (by decide) (hts _ (m_ws_in wm_0_64)) (fun _ h9 => h9) (m_gr_spec hc9) dX3_charge_67 ?_
  refine lv_iload_n hx hb dX3_charge_70 rfl (lv_at hl 1 rfl) ?_
  refine lv_iload_n hx hb dX3_charge_71 rfl (lv_at hl 2 rfl) ?_
  obtain ⟨h72, hc9, hrun⟩ := m_bind hrun
  refine mr_callv (mr_runS (As := [.ref x67, .int v1, .int v2]) (rest := []) hx hb hml hown hts (c_X3_enter l D ids st z hc9) yk_X3_enter ys_X3_enter wm_2_55 ⟨(Nat.le_of_ble_eq_true rfl), (Nat.le_of_ble_eq_true rfl)⟩ (mr_recvS hR hE hz hS hA) hl.1 rfl (Nat.le_of_ble_eq_true rfl) dX3_charge_72 ⟨(Nat.le_of_ble_eq_true rfl), (Nat.le_of_ble_eq_true rfl)⟩) hR hz hS hA (fun H locs hR hz hS => ?_)
  refine lv_aload_n hx hb dX3_charge_75 rfl (lv_at hl 0 rfl) ?_
  obtain ⟨x76, hc9, hrun⟩ := m_bind hrun
  refine mr_get (C := RX3) (T := TX3) (N := 10) (ci := 2) hx hb hts (fun w q => m_ws_in (wi_X3 w q)) hown hR rfl 6 (by decide) (hts _ (m_ws_in wm_0_65)) (fun _ h9 => h9) (m_gr_spec hc9) dX3_charge_76 ?_
  refine lv_iload_n hx hb dX3_charge_79 rfl (lv_at hl 1 rfl) ?_
  refine lv_iload hx hb dX3_charge_80 (lv_at hl 3 rfl) ?_
  refine lv_ldc (v := 100000) hx hb hown (hts _ (m_ws_in wm_2_58)) dX3_charge_82 ?_
  refine lv_iadd hx hb dX3_charge_84 ?_
  obtain ⟨h85, hc9, hrun⟩ := m_bind hrun
  refine mr_callv (mr_runS (As := [.ref x76, .int v1, .int (v5 + 100000)]) (rest := []) hx hb hml hown hts (c_X3_enter l D ids st z hc9) yk_X3_enter ys_X3_enter wm_2_55 ⟨(Nat.le_of_ble_eq_true rfl), (Nat.le_of_ble_eq_true rfl)⟩ (mr_recvS hR hE hz hS hA) hl.1 rfl (Nat.le_of_ble_eq_true rfl) dX3_charge_85 ⟨(Nat.le_of_ble_eq_true rfl), (Nat.le_of_ble_eq_true rfl)⟩) hR hz hS hA (fun H locs hR hz hS => ?_)
  refine lv_iload hx hb dX3_charge_88 (lv_at hl 3 rfl) ?_
  obtain ⟨rfl, rfl⟩ := Prod.mk.inj (Option.some.inj hrun)
  exact mr_iret hx hb hr hlocks hR hz hS dX3_charge_90
set_option maxRecDepth 100000 in
set_option maxHeartbeats 4000000 in
theorem c_X3_charge (l : Launch) (D : va_G) (ids : m_I3) (st : m_T) (z : Nat) {h : mH} {v0 : Nat} {v1 : Int32} {v2 : Int32} {v3 : Int32} {r : Int32} {hF : mH} (hrun : s_X3_charge h v0 v1 v2 v3 = some (r, hF)) : Met l yX3_charge (m_ws yX3_charge cX3_charge 6 (some .int)) rm_X3_charge (mPc D ids st [.ref v0, .int v1, .int v2, .int v3] h z) (mQi D ids (m_A h z) r hF z) rm_X3_charge.cells rm_X3_charge.slots (m_A h z) := by
  refine mr_of (cc := cX3_charge) (maxL := 6) (ret := some .int) (by decide) rfl (Nat.le_of_ble_eq_true rfl) ?_
  intro p e s m below meth c ls hx hb hr hml hown hts hlocks hin hR hE hz hl
  have hA : ∀ q, s.heap.size ≤ q → m_A h z q := fun q hq => Or.inr (by rw [← hz]; exact hq)
  have hS : va_S (m_A h z) s.heap s.heap [] := va_S.rf
  have hl : lv_has ls 6 [(0, .ref v0), (1, .int v1), (2, .int v2), (3, .int v3)] := hl
  unfold s_X3_charge at hrun
  refine lv_iload_n hx hb dX3_charge_0 rfl (lv_at hl 1 rfl) ?_
  refine lv_iload_n hx hb dX3_charge_1 rfl (lv_at hl 2 rfl) ?_
  obtain ⟨x2, hc9, hrun⟩ := m_bind hrun
  refine mr_calli (mr_runSN (As := [.int v1, .int v2]) (rest := []) hx hb hml hown hts (c_X7_weekCell l D ids st z hc9) yk_X7_weekCell ys_X7_weekCell (hE.nm (i := 1) rfl) ⟨(Nat.le_of_ble_eq_true rfl), (Nat.le_of_ble_eq_true rfl)⟩ (mr_recvS hR hE hz hS hA) hl.1 rfl (Nat.le_of_ble_eq_true rfl) dX3_charge_2 ⟨(Nat.le_of_ble_eq_true rfl), (Nat.le_of_ble_eq_true rfl)⟩) hR hz hS hA (fun H locs hR hz hS => ?_)
  refine lv_istore (lv' := [(4, .int x2), (0, .ref v0), (1, .int v1), (2, .int v2), (3, .int v3)]) hx hb dX3_charge_5 hl (by decide) rfl (fun ls hl => ?_)
  refine lv_iload_n hx hb dX3_charge_7 rfl (lv_at hl 4 rfl) ?_
  refine lv_aload_n hx hb dX3_charge_8 rfl (lv_at hl 1 rfl) ?_
  obtain ⟨x9, hc9, hrun⟩ := m_bind hrun
  refine mr_get (C := RX3) (T := TX3) (N := 10) (ci := 2) hx hb hts (fun w q => m_ws_in (wi_X3 w q)) hown hR rfl 2 (by decide) (hts _ (m_ws_in wm_0_58)) (fun _ h9 => h9) (m_gr_spec hc9) dX3_charge_9 ?_
  refine lv_iload hx hb dX3_charge_12 (lv_at hl 0 rfl) ?_
  obtain ⟨x14, hc9, hrun⟩ := m_bind hrun
  refine mr_calli (mr_runS (As := [.ref x9, .int x2]) (rest := [.int v3]) hx hb hml hown hts (c_X1_at l D ids st z hc9) yk_X1_at ys_X1_at wm_2_9 ⟨(Nat.le_of_ble_eq_true rfl), (Nat.le_of_ble_eq_true rfl)⟩ (mr_recvS hR hE hz hS hA) hl.1 rfl (Nat.le_of_ble_eq_true rfl) dX3_charge_14 ⟨(Nat.le_of_ble_eq_true rfl), (Nat.le_of_ble_eq_true rfl)⟩) hR hz hS hA (fun H locs hR hz hS => ?_)
  refine lv_isub hx hb dX3_charge_17 ?_
  refine lv_istore (lv' := [(5, .int (v3 - x14)), (4, .int x2), (0, .ref v0), (1, .int v1), (2, .int v2), (3, .int v3)]) hx hb dX3_charge_18 hl (by decide) rfl (fun ls hl => ?_)
  refine lv_aload_n hx hb dX3_charge_20 rfl (lv_at hl 2 rfl) ?_
  obtain ⟨x21, hc9, hrun⟩ := m_bind hrun
  refine mr_get (C := RX3) (T := TX3) (N := 10) (ci := 2) hx hb hts (fun w q => m_ws_in (wi_X3 w q)) hown hR rfl 2 (by decide) (hts _ (m_ws_in wm_0_58)) (fun _ h9 => h9) (m_gr_spec hc9) dX3_charge_21 ?_
  refine lv_iload hx hb dX3_charge_24 (lv_at hl 1 rfl) ?_
  refine lv_iload_n hx hb dX3_charge_26 rfl (lv_at hl 5 rfl) ?_
  obtain ⟨h27, hc9, hrun⟩ := m_bind hrun
  refine mr_callv (mr_runS (As := [.ref x21, .int x2, .int v3]) (rest := []) hx hb hml hown hts (c_X1_put l D ids st z hc9) yk_X1_put ys_X1_put wm_2_53 ⟨(Nat.le_of_ble_eq_true rfl), (Nat.le_of_ble_eq_true rfl)⟩ (mr_recvS hR hE hz hS hA) hl.1 rfl (Nat.le_of_ble_eq_true rfl) dX3_charge_27 ⟨(Nat.le_of_ble_eq_true rfl), (Nat.le_of_ble_eq_true rfl)⟩) hR hz hS hA (fun H locs hR hz hS => ?_)
  refine lv_aload_n hx hb dX3_charge_30 rfl (lv_at hl 2 rfl) ?_
  obtain ⟨x31, hc9, hrun⟩ := m_bind hrun
  refine mr_get (C := RX3) (T := TX3) (N := 10) (ci := 2) hx hb hts (fun w q => m_ws_in (wi_X3 w q)) hown hR rfl 4 (by decide) (hts _ (m_ws_in wm_0_62)) (fun _ h9 => h9) (m_gr_spec hc9) dX3_charge_31 ?_
  refine lv_iload hx hb dX3_charge_34 (lv_at hl 1 rfl) ?_
  refine lv_iconst (v := 1) hx hb dX3_charge_36 (by decide) ?_
  obtain ⟨h37, hc9, hrun⟩ := m_bind hrun
  refine mr_callv (mr_runS (As := [.ref x31, .int x2, .int 1]) (rest := []) hx hb hml hown hts (c_X1_raise l D ids st z hc9) yk_X1_raise ys_X1_raise wm_2_54 ⟨(Nat.le_of_ble_eq_true rfl), (Nat.le_of_ble_eq_true rfl)⟩ (mr_recvS hR hE hz hS hA) hl.1 rfl (Nat.le_of_ble_eq_true rfl) dX3_charge_37 ⟨(Nat.le_of_ble_eq_true rfl), (Nat.le_of_ble_eq_true rfl)⟩) hR hz hS hA (fun H locs hR hz hS => ?_)
  refine lv_iload hx hb dX3_charge_40 (lv_at hl 0 rfl) ?_
  refine lv_if_ge (tgt := 66) hx hb dX3_charge_42 (by decide) (fun hc => ?_) (fun hc => ?_)
  · have hrun := mt_t hrun hc
    exact k_X3_charge_b66 hx hb hr hml hown hts hlocks hin hE hA _ _ _ _ _ _ _ _ hrun hR hz hS (lv_sub hl [2, 3, 4, 0] rfl)
  · have hrun := mt_f hrun hc
    refine lv_aload_n hx hb dX3_charge_45 rfl (lv_at hl 2 rfl) ?_
    refine lv_dup hx hb dX3_charge_46 rfl ?_
    obtain ⟨x47, hc9, hrun⟩ := m_bind hrun
    refine mr_get (C := RX3) (T := TX3) (N := 10) (ci := 2) hx hb hts (fun w q => m_ws_in (wi_X3 w q)) hown hR rfl 7 (by decide) (hts _ (m_ws_in wm_0_66)) (fun _ h9 => h9) (m_gi_spec hc9) dX3_charge_47 ?_
    refine lv_iconst (v := 1) hx hb dX3_charge_50 (by decide) ?_
    refine lv_iadd hx hb dX3_charge_51 ?_
    obtain ⟨h52, hc9, hrun⟩ := m_bind hrun
    refine mr_put (C := RX3) (T := TX3) (N := 10) (ci := 2) hx hb hts (fun w q => m_ws_in (wi_X3 w q)) tyX3 tyX3_ok nmX3 hown hR hz hS rfl 7 (by decide) (hts _ (m_ws_in wm_0_66)) (fun _ h9 => h9) rfl (tyX3_ok 7 (by decide)) rfl rfl hc9 dX3_charge_52 (fun H locs hR hz hS => ?_)
    refine lv_aload_n hx hb dX3_charge_55 rfl (lv_at hl 2 rfl) ?_
    refine lv_dup hx hb dX3_charge_56 rfl ?_
    obtain ⟨x57, hc9, hrun⟩ := m_bind hrun
    refine mr_get (C := RX3) (T := TX3) (N := 10) (ci := 2) hx hb hts (fun w q => m_ws_in (wi_X3 w q)) hown hR rfl 8 (by decide) (hts _ (m_ws_in wm_0_68)) (fun _ h9 => h9) (m_gi_spec hc9) dX3_charge_57 ?_
    refine lv_iload hx hb dX3_charge_60 (lv_at hl 0 rfl) ?_
    refine lv_isub hx hb dX3_charge_62 ?_
    obtain ⟨h63, hc9, hrun⟩ := m_bind hrun
    refine mr_put (C := RX3) (T := TX3) (N := 10) (ci := 2) hx hb hts (fun w q => m_ws_in (wi_X3 w q)) tyX3 tyX3_ok nmX3 hown hR hz hS rfl 8 (by decide) (hts _ (m_ws_in wm_0_68)) (fun _ h9 => h9) rfl (tyX3_ok 8 (by decide)) rfl rfl hc9 dX3_charge_63 (fun H locs hR hz hS => ?_)
    exact k_X3_charge_b66 hx hb hr hml hown hts hlocks hin hE hA _ _ _ _ _ _ _ _ hrun hR hz hS (lv_sub hl [2, 3, 4, 0] rfl)
/-! X7_settle -/
abbrev rm_X7_settle : Room := { frames := 4, cells := 0, slots := 0, locals := 89 }
theorem yk_X7_settle : m_K yX7_settle cX7_settle 4 (some .int) 1 := ⟨wm_2_46, wm_0_1, by decide +kernel⟩
theorem ys_X7_settle : Cond.instanceMethod yX7_settle ∈ wT ∧ Cond.selects RX7 yX7_settle yX7_settle ∈ wT := ⟨wm_2_44, wm_2_45⟩
set_option maxRecDepth 100000 in
set_option maxHeartbeats 4000000 in
theorem k_X7_settle_L33 {p : Program} {l : Launch} {e : Env} {s : State} {m : MethodId} {args : Array Value} {below : List Frame} {meth : Method} {c : Code} {D : va_G} {ids : m_I3} {st : m_T} {A : Nat → Prop} {z : Nat} {r : Int32} {hF : mH} (hx : p.tables.exec = Jvm.exec) (hb : c.code = cX7_settle) (hr : meth.sig.returnType = some .int) (hml : c.maxLocals = 4) (hown : s.vm.findClass RX7 = some m.cls) (hts : ∀ w ∈ (m_ws yX7_settle cX7_settle 4 (some .int)), w.before args s = true) (hlocks : meth.locks = false) (hin : meth.name = yX7_settle.name) (hE : m_EV st A s s.heap) (hA : ∀ q, s.heap.size ≤ q → A q) : ∀ (n : Nat) (h : mH) (v0 : Nat) (v1 : Int32) (v2 : Int32) (v3 : Int32) (H : Heap) (locs : List Loc) (ls : Array Slot), s_X7_settle_L33 n h v0 v1 v2 v3 = some (Sum.inr r, hF) → Rl D ids A h s H → H.size = z → va_S A s.heap H locs → lv_has ls 4 [(0, .ref v0), (1, .int v1), (2, .int v2), (3, .int v3)] → W p l e rm_X7_settle s m args below meth c H locs 0 0 (MQ below (mQi D ids A r hF z) args s 0 0 A) (F0 m 33 ls []) := by
  intro n
  induction n with
  | zero => intro h v0 v1 v2 v3 H locs ls hrun; exact absurd hrun (by intro h9; cases h9)
  | succ n ih =>
    intro h v0 v1 v2 v3 H locs ls hrun hR hz hS hl
    rw [s_X7_settle_L33] at hrun
    refine lv_iload_n hx hb dX7_settle_33 rfl (lv_at hl 3 rfl) ?_
    refine lv_iconst (v := 4) hx hb dX7_settle_34 (by decide) ?_
    refine lv_icmp_ge (tgt := 65) hx hb dX7_settle_35 (by decide) (fun hc => ?_) (fun hc => ?_)
    · have hrun := mt_t hrun hc
      refine lv_iload_n hx hb dX7_settle_65 rfl (lv_at hl 2 rfl) ?_
      refine lv_ldc (v := 100000) hx hb hown (hts _ (m_ws_in wm_2_59)) dX7_settle_66 ?_
      refine lv_iadd hx hb dX7_settle_68 ?_
      obtain ⟨hv9, rfl⟩ := Prod.mk.inj (Option.some.inj hrun); obtain rfl := Sum.inr.inj hv9
      exact mr_iret hx hb hr hlocks hR hz hS dX7_settle_69
    · have hrun := mt_f hrun hc
      refine lv_iload_n hx hb dX7_settle_38 rfl (lv_at hl 2 rfl) ?_
      refine lv_aload_n hx hb dX7_settle_39 rfl (lv_at hl 0 rfl) ?_
      obtain ⟨x40, hc9, hrun⟩ := m_bind hrun
      refine mr_get (C := RX7) (T := TX7) (N := 8) (ci := 5) hx hb hts (fun w q => m_ws_in (wi_X7 w q)) hown hR rfl 0 (by decide) (hts _ (m_ws_in wm_1_7)) (fun _ h9 => h9) (m_gr_spec hc9) dX7_settle_40 ?_
      refine lv_iload_n hx hb dX7_settle_43 rfl (lv_at hl 3 rfl) ?_
      refine lv_iload_n hx hb dX7_settle_44 rfl (lv_at hl 1 rfl) ?_
      refine lv_aload_n hx hb dX7_settle_45 rfl (lv_at hl 0 rfl) ?_
      obtain ⟨x46, hc9, hrun⟩ := m_bind hrun
      refine mr_get (C := RX7) (T := TX7) (N := 8) (ci := 5) hx hb hts (fun w q => m_ws_in (wi_X7 w q)) hown hR rfl 1 (by decide) (hts _ (m_ws_in wm_1_8)) (fun _ h9 => h9) (m_gr_spec hc9) dX7_settle_46 ?_
      refine lv_iload_n hx hb dX7_settle_49 rfl (lv_at hl 3 rfl) ?_
      refine lv_iload_n hx hb dX7_settle_50 rfl (lv_at hl 1 rfl) ?_
      obtain ⟨_, ho9, hrun⟩ := m_bind hrun
      obtain ⟨fs9, ho9⟩ := m_is_spec ho9
      obtain ⟨x51, hc9, hrun⟩ := m_bind hrun
      refine mr_calli (mr_runV (As := [.int v3, .int v1]) (rest := [.int v1, .int v3, .ref x40, .int v2]) hx hb hml hown hts (c_X0_weekCost l D ids st z hc9) yk_X0_weekCost ys_X0_weekCost wm_1_159 ⟨(Nat.le_of_ble_eq_true rfl), (Nat.le_of_ble_eq_true rfl)⟩ (mr_recv (ci := 0) hR hE hz hS hA rfl ho9) hl.1 rfl (Nat.le_of_ble_eq_true rfl) dX7_settle_51 ⟨(Nat.le_of_ble_eq_true rfl), (Nat.le_of_ble_eq_true rfl)⟩) hR hz hS hA (fun H locs hR hz hS => ?_)
      obtain ⟨_, ho9, hrun⟩ := m_bind hrun
      obtain ⟨fs9, ho9⟩ := m_is_spec ho9
      obtain ⟨⟨x54, h54⟩, hc9, hrun⟩ := m_bind hrun
      refine mr_calli (mr_runV (As := [.int v3, .int v1, .int x51]) (rest := [.int v2]) hx hb hml hown hts (c_X3_charge l D ids st z hc9) yk_X3_charge ys_X3_charge wm_2_48 ⟨(Nat.le_of_ble_eq_true rfl), (Nat.le_of_ble_eq_true rfl)⟩ (mr_recv (ci := 2) hR hE hz hS hA rfl ho9) hl.1 rfl (Nat.le_of_ble_eq_true rfl) dX7_settle_54 ⟨(Nat.le_of_ble_eq_true rfl), (Nat.le_of_ble_eq_true rfl)⟩) hR hz hS hA (fun H locs hR hz hS => ?_)
      refine lv_iadd hx hb dX7_settle_57 ?_
      refine lv_istore_n (lv' := [(2, .int (v2 + x54)), (0, .ref v0), (1, .int v1), (3, .int v3)]) hx hb dX7_settle_58 rfl hl (by decide) rfl (fun ls hl => ?_)
      refine lv_iinc (v := v3 + 1) (lv' := [(3, .int (v3 + 1)), (2, .int (v2 + x54)), (0, .ref v0), (1, .int v1)]) hx hb dX7_settle_59 hl (k := 3) rfl rfl (by decide) rfl (fun ls hl => ?_)
      refine lv_goto (tgt := 33) hx hb dX7_settle_62 (by decide) ?_
      exact ih _ _ _ _ _ _ _ _ hrun hR hz hS (lv_sub hl [2, 3, 1, 0] rfl)
set_option maxRecDepth 100000 in
set_option maxHeartbeats 4000000 in
theorem c_X7_settle (l : Launch) (D : va_G) (ids : m_I3) (st : m_T) (z : Nat) {h : mH} {v0 : Nat} {v1 : Int32} {r : Int32} {hF : mH} (hrun : s_X7_settle h v0 v1 = some (Sum.inr r, hF)) : Met l yX7_settle (m_ws yX7_settle cX7_settle 4 (some .int)) rm_X7_settle (mPc D ids st [.ref v0, .int v1] h z) (mQi D ids (m_A h z) r hF z) rm_X7_settle.cells rm_X7_settle.slots (m_A h z) := by
  refine mr_of (cc := cX7_settle) (maxL := 4) (ret := some .int) (by decide) rfl (Nat.le_of_ble_eq_true rfl) ?_
  intro p e s m below meth c ls hx hb hr hml hown hts hlocks hin hR hE hz hl
  have hA : ∀ q, s.heap.size ≤ q → m_A h z q := fun q hq => Or.inr (by rw [← hz]; exact hq)
  have hS : va_S (m_A h z) s.heap s.heap [] := va_S.rf
  have hl : lv_has ls 4 [(0, .ref v0), (1, .int v1)] := hl
  unfold s_X7_settle at hrun
  refine lv_iload_n hx hb dX7_settle_0 rfl (lv_at hl 1 rfl) ?_
  refine lv_iconst (v := 4) hx hb dX7_settle_1 (by decide) ?_
  obtain ⟨x2, hc9, hrun⟩ := m_bind hrun
  refine mr_calli (mr_runS (As := [.int v1, .int 4]) (rest := []) hx hb hml hown hts (c_X7_isBelow l D ids st z hc9) yk_X7_isBelow ys_X7_isBelow wm_1_129 ⟨(Nat.le_of_ble_eq_true rfl), (Nat.le_of_ble_eq_true rfl)⟩ (mr_recvS hR hE hz hS hA) hl.1 rfl (Nat.le_of_ble_eq_true rfl) dX7_settle_2 ⟨(Nat.le_of_ble_eq_true rfl), (Nat.le_of_ble_eq_true rfl)⟩) hR hz hS hA (fun H locs hR hz hS => ?_)
  refine lv_if_ne (tgt := 18) hx hb dX7_settle_5 (by decide) (fun hc => ?_) (fun hc => ?_)
  · have hrun := mt_f hrun hc
    refine lv_aload_n hx hb dX7_settle_18 rfl (lv_at hl 0 rfl) ?_
    obtain ⟨x19, hc9, hrun⟩ := m_bind hrun
    refine mr_get (C := RX7) (T := TX7) (N := 8) (ci := 5) hx hb hts (fun w q => m_ws_in (wi_X7 w q)) hown hR rfl 2 (by decide) (hts _ (m_ws_in wm_1_9)) (fun _ h9 => h9) (m_gr_spec hc9) dX7_settle_19 ?_
    refine lv_aload_n hx hb dX7_settle_22 rfl (lv_at hl 0 rfl) ?_
    obtain ⟨x23, hc9, hrun⟩ := m_bind hrun
    refine mr_get (C := RX7) (T := TX7) (N := 8) (ci := 5) hx hb hts (fun w q => m_ws_in (wi_X7 w q)) hown hR rfl 0 (by decide) (hts _ (m_ws_in wm_1_7)) (fun _ h9 => h9) (m_gr_spec hc9) dX7_settle_23 ?_
    obtain ⟨_, ho9, hrun⟩ := m_bind hrun
    obtain ⟨fs9, ho9⟩ := m_is_spec ho9
    obtain ⟨h26, hc9, hrun⟩ := m_bind hrun
    refine mr_callv (mr_runV (As := [.ref x23]) (rest := []) hx hb hml hown hts (c_X2_push l D ids st z hc9) yk_X2_push ys_X2_push wm_2_27 ⟨(Nat.le_of_ble_eq_true rfl), (Nat.le_of_ble_eq_true rfl)⟩ (mr_recv (ci := 1) hR hE hz hS hA rfl ho9) hl.1 rfl (Nat.le_of_ble_eq_true rfl) dX7_settle_26 ⟨(Nat.le_of_ble_eq_true rfl), (Nat.le_of_ble_eq_true rfl)⟩) hR hz hS hA (fun H locs hR hz hS => ?_)
    refine lv_iconst (v := 0) hx hb dX7_settle_29 (by decide) ?_
    refine lv_istore_n (lv' := [(2, .int 0), (0, .ref v0), (1, .int v1)]) hx hb dX7_settle_30 rfl hl (by decide) rfl (fun ls hl => ?_)
    refine lv_iconst (v := 0) hx hb dX7_settle_31 (by decide) ?_
    refine lv_istore_n (lv' := [(3, .int 0), (2, .int 0), (0, .ref v0), (1, .int v1)]) hx hb dX7_settle_32 rfl hl (by decide) rfl (fun ls hl => ?_)
    exact k_X7_settle_L33 hx hb hr hml hown hts hlocks hin hE hA _ _ _ _ _ _ _ _ _ hrun hR hz hS (lv_sub hl [2, 3, 1, 0] rfl)
  · have hrun := mt_t hrun hc
    exact absurd (Prod.mk.inj (Option.some.inj hrun)).1 (fun h9 => nomatch h9)
/-! X7_isMinuteStation -/
abbrev rm_X7_isMinuteStation : Room := { frames := 1, cells := 0, slots := 0, locals := 21 }
theorem yk_X7_isMinuteStation : m_K yX7_isMinuteStation cX7_isMinuteStation 2 (some .boolean) 2 := ⟨wm_2_66, wm_0_1, by decide +kernel⟩
theorem ys_X7_isMinuteStation : Cond.static yX7_isMinuteStation ∈ wT := wm_2_65
set_option maxRecDepth 100000 in
set_option maxHeartbeats 4000000 in
theorem k_X7_isMinuteStation_b24 {p : Program} {l : Launch} {e : Env} {s : State} {m : MethodId} {args : Array Value} {below : List Frame} {meth : Method} {c : Code} {D : va_G} {ids : m_I3} {st : m_T} {A : Nat → Prop} {z : Nat} {r : Int32} (hx : p.tables.exec = Jvm.exec) (hb : c.code = cX7_isMinuteStation) (hr : meth.sig.returnType = some .boolean) (hml : c.maxLocals = 2) (hown : s.vm.findClass RX7 = some m.cls) (hts : ∀ w ∈ (m_ws yX7_isMinuteStation cX7_isMinuteStation 2 (some .boolean)), w.before args s = true) (hlocks : meth.locks = false) (hin : meth.name = yX7_isMinuteStation.name) (hE : m_EV st A s s.heap) (hA : ∀ q, s.heap.size ≤ q → A q) {h : mH} (t0 : Int32) (H : Heap) (locs : List Loc) (ls : Array Slot) (hrun : s_X7_isMinuteStation_b24 h t0 = some r) (hR : Rl D ids A h s H) (hz : H.size = z) (hS : va_S A s.heap H locs) (hl : lv_has ls 2 []) : W p l e rm_X7_isMinuteStation s m args below meth c H locs 0 0 (MQ below (mQi D ids A r h z) args s 0 0 A) (F0 m 24 ls [.int t0]) := by
  unfold s_X7_isMinuteStation_b24 at hrun
  obtain ⟨w9, hzr, hrun⟩ := m_bind hrun
  obtain rfl := Option.some.inj hrun
  exact mr_zret hzr hx hb hr hlocks hR hz hS dX7_isMinuteStation_24
set_option maxRecDepth 100000 in
set_option maxHeartbeats 4000000 in
theorem k_X7_isMinuteStation_b23 {p : Program} {l : Launch} {e : Env} {s : State} {m : MethodId} {args : Array Value} {below : List Frame} {meth : Method} {c : Code} {D : va_G} {ids : m_I3} {st : m_T} {A : Nat → Prop} {z : Nat} {r : Int32} (hx : p.tables.exec = Jvm.exec) (hb : c.code = cX7_isMinuteStation) (hr : meth.sig.returnType = some .boolean) (hml : c.maxLocals = 2) (hown : s.vm.findClass RX7 = some m.cls) (hts : ∀ w ∈ (m_ws yX7_isMinuteStation cX7_isMinuteStation 2 (some .boolean)), w.before args s = true) (hlocks : meth.locks = false) (hin : meth.name = yX7_isMinuteStation.name) (hE : m_EV st A s s.heap) (hA : ∀ q, s.heap.size ≤ q → A q) {h : mH} (H : Heap) (locs : List Loc) (ls : Array Slot) (hrun : s_X7_isMinuteStation_b23 h  = some r) (hR : Rl D ids A h s H) (hz : H.size = z) (hS : va_S A s.heap H locs) (hl : lv_has ls 2 []) : W p l e rm_X7_isMinuteStation s m args below meth c H locs 0 0 (MQ below (mQi D ids A r h z) args s 0 0 A) (F0 m 23 ls []) := by
  unfold s_X7_isMinuteStation_b23 at hrun
  refine lv_iconst (v := 0) hx hb dX7_isMinuteStation_23 (by decide) ?_
  exact k_X7_isMinuteStation_b24 hx hb hr hml hown hts hlocks hin hE hA _ _ _ _ hrun hR hz hS (lv_sub hl [] rfl)
set_option maxRecDepth 100000 in
set_option maxHeartbeats 4000000 in
theorem c_X7_isMinuteStation (l : Launch) (D : va_G) (ids : m_I3) (st : m_T) (z : Nat) {h : mH} {v0 : Int32} {v1 : Int32} {r : Int32} (hrun : s_X7_isMinuteStation h v0 v1 = some r) : Met l yX7_isMinuteStation (m_ws yX7_isMinuteStation cX7_isMinuteStation 2 (some .boolean)) rm_X7_isMinuteStation (mPc D ids st [.int v0, .int v1] h z) (mQi D ids (m_A h z) r h z) rm_X7_isMinuteStation.cells rm_X7_isMinuteStation.slots (m_A h z) := by
  refine mr_of (cc := cX7_isMinuteStation) (maxL := 2) (ret := some .boolean) (by decide) rfl (Nat.le_of_ble_eq_true rfl) ?_
  intro p e s m below meth c ls hx hb hr hml hown hts hlocks hin hR hE hz hl
  have hA : ∀ q, s.heap.size ≤ q → m_A h z q := fun q hq => Or.inr (by rw [← hz]; exact hq)
  have hS : va_S (m_A h z) s.heap s.heap [] := va_S.rf
  have hl : lv_has ls 2 [(0, .int v0), (1, .int v1)] := hl
  unfold s_X7_isMinuteStation at hrun
  refine lv_iload_n hx hb dX7_isMinuteStation_0 rfl (lv_at hl 0 rfl) ?_
  refine lv_sipush (v := 1440) hx hb dX7_isMinuteStation_1 (by decide) ?_
  obtain ⟨x4, hc9, hrun⟩ := m_bind hrun
  refine mr_calli (mr_runS (As := [.int v0, .int 1440]) (rest := []) hx hb hml hown hts (c_X7_isBelow l D ids st z hc9) yk_X7_isBelow ys_X7_isBelow wm_1_129 ⟨(Nat.le_of_ble_eq_true rfl), (Nat.le_of_ble_eq_true rfl)⟩ (mr_recvS hR hE hz hS hA) hl.1 rfl (Nat.le_of_ble_eq_true rfl) dX7_isMinuteStation_4 ⟨(Nat.le_of_ble_eq_true rfl), (Nat.le_of_ble_eq_true rfl)⟩) hR hz hS hA (fun H locs hR hz hS => ?_)
  refine lv_if_eq (tgt := 23) hx hb dX7_isMinuteStation_7 (by decide) (fun hc => ?_) (fun hc => ?_)
  · have hrun := mt_t hrun hc
    exact k_X7_isMinuteStation_b23 hx hb hr hml hown hts hlocks hin hE hA _ _ _ hrun hR hz hS (lv_sub hl [] rfl)
  · have hrun := mt_f hrun hc
    refine lv_iload_n hx hb dX7_isMinuteStation_10 rfl (lv_at hl 1 rfl) ?_
    refine lv_bipush (v := 10) hx hb dX7_isMinuteStation_11 (by decide) ?_
    obtain ⟨x13, hc9, hrun⟩ := m_bind hrun
    refine mr_calli (mr_runS (As := [.int v1, .int 10]) (rest := []) hx hb hml hown hts (c_X7_isBelow l D ids st z hc9) yk_X7_isBelow ys_X7_isBelow wm_1_129 ⟨(Nat.le_of_ble_eq_true rfl), (Nat.le_of_ble_eq_true rfl)⟩ (mr_recvS hR hE hz hS hA) hl.1 rfl (Nat.le_of_ble_eq_true rfl) dX7_isMinuteStation_13 ⟨(Nat.le_of_ble_eq_true rfl), (Nat.le_of_ble_eq_true rfl)⟩) hR hz hS hA (fun H locs hR hz hS => ?_)
    refine lv_if_eq (tgt := 23) hx hb dX7_isMinuteStation_16 (by decide) (fun hc => ?_) (fun hc => ?_)
    · have hrun := mt_t hrun hc
      exact k_X7_isMinuteStation_b23 hx hb hr hml hown hts hlocks hin hE hA _ _ _ hrun hR hz hS (lv_sub hl [] rfl)
    · have hrun := mt_f hrun hc
      refine lv_iconst (v := 1) hx hb dX7_isMinuteStation_19 (by decide) ?_
      refine lv_goto (tgt := 24) hx hb dX7_isMinuteStation_20 (by decide) ?_
      exact k_X7_isMinuteStation_b24 hx hb hr hml hown hts hlocks hin hE hA _ _ _ _ hrun hR hz hS (lv_sub hl [] rfl)
/-! X4_weekOf -/
abbrev rm_X4_weekOf : Room := { frames := 1, cells := 0, slots := 0, locals := 20 }
theorem yk_X4_weekOf : m_K yX4_weekOf cX4_weekOf 1 (some .int) 1 := ⟨wm_2_74, wm_0_8, by decide +kernel⟩
theorem ys_X4_weekOf : Cond.static yX4_weekOf ∈ wT := wm_2_73
set_option maxRecDepth 100000 in
set_option maxHeartbeats 4000000 in
theorem c_X4_weekOf (l : Launch) (D : va_G) (ids : m_I3) (st : m_T) (z : Nat) {h : mH} {v0 : Int32} {r : Int32} (hrun : s_X4_weekOf h v0 = some r) : Met l yX4_weekOf (m_ws yX4_weekOf cX4_weekOf 1 (some .int)) rm_X4_weekOf (mPc D ids st [.int v0] h z) (mQi D ids (m_A h z) r h z) rm_X4_weekOf.cells rm_X4_weekOf.slots (m_A h z) := by
  refine mr_of (cc := cX4_weekOf) (maxL := 1) (ret := some .int) (by decide) rfl (Nat.le_of_ble_eq_true rfl) ?_
  intro p e s m below meth c ls hx hb hr hml hown hts hlocks hin hR hE hz hl
  have hA : ∀ q, s.heap.size ≤ q → m_A h z q := fun q hq => Or.inr (by rw [← hz]; exact hq)
  have hS : va_S (m_A h z) s.heap s.heap [] := va_S.rf
  have hl : lv_has ls 1 [(0, .int v0)] := hl
  unfold s_X4_weekOf at hrun
  refine lv_iload_n hx hb dX4_weekOf_0 rfl (lv_at hl 0 rfl) ?_
  obtain ⟨x1, hc9, hrun⟩ := m_bind hrun
  refine mr_calli (mr_runS (As := [.int v0]) (rest := []) hx hb hml hown hts (c_X4_dayOf l D ids st z hc9) yk_X4_dayOf ys_X4_dayOf wm_2_75 ⟨(Nat.le_of_ble_eq_true rfl), (Nat.le_of_ble_eq_true rfl)⟩ (mr_recvS hR hE hz hS hA) hl.1 rfl (Nat.le_of_ble_eq_true rfl) dX4_weekOf_1 ⟨(Nat.le_of_ble_eq_true rfl), (Nat.le_of_ble_eq_true rfl)⟩) hR hz hS hA (fun H locs hR hz hS => ?_)
  refine lv_bipush (v := 7) hx hb dX4_weekOf_4 (by decide) ?_
  obtain ⟨x6, hc9, hrun⟩ := m_bind hrun
  obtain ⟨hn9, rfl⟩ := m_div_spec hc9
  refine lv_idiv hx hb dX4_weekOf_6 hn9 ?_
  refine lv_topi (fun x6 ex6 => ?_)
  try rw [← ex6] at hrun
  obtain rfl := Option.some.inj hrun
  exact mr_iret hx hb hr hlocks hR hz hS dX4_weekOf_7
/-! X4_make -/
abbrev rm_X4_make : Room := { frames := 0, cells := 0, slots := 0, locals := 0 }
theorem yk_X4_make : m_K yX4_make cX4_make 5 (some .int) 5 := ⟨wm_2_83, wm_0_8, by decide +kernel⟩
theorem ys_X4_make : Cond.static yX4_make ∈ wT := wm_2_82
set_option maxRecDepth 100000 in
set_option maxHeartbeats 4000000 in
theorem k_X4_make_b28 {p : Program} {l : Launch} {e : Env} {s : State} {m : MethodId} {args : Array Value} {below : List Frame} {meth : Method} {c : Code} {D : va_G} {ids : m_I3} {st : m_T} {A : Nat → Prop} {z : Nat} {r : Int32} (hx : p.tables.exec = Jvm.exec) (hb : c.code = cX4_make) (hr : meth.sig.returnType = some .int) (hml : c.maxLocals = 5) (hown : s.vm.findClass RX4 = some m.cls) (hts : ∀ w ∈ (m_ws yX4_make cX4_make 5 (some .int)), w.before args s = true) (hlocks : meth.locks = false) (hin : meth.name = yX4_make.name) (hE : m_EV st A s s.heap) (hA : ∀ q, s.heap.size ≤ q → A q) {h : mH} (t0 : Int32) (t1 : Int32) (H : Heap) (locs : List Loc) (ls : Array Slot) (hrun : s_X4_make_b28 h t0 t1 = some r) (hR : Rl D ids A h s H) (hz : H.size = z) (hS : va_S A s.heap H locs) (hl : lv_has ls 5 []) : W p l e rm_X4_make s m args below meth c H locs 0 0 (MQ below (mQi D ids A r h z) args s 0 0 A) (F0 m 28 ls [.int t1, .int t0]) := by
  unfold s_X4_make_b28 at hrun
  refine lv_ior hx hb dX4_make_28 ?_
  obtain rfl := Option.some.inj hrun
  exact mr_iret hx hb hr hlocks hR hz hS dX4_make_29
set_option maxRecDepth 100000 in
set_option maxHeartbeats 4000000 in
theorem c_X4_make (l : Launch) (D : va_G) (ids : m_I3) (st : m_T) (z : Nat) {h : mH} {v0 : Int32} {v1 : Int32} {v2 : Int32} {v3 : Int32} {v4 : Int32} {r : Int32} (hrun : s_X4_make h v0 v1 v2 v3 v4 = some r) : Met l yX4_make (m_ws yX4_make cX4_make 5 (some .int)) rm_X4_make (mPc D ids st [.int v0, .int v1, .int v2, .int v3, .int v4] h z) (mQi D ids (m_A h z) r h z) rm_X4_make.cells rm_X4_make.slots (m_A h z) := by
  refine mr_of (cc := cX4_make) (maxL := 5) (ret := some .int) (by decide) rfl (Nat.le_of_ble_eq_true rfl) ?_
  intro p e s m below meth c ls hx hb hr hml hown hts hlocks hin hR hE hz hl
  have hA : ∀ q, s.heap.size ≤ q → m_A h z q := fun q hq => Or.inr (by rw [← hz]; exact hq)
  have hS : va_S (m_A h z) s.heap s.heap [] := va_S.rf
  have hl : lv_has ls 5 [(0, .int v0), (1, .int v1), (2, .int v2), (3, .int v3), (4, .int v4)] := hl
  unfold s_X4_make at hrun
  refine lv_iload_n hx hb dX4_make_0 rfl (lv_at hl 1 rfl) ?_
  refine lv_bipush (v := 19) hx hb dX4_make_1 (by decide) ?_
  refine lv_ishl hx hb dX4_make_3 ?_
  refine lv_iload_n hx hb dX4_make_4 rfl (lv_at hl 2 rfl) ?_
  refine lv_bipush (v := 8) hx hb dX4_make_5 (by decide) ?_
  refine lv_ishl hx hb dX4_make_7 ?_
  refine lv_ior hx hb dX4_make_8 ?_
  refine lv_iload_n hx hb dX4_make_9 rfl (lv_at hl 0 rfl) ?_
  refine lv_bipush (v := 6) hx hb dX4_make_10 (by decide) ?_
  refine lv_ishl hx hb dX4_make_12 ?_
  refine lv_ior hx hb dX4_make_13 ?_
  refine lv_iload_n hx hb dX4_make_14 rfl (lv_at hl 3 rfl) ?_
  refine lv_iconst (v := 2) hx hb dX4_make_15 (by decide) ?_
  refine lv_ishl hx hb dX4_make_16 ?_
  refine lv_ior hx hb dX4_make_17 ?_
  refine lv_iload hx hb dX4_make_18 (lv_at hl 4 rfl) ?_
  refine lv_if_eq (tgt := 27) hx hb dX4_make_20 (by decide) (fun hc => ?_) (fun hc => ?_)
  · have hrun := mt_t hrun hc
    refine lv_iconst (v := 0) hx hb dX4_make_27 (by decide) ?_
    exact k_X4_make_b28 hx hb hr hml hown hts hlocks hin hE hA _ _ _ _ _ hrun hR hz hS (lv_sub hl [] rfl)
  · have hrun := mt_f hrun hc
    refine lv_iconst (v := 2) hx hb dX4_make_23 (by decide) ?_
    refine lv_goto (tgt := 28) hx hb dX4_make_24 (by decide) ?_
    exact k_X4_make_b28 hx hb hr hml hown hts hlocks hin hE hA _ _ _ _ _ hrun hR hz hS (lv_sub hl [] rfl)
/-! X4_missingOf -/
abbrev rm_X4_missingOf : Room := { frames := 1, cells := 0, slots := 0, locals := 24 }
theorem yk_X4_missingOf : m_K yX4_missingOf cX4_missingOf 3 (some .int) 3 := ⟨wm_2_78, wm_0_8, by decide +kernel⟩
theorem ys_X4_missingOf : Cond.static yX4_missingOf ∈ wT := wm_2_77
set_option maxRecDepth 100000 in
set_option maxHeartbeats 4000000 in
theorem k_X4_missingOf_b22 {p : Program} {l : Launch} {e : Env} {s : State} {m : MethodId} {args : Array Value} {below : List Frame} {meth : Method} {c : Code} {D : va_G} {ids : m_I3} {st : m_T} {A : Nat → Prop} {z : Nat} {r : Int32} (hx : p.tables.exec = Jvm.exec) (hb : c.code = cX4_missingOf) (hr : meth.sig.returnType = some .int) (hml : c.maxLocals = 3) (hown : s.vm.findClass RX4 = some m.cls) (hts : ∀ w ∈ (m_ws yX4_missingOf cX4_missingOf 3 (some .int)), w.before args s = true) (hlocks : meth.locks = false) (hin : meth.name = yX4_missingOf.name) (hE : m_EV st A s s.heap) (hA : ∀ q, s.heap.size ≤ q → A q) {h : mH} (t0 : Int32) (t1 : Int32) (t2 : Int32) (t3 : Int32) (t4 : Int32) (H : Heap) (locs : List Loc) (ls : Array Slot) (hrun : s_X4_missingOf_b22 h t0 t1 t2 t3 t4 = some r) (hR : Rl D ids A h s H) (hz : H.size = z) (hS : va_S A s.heap H locs) (hl : lv_has ls 3 []) : W p l e rm_X4_missingOf s m args below meth c H locs 0 0 (MQ below (mQi D ids A r h z) args s 0 0 A) (F0 m 22 ls [.int t4, .int t3, .int t2, .int t1, .int t0]) := by
  unfold s_X4_missingOf_b22 at hrun
  obtain ⟨x22, hc9, hrun⟩ := m_bind hrun
  refine mr_calli (mr_runS (As := [.int t0, .int t1, .int t2, .int t3, .int t4]) (rest := []) hx hb hml hown hts (c_X4_make l D ids st z hc9) yk_X4_make ys_X4_make wm_2_81 ⟨(Nat.le_of_ble_eq_true rfl), (Nat.le_of_ble_eq_true rfl)⟩ (mr_recvS hR hE hz hS hA) hl.1 rfl (Nat.le_of_ble_eq_true rfl) dX4_missingOf_22 ⟨(Nat.le_of_ble_eq_true rfl), (Nat.le_of_ble_eq_true rfl)⟩) hR hz hS hA (fun H locs hR hz hS => ?_)
  refine lv_iconst (v := 1) hx hb dX4_missingOf_25 (by decide) ?_
  refine lv_ior hx hb dX4_missingOf_26 ?_
  obtain rfl := Option.some.inj hrun
  exact mr_iret hx hb hr hlocks hR hz hS dX4_missingOf_27
set_option maxRecDepth 100000 in
set_option maxHeartbeats 4000000 in
theorem c_X4_missingOf (l : Launch) (D : va_G) (ids : m_I3) (st : m_T) (z : Nat) {h : mH} {v0 : Int32} {v1 : Int32} {v2 : Int32} {r : Int32} (hrun : s_X4_missingOf h v0 v1 v2 = some r) : Met l yX4_missingOf (m_ws yX4_missingOf cX4_missingOf 3 (some .int)) rm_X4_missingOf (mPc D ids st [.int v0, .int v1, .int v2] h z) (mQi D ids (m_A h z) r h z) rm_X4_missingOf.cells rm_X4_missingOf.slots (m_A h z) := by
  refine mr_of (cc := cX4_missingOf) (maxL := 3) (ret := some .int) (by decide) rfl (Nat.le_of_ble_eq_true rfl) ?_
  intro p e s m below meth c ls hx hb hr hml hown hts hlocks hin hR hE hz hl
  have hA : ∀ q, s.heap.size ≤ q → m_A h z q := fun q hq => Or.inr (by rw [← hz]; exact hq)
  have hS : va_S (m_A h z) s.heap s.heap [] := va_S.rf
  have hl : lv_has ls 3 [(0, .int v0), (1, .int v1), (2, .int v2)] := hl
  unfold s_X4_missingOf at hrun
  refine lv_iload_n hx hb dX4_missingOf_0 rfl (lv_at hl 0 rfl) ?_
  obtain ⟨x1, hc9, hrun⟩ := m_bind hrun
  refine mr_calli (mr_runS (As := [.int v0]) (rest := []) hx hb hml hown hts (c_X4_walletOf l D ids st z hc9) yk_X4_walletOf ys_X4_walletOf wm_2_79 ⟨(Nat.le_of_ble_eq_true rfl), (Nat.le_of_ble_eq_true rfl)⟩ (mr_recvS hR hE hz hS hA) hl.1 rfl (Nat.le_of_ble_eq_true rfl) dX4_missingOf_1 ⟨(Nat.le_of_ble_eq_true rfl), (Nat.le_of_ble_eq_true rfl)⟩) hR hz hS hA (fun H locs hR hz hS => ?_)
  refine lv_iload_n hx hb dX4_missingOf_4 rfl (lv_at hl 0 rfl) ?_
  obtain ⟨x5, hc9, hrun⟩ := m_bind hrun
  refine mr_calli (mr_runS (As := [.int v0]) (rest := [.int x1]) hx hb hml hown hts (c_X4_dayOf l D ids st z hc9) yk_X4_dayOf ys_X4_dayOf wm_2_75 ⟨(Nat.le_of_ble_eq_true rfl), (Nat.le_of_ble_eq_true rfl)⟩ (mr_recvS hR hE hz hS hA) hl.1 rfl (Nat.le_of_ble_eq_true rfl) dX4_missingOf_5 ⟨(Nat.le_of_ble_eq_true rfl), (Nat.le_of_ble_eq_true rfl)⟩) hR hz hS hA (fun H locs hR hz hS => ?_)
  refine lv_iload_n hx hb dX4_missingOf_8 rfl (lv_at hl 1 rfl) ?_
  refine lv_iload_n hx hb dX4_missingOf_9 rfl (lv_at hl 2 rfl) ?_
  refine lv_iload_n hx hb dX4_missingOf_10 rfl (lv_at hl 0 rfl) ?_
  obtain ⟨x11, hc9, hrun⟩ := m_bind hrun
  refine mr_calli (mr_runS (As := [.int v0]) (rest := [.int v2, .int v1, .int x5, .int x1]) hx hb hml hown hts (c_X4_isIn l D ids st z hc9) yk_X4_isIn ys_X4_isIn wm_2_80 ⟨(Nat.le_of_ble_eq_true rfl), (Nat.le_of_ble_eq_true rfl)⟩ (mr_recvS hR hE hz hS hA) hl.1 rfl (Nat.le_of_ble_eq_true rfl) dX4_missingOf_11 ⟨(Nat.le_of_ble_eq_true rfl), (Nat.le_of_ble_eq_true rfl)⟩) hR hz hS hA (fun H locs hR hz hS => ?_)
  refine lv_if_ne (tgt := 21) hx hb dX4_missingOf_14 (by decide) (fun hc => ?_) (fun hc => ?_)
  · have hrun := mt_f hrun hc
    refine lv_iconst (v := 0) hx hb dX4_missingOf_21 (by decide) ?_
    exact k_X4_missingOf_b22 hx hb hr hml hown hts hlocks hin hE hA _ _ _ _ _ _ _ _ hrun hR hz hS (lv_sub hl [] rfl)
  · have hrun := mt_t hrun hc
    refine lv_iconst (v := 1) hx hb dX4_missingOf_17 (by decide) ?_
    refine lv_goto (tgt := 22) hx hb dX4_missingOf_18 (by decide) ?_
    exact k_X4_missingOf_b22 hx hb hr hml hown hts hlocks hin hE hA _ _ _ _ _ _ _ _ hrun hR hz hS (lv_sub hl [] rfl)
/-! X4_timeOf -/
abbrev rm_X4_timeOf : Room := { frames := 0, cells := 0, slots := 0, locals := 0 }
theorem yk_X4_timeOf : m_K yX4_timeOf cX4_timeOf 1 (some .int) 1 := ⟨wm_2_99, wm_0_8, by decide +kernel⟩
theorem ys_X4_timeOf : Cond.static yX4_timeOf ∈ wT := wm_2_98
set_option maxRecDepth 100000 in
set_option maxHeartbeats 4000000 in
theorem c_X4_timeOf (l : Launch) (D : va_G) (ids : m_I3) (st : m_T) (z : Nat) {h : mH} {v0 : Int32} {r : Int32} (hrun : s_X4_timeOf h v0 = some r) : Met l yX4_timeOf (m_ws yX4_timeOf cX4_timeOf 1 (some .int)) rm_X4_timeOf (mPc D ids st [.int v0] h z) (mQi D ids (m_A h z) r h z) rm_X4_timeOf.cells rm_X4_timeOf.slots (m_A h z) := by
  refine mr_of (cc := cX4_timeOf) (maxL := 1) (ret := some .int) (by decide) rfl (Nat.le_of_ble_eq_true rfl) ?_
  intro p e s m below meth c ls hx hb hr hml hown hts hlocks hin hR hE hz hl
  have hA : ∀ q, s.heap.size ≤ q → m_A h z q := fun q hq => Or.inr (by rw [← hz]; exact hq)
  have hS : va_S (m_A h z) s.heap s.heap [] := va_S.rf
  have hl : lv_has ls 1 [(0, .int v0)] := hl
  unfold s_X4_timeOf at hrun
  refine lv_iload_n hx hb dX4_timeOf_0 rfl (lv_at hl 0 rfl) ?_
  refine lv_bipush (v := 8) hx hb dX4_timeOf_1 (by decide) ?_
  refine lv_ishr hx hb dX4_timeOf_3 ?_
  obtain rfl := Option.some.inj hrun
  exact mr_iret hx hb hr hlocks hR hz hS dX4_timeOf_4
/-! X5_insert -/
abbrev rm_X5_insert : Room := { frames := 2, cells := 0, slots := 0, locals := 42 }
theorem yk_X5_insert : m_K yX5_insert cX5_insert 3 (some .int) 1 := ⟨wm_2_96, wm_0_3, by decide +kernel⟩
theorem ys_X5_insert : Cond.instanceMethod yX5_insert ∈ wT ∧ Cond.selects RX5 yX5_insert yX5_insert ∈ wT := ⟨wm_2_94, wm_2_95⟩
set_option maxRecDepth 100000 in
set_option maxHeartbeats 4000000 in
theorem k_X5_insert_b61 {p : Program} {l : Launch} {e : Env} {s : State} {m : MethodId} {args : Array Value} {below : List Frame} {meth : Method} {c : Code} {D : va_G} {ids : m_I3} {st : m_T} {A : Nat → Prop} {z : Nat} {r : Int32} {hF : mH} (hx : p.tables.exec = Jvm.exec) (hb : c.code = cX5_insert) (hr : meth.sig.returnType = some .int) (hml : c.maxLocals = 3) (hown : s.vm.findClass RX5 = some m.cls) (hts : ∀ w ∈ (m_ws yX5_insert cX5_insert 3 (some .int)), w.before args s = true) (hlocks : meth.locks = false) (hin : meth.name = yX5_insert.name) (hE : m_EV st A s s.heap) (hA : ∀ q, s.heap.size ≤ q → A q) (h : mH) (v0 : Nat) (v1 : Int32) (v2 : Int32) (H : Heap) (locs : List Loc) (ls : Array Slot) (hrun : s_X5_insert_b61 h v0 v1 v2 = some (r, hF)) (hR : Rl D ids A h s H) (hz : H.size = z) (hS : va_S A s.heap H locs) (hl : lv_has ls 3 [(0, .ref v0), (1, .int v1), (2, .int v2)]) : W p l e rm_X5_insert s m args below meth c H locs 0 0 (MQ below (mQi D ids A r hF z) args s 0 0 A) (F0 m 61 ls []) := by
  unfold s_X5_insert_b61 at hrun
  refine lv_aload_n hx hb dX5_insert_61 rfl (lv_at hl 0 rfl) ?_
  obtain ⟨x62, hc9, hrun⟩ := m_bind hrun
  refine mr_get (C := RX5) (T := TX5) (N := 2) (ci := 3) hx hb hts (fun w q => m_ws_in (wi_X5 w q)) hown hR rfl 0 (by decide) (hts _ (m_ws_in wm_0_36)) (fun _ h9 => h9) (m_gr_spec hc9) dX5_insert_62 ?_
  refine lv_iload_n hx hb dX5_insert_65 rfl (lv_at hl 2 rfl) ?_
  refine lv_iload_n hx hb dX5_insert_66 rfl (lv_at hl 1 rfl) ?_
  obtain ⟨h67, hc9, hrun⟩ := m_bind hrun
  refine mr_callv (mr_runS (As := [.ref x62, .int v2, .int v1]) (rest := []) hx hb hml hown hts (c_X1_put l D ids st z hc9) yk_X1_put ys_X1_put wm_2_42 ⟨(Nat.le_of_ble_eq_true rfl), (Nat.le_of_ble_eq_true rfl)⟩ (mr_recvS hR hE hz hS hA) hl.1 rfl (Nat.le_of_ble_eq_true rfl) dX5_insert_67 ⟨(Nat.le_of_ble_eq_true rfl), (Nat.le_of_ble_eq_true rfl)⟩) hR hz hS hA (fun H locs hR hz hS => ?_)
  refine lv_aload_n hx hb dX5_insert_70 rfl (lv_at hl 0 rfl) ?_
  refine lv_dup hx hb dX5_insert_71 rfl ?_
  obtain ⟨x72, hc9, hrun⟩ := m_bind hrun
  refine mr_get (C := RX5) (T := TX5) (N := 2) (ci := 3) hx hb hts (fun w q => m_ws_in (wi_X5 w q)) hown hR rfl 1 (by decide) (hts _ (m_ws_in wm_0_37)) (fun _ h9 => h9) (m_gi_spec hc9) dX5_insert_72 ?_
  refine lv_iconst (v := 1) hx hb dX5_insert_75 (by decide) ?_
  refine lv_iadd hx hb dX5_insert_76 ?_
  obtain ⟨h77, hc9, hrun⟩ := m_bind hrun
  refine mr_put (C := RX5) (T := TX5) (N := 2) (ci := 3) hx hb hts (fun w q => m_ws_in (wi_X5 w q)) tyX5 tyX5_ok nmX5 hown hR hz hS rfl 1 (by decide) (hts _ (m_ws_in wm_0_37)) (fun _ h9 => h9) rfl (tyX5_ok 1 (by decide)) rfl rfl hc9 dX5_insert_77 (fun H locs hR hz hS => ?_)
  refine lv_iload_n hx hb dX5_insert_80 rfl (lv_at hl 2 rfl) ?_
  obtain ⟨rfl, rfl⟩ := Prod.mk.inj (Option.some.inj hrun)
  exact mr_iret hx hb hr hlocks hR hz hS dX5_insert_81
set_option maxRecDepth 100000 in
set_option maxHeartbeats 4000000 in
theorem k_X5_insert_L19 {p : Program} {l : Launch} {e : Env} {s : State} {m : MethodId} {args : Array Value} {below : List Frame} {meth : Method} {c : Code} {D : va_G} {ids : m_I3} {st : m_T} {A : Nat → Prop} {z : Nat} {r : Int32} {hF : mH} (hx : p.tables.exec = Jvm.exec) (hb : c.code = cX5_insert) (hr : meth.sig.returnType = some .int) (hml : c.maxLocals = 3) (hown : s.vm.findClass RX5 = some m.cls) (hts : ∀ w ∈ (m_ws yX5_insert cX5_insert 3 (some .int)), w.before args s = true) (hlocks : meth.locks = false) (hin : meth.name = yX5_insert.name) (hE : m_EV st A s s.heap) (hA : ∀ q, s.heap.size ≤ q → A q) : ∀ (n : Nat) (h : mH) (v0 : Nat) (v1 : Int32) (v2 : Int32) (H : Heap) (locs : List Loc) (ls : Array Slot), s_X5_insert_L19 n h v0 v1 v2 = some (r, hF) → Rl D ids A h s H → H.size = z → va_S A s.heap H locs → lv_has ls 3 [(0, .ref v0), (1, .int v1), (2, .int v2)] → W p l e rm_X5_insert s m args below meth c H locs 0 0 (MQ below (mQi D ids A r hF z) args s 0 0 A) (F0 m 19 ls []) := by
  intro n
  induction n with
  | zero => intro h v0 v1 v2 H locs ls hrun; exact absurd hrun (by intro h9; cases h9)
  | succ n ih =>
    intro h v0 v1 v2 H locs ls hrun hR hz hS hl
    rw [s_X5_insert_L19] at hrun
    refine lv_iload_n hx hb dX5_insert_19 rfl (lv_at hl 2 rfl) ?_
    refine lv_if_le (tgt := 61) hx hb dX5_insert_20 (by decide) (fun hc => ?_) (fun hc => ?_)
    · have hrun := mt_t hrun hc
      exact k_X5_insert_b61 hx hb hr hml hown hts hlocks hin hE hA _ _ _ _ _ _ _ hrun hR hz hS (lv_sub hl [0, 1, 2] rfl)
    · have hrun := mt_f hrun hc
      refine lv_aload_n hx hb dX5_insert_23 rfl (lv_at hl 0 rfl) ?_
      refine lv_iload_n hx hb dX5_insert_24 rfl (lv_at hl 2 rfl) ?_
      refine lv_iconst (v := 1) hx hb dX5_insert_25 (by decide) ?_
      refine lv_isub hx hb dX5_insert_26 ?_
      obtain ⟨_, ho9, hrun⟩ := m_bind hrun
      obtain ⟨fs9, ho9⟩ := m_is_spec ho9
      obtain ⟨x27, hc9, hrun⟩ := m_bind hrun
      refine mr_calli (mr_runV (As := [.int (v2 - 1)]) (rest := []) hx hb hml hown hts (c_X5_tapAt l D ids st z hc9) yk_X5_tapAt ys_X5_tapAt wm_2_41 ⟨(Nat.le_of_ble_eq_true rfl), (Nat.le_of_ble_eq_true rfl)⟩ (mr_recv (ci := 3) hR hE hz hS hA rfl ho9) hl.1 rfl (Nat.le_of_ble_eq_true rfl) dX5_insert_27 ⟨(Nat.le_of_ble_eq_true rfl), (Nat.le_of_ble_eq_true rfl)⟩) hR hz hS hA (fun H locs hR hz hS => ?_)
      obtain ⟨x30, hc9, hrun⟩ := m_bind hrun
      refine mr_calli (mr_runS (As := [.int x27]) (rest := []) hx hb hml hown hts (c_X4_timeOf l D ids st z hc9) yk_X4_timeOf ys_X4_timeOf wm_2_97 ⟨(Nat.le_of_ble_eq_true rfl), (Nat.le_of_ble_eq_true rfl)⟩ (mr_recvS hR hE hz hS hA) hl.1 rfl (Nat.le_of_ble_eq_true rfl) dX5_insert_30 ⟨(Nat.le_of_ble_eq_true rfl), (Nat.le_of_ble_eq_true rfl)⟩) hR hz hS hA (fun H locs hR hz hS => ?_)
      refine lv_iload_n hx hb dX5_insert_33 rfl (lv_at hl 1 rfl) ?_
      obtain ⟨x34, hc9, hrun⟩ := m_bind hrun
      refine mr_calli (mr_runS (As := [.int v1]) (rest := [.int x30]) hx hb hml hown hts (c_X4_timeOf l D ids st z hc9) yk_X4_timeOf ys_X4_timeOf wm_2_97 ⟨(Nat.le_of_ble_eq_true rfl), (Nat.le_of_ble_eq_true rfl)⟩ (mr_recvS hR hE hz hS hA) hl.1 rfl (Nat.le_of_ble_eq_true rfl) dX5_insert_34 ⟨(Nat.le_of_ble_eq_true rfl), (Nat.le_of_ble_eq_true rfl)⟩) hR hz hS hA (fun H locs hR hz hS => ?_)
      refine lv_icmp_le (tgt := 61) hx hb dX5_insert_37 (by decide) (fun hc => ?_) (fun hc => ?_)
      · have hrun := mt_t hrun hc
        exact k_X5_insert_b61 hx hb hr hml hown hts hlocks hin hE hA _ _ _ _ _ _ _ hrun hR hz hS (lv_sub hl [0, 1, 2] rfl)
      · have hrun := mt_f hrun hc
        refine lv_aload_n hx hb dX5_insert_40 rfl (lv_at hl 0 rfl) ?_
        obtain ⟨x41, hc9, hrun⟩ := m_bind hrun
        refine mr_get (C := RX5) (T := TX5) (N := 2) (ci := 3) hx hb hts (fun w q => m_ws_in (wi_X5 w q)) hown hR rfl 0 (by decide) (hts _ (m_ws_in wm_0_36)) (fun _ h9 => h9) (m_gr_spec hc9) dX5_insert_41 ?_
        refine lv_iload_n hx hb dX5_insert_44 rfl (lv_at hl 2 rfl) ?_
        refine lv_aload_n hx hb dX5_insert_45 rfl (lv_at hl 0 rfl) ?_
        refine lv_iload_n hx hb dX5_insert_46 rfl (lv_at hl 2 rfl) ?_
        refine lv_iconst (v := 1) hx hb dX5_insert_47 (by decide) ?_
        refine lv_isub hx hb dX5_insert_48 ?_
        obtain ⟨_, ho9, hrun⟩ := m_bind hrun
        obtain ⟨fs9, ho9⟩ := m_is_spec ho9
        obtain ⟨x49, hc9, hrun⟩ := m_bind hrun
        refine mr_calli (mr_runV (As := [.int (v2 - 1)]) (rest := [.int v2, .ref x41]) hx hb hml hown hts (c_X5_tapAt l D ids st z hc9) yk_X5_tapAt ys_X5_tapAt wm_2_41 ⟨(Nat.le_of_ble_eq_true rfl), (Nat.le_of_ble_eq_true rfl)⟩ (mr_recv (ci := 3) hR hE hz hS hA rfl ho9) hl.1 rfl (Nat.le_of_ble_eq_true rfl) dX5_insert_49 ⟨(Nat.le_of_ble_eq_true rfl), (Nat.le_of_ble_eq_true rfl)⟩) hR hz hS hA (fun H locs hR hz hS => ?_)
        obtain ⟨h52, hc9, hrun⟩ := m_bind hrun
        refine mr_callv (mr_runS (As := [.ref x41, .int v2, .int x49]) (rest := []) hx hb hml hown hts (c_X1_put l D ids st z hc9) yk_X1_put ys_X1_put wm_2_42 ⟨(Nat.le_of_ble_eq_true rfl), (Nat.le_of_ble_eq_true rfl)⟩ (mr_recvS hR hE hz hS hA) hl.1 rfl (Nat.le_of_ble_eq_true rfl) dX5_insert_52 ⟨(Nat.le_of_ble_eq_true rfl), (Nat.le_of_ble_eq_true rfl)⟩) hR hz hS hA (fun H locs hR hz hS => ?_)
        refine lv_iinc (v := v2 + (-1)) (lv' := [(2, .int (v2 + (-1))), (0, .ref v0), (1, .int v1)]) hx hb dX5_insert_55 hl (k := 2) rfl rfl (by decide) rfl (fun ls hl => ?_)
        refine lv_goto (tgt := 19) hx hb dX5_insert_58 (by decide) ?_
        exact ih _ _ _ _ _ _ _ hrun hR hz hS (lv_sub hl [1, 2, 0] rfl)
set_option maxRecDepth 100000 in
set_option maxHeartbeats 4000000 in
theorem c_X5_insert (l : Launch) (D : va_G) (ids : m_I3) (st : m_T) (z : Nat) {h : mH} {v0 : Nat} {v1 : Int32} {r : Int32} {hF : mH} (hrun : s_X5_insert h v0 v1 = some (r, hF)) : Met l yX5_insert (m_ws yX5_insert cX5_insert 3 (some .int)) rm_X5_insert (mPc D ids st [.ref v0, .int v1] h z) (mQi D ids (m_A h z) r hF z) rm_X5_insert.cells rm_X5_insert.slots (m_A h z) := by
  refine mr_of (cc := cX5_insert) (maxL := 3) (ret := some .int) (by decide) rfl (Nat.le_of_ble_eq_true rfl) ?_
  intro p e s m below meth c ls hx hb hr hml hown hts hlocks hin hR hE hz hl
  have hA : ∀ q, s.heap.size ≤ q → m_A h z q := fun q hq => Or.inr (by rw [← hz]; exact hq)
  have hS : va_S (m_A h z) s.heap s.heap [] := va_S.rf
  have hl : lv_has ls 3 [(0, .ref v0), (1, .int v1)] := hl
  unfold s_X5_insert at hrun
  refine lv_aload_n hx hb dX5_insert_0 rfl (lv_at hl 0 rfl) ?_
  obtain ⟨x1, hc9, hrun⟩ := m_bind hrun
  refine mr_get (C := RX5) (T := TX5) (N := 2) (ci := 3) hx hb hts (fun w q => m_ws_in (wi_X5 w q)) hown hR rfl 1 (by decide) (hts _ (m_ws_in wm_0_37)) (fun _ h9 => h9) (m_gi_spec hc9) dX5_insert_1 ?_
  refine lv_aload_n hx hb dX5_insert_4 rfl (lv_at hl 0 rfl) ?_
  obtain ⟨x5, hc9, hrun⟩ := m_bind hrun
  refine mr_get (C := RX5) (T := TX5) (N := 2) (ci := 3) hx hb hts (fun w q => m_ws_in (wi_X5 w q)) hown hR rfl 0 (by decide) (hts _ (m_ws_in wm_0_36)) (fun _ h9 => h9) (m_gr_spec hc9) dX5_insert_5 ?_
  obtain ⟨x8, hc9, hrun⟩ := m_bind hrun
  refine mr_ilen hx hb hR hc9 dX5_insert_8 ?_
  refine lv_icmp_lt (tgt := 14) hx hb dX5_insert_9 (by decide) (fun hc => ?_) (fun hc => ?_)
  · have hrun := mt_t hrun hc
    refine lv_aload_n hx hb dX5_insert_14 rfl (lv_at hl 0 rfl) ?_
    obtain ⟨x15, hc9, hrun⟩ := m_bind hrun
    refine mr_get (C := RX5) (T := TX5) (N := 2) (ci := 3) hx hb hts (fun w q => m_ws_in (wi_X5 w q)) hown hR rfl 1 (by decide) (hts _ (m_ws_in wm_0_37)) (fun _ h9 => h9) (m_gi_spec hc9) dX5_insert_15 ?_
    refine lv_istore_n (lv' := [(2, .int x15), (0, .ref v0), (1, .int v1)]) hx hb dX5_insert_18 rfl hl (by decide) rfl (fun ls hl => ?_)
    exact k_X5_insert_L19 hx hb hr hml hown hts hlocks hin hE hA _ _ _ _ _ _ _ _ hrun hR hz hS (lv_sub hl [1, 2, 0] rfl)
  · have hrun := mt_f hrun hc
    refine lv_iconst (v := (-1)) hx hb dX5_insert_12 (by decide) ?_
    obtain ⟨rfl, rfl⟩ := Prod.mk.inj (Option.some.inj hrun)
    exact mr_iret hx hb hr hlocks hR hz hS dX5_insert_13
/-! X7_tryTap -/
abbrev rm_X7_tryTap : Room := { frames := 4, cells := 0, slots := 0, locals := 91 }
theorem yk_X7_tryTap : m_K yX7_tryTap cX7_tryTap 3 (some .int) 1 := ⟨wm_2_91, wm_0_1, by decide +kernel⟩
theorem ys_X7_tryTap : Cond.instanceMethod yX7_tryTap ∈ wT ∧ Cond.selects RX7 yX7_tryTap yX7_tryTap ∈ wT := ⟨wm_2_90, wp_0_14⟩
set_option maxRecDepth 100000 in
set_option maxHeartbeats 4000000 in
theorem c_X7_tryTap (l : Launch) (D : va_G) (ids : m_I3) (st : m_T) (z : Nat) {h : mH} {v0 : Nat} {v1 : Int32} {r : Int32} {hF : mH} (hrun : s_X7_tryTap h v0 v1 = some (r, hF)) : Met l yX7_tryTap (m_ws yX7_tryTap cX7_tryTap 3 (some .int)) rm_X7_tryTap (mPc D ids st [.ref v0, .int v1] h z) (mQi D ids (m_A h z) r hF z) rm_X7_tryTap.cells rm_X7_tryTap.slots (m_A h z) := by
  refine mr_of (cc := cX7_tryTap) (maxL := 3) (ret := some .int) (by decide) rfl (Nat.le_of_ble_eq_true rfl) ?_
  intro p e s m below meth c ls hx hb hr hml hown hts hlocks hin hR hE hz hl
  have hA : ∀ q, s.heap.size ≤ q → m_A h z q := fun q hq => Or.inr (by rw [← hz]; exact hq)
  have hS : va_S (m_A h z) s.heap s.heap [] := va_S.rf
  have hl : lv_has ls 3 [(0, .ref v0), (1, .int v1)] := hl
  unfold s_X7_tryTap at hrun
  refine lv_aload_n hx hb dX7_tryTap_0 rfl (lv_at hl 0 rfl) ?_
  obtain ⟨x1, hc9, hrun⟩ := m_bind hrun
  refine mr_get (C := RX7) (T := TX7) (N := 8) (ci := 5) hx hb hts (fun w q => m_ws_in (wi_X7 w q)) hown hR rfl 3 (by decide) (hts _ (m_ws_in wm_1_10)) (fun _ h9 => h9) (m_gr_spec hc9) dX7_tryTap_1 ?_
  refine lv_aload_n hx hb dX7_tryTap_4 rfl (lv_at hl 0 rfl) ?_
  obtain ⟨x5, hc9, hrun⟩ := m_bind hrun
  refine mr_get (C := RX7) (T := TX7) (N := 8) (ci := 5) hx hb hts (fun w q => m_ws_in (wi_X7 w q)) hown hR rfl 0 (by decide) (hts _ (m_ws_in wm_1_7)) (fun _ h9 => h9) (m_gr_spec hc9) dX7_tryTap_5 ?_
  obtain ⟨x8, hc9, hrun⟩ := m_bind hrun
  refine mr_getN (C := RX3) (T := TX3) (N := 10) (ci := 2) hx hb hts (fun w q => m_ws_in (wi_X3 w q)) hown hR rfl 0 (by decide) (hE.nf (i := 3) rfl) (fun _ h9 => h9) (m_gr_spec hc9) dX7_tryTap_8 ?_
  obtain ⟨_, ho9, hrun⟩ := m_bind hrun
  obtain ⟨fs9, ho9⟩ := m_is_spec ho9
  obtain ⟨h11, hc9, hrun⟩ := m_bind hrun
  refine mr_callv (mr_runV (As := [.ref x8]) (rest := []) hx hb hml hown hts (c_X5_copyFrom l D ids st z hc9) yk_X5_copyFrom ys_X5_copyFrom wm_2_92 ⟨(Nat.le_of_ble_eq_true rfl), (Nat.le_of_ble_eq_true rfl)⟩ (mr_recv (ci := 3) hR hE hz hS hA rfl ho9) hl.1 rfl (Nat.le_of_ble_eq_true rfl) dX7_tryTap_11 ⟨(Nat.le_of_ble_eq_true rfl), (Nat.le_of_ble_eq_true rfl)⟩) hR hz hS hA (fun H locs hR hz hS => ?_)
  refine lv_aload_n hx hb dX7_tryTap_14 rfl (lv_at hl 0 rfl) ?_
  obtain ⟨x15, hc9, hrun⟩ := m_bind hrun
  refine mr_get (C := RX7) (T := TX7) (N := 8) (ci := 5) hx hb hts (fun w q => m_ws_in (wi_X7 w q)) hown hR rfl 3 (by decide) (hts _ (m_ws_in wm_1_10)) (fun _ h9 => h9) (m_gr_spec hc9) dX7_tryTap_15 ?_
  refine lv_iload_n hx hb dX7_tryTap_18 rfl (lv_at hl 1 rfl) ?_
  obtain ⟨_, ho9, hrun⟩ := m_bind hrun
  obtain ⟨fs9, ho9⟩ := m_is_spec ho9
  obtain ⟨⟨x19, h19⟩, hc9, hrun⟩ := m_bind hrun
  refine mr_calli (mr_runV (As := [.int v1]) (rest := []) hx hb hml hown hts (c_X5_insert l D ids st z hc9) yk_X5_insert ys_X5_insert wm_2_93 ⟨(Nat.le_of_ble_eq_true rfl), (Nat.le_of_ble_eq_true rfl)⟩ (mr_recv (ci := 3) hR hE hz hS hA rfl ho9) hl.1 rfl (Nat.le_of_ble_eq_true rfl) dX7_tryTap_19 ⟨(Nat.le_of_ble_eq_true rfl), (Nat.le_of_ble_eq_true rfl)⟩) hR hz hS hA (fun H locs hR hz hS => ?_)
  refine lv_istore_n (lv' := [(2, .int x19), (0, .ref v0), (1, .int v1)]) hx hb dX7_tryTap_22 rfl hl (by decide) rfl (fun ls hl => ?_)
  refine lv_aload_n hx hb dX7_tryTap_23 rfl (lv_at hl 1 rfl) ?_
  obtain ⟨x24, hc9, hrun⟩ := m_bind hrun
  refine mr_get (C := RX7) (T := TX7) (N := 8) (ci := 5) hx hb hts (fun w q => m_ws_in (wi_X7 w q)) hown hR rfl 4 (by decide) (hts _ (m_ws_in wm_1_11)) (fun _ h9 => h9) (m_gr_spec hc9) dX7_tryTap_24 ?_
  refine lv_aload_n hx hb dX7_tryTap_27 rfl (lv_at hl 1 rfl) ?_
  obtain ⟨x28, hc9, hrun⟩ := m_bind hrun
  refine mr_get (C := RX7) (T := TX7) (N := 8) (ci := 5) hx hb hts (fun w q => m_ws_in (wi_X7 w q)) hown hR rfl 3 (by decide) (hts _ (m_ws_in wm_1_10)) (fun _ h9 => h9) (m_gr_spec hc9) dX7_tryTap_28 ?_
  refine lv_aload_n hx hb dX7_tryTap_31 rfl (lv_at hl 1 rfl) ?_
  obtain ⟨x32, hc9, hrun⟩ := m_bind hrun
  refine mr_get (C := RX7) (T := TX7) (N := 8) (ci := 5) hx hb hts (fun w q => m_ws_in (wi_X7 w q)) hown hR rfl 0 (by decide) (hts _ (m_ws_in wm_1_7)) (fun _ h9 => h9) (m_gr_spec hc9) dX7_tryTap_32 ?_
  obtain ⟨x35, hc9, hrun⟩ := m_bind hrun
  refine mr_getN (C := RX3) (T := TX3) (N := 10) (ci := 2) hx hb hts (fun w q => m_ws_in (wi_X3 w q)) hown hR rfl 1 (by decide) (hE.nf (i := 4) rfl) (fun _ h9 => h9) (m_gr_spec hc9) dX7_tryTap_35 ?_
  obtain ⟨_, ho9, hrun⟩ := m_bind hrun
  obtain ⟨fs9, ho9⟩ := m_is_spec ho9
  obtain ⟨h38, hc9, hrun⟩ := m_bind hrun
  refine mr_callv (mr_runV (As := [.ref x28, .ref x35]) (rest := []) hx hb hml hown hts (c_X0_readFrom l D ids st z hc9) yk_X0_readFrom ys_X0_readFrom wm_0_186 ⟨(Nat.le_of_ble_eq_true rfl), (Nat.le_of_ble_eq_true rfl)⟩ (mr_recv (ci := 0) hR hE hz hS hA rfl ho9) hl.1 rfl (Nat.le_of_ble_eq_true rfl) dX7_tryTap_38 ⟨(Nat.le_of_ble_eq_true rfl), (Nat.le_of_ble_eq_true rfl)⟩) hR hz hS hA (fun H locs hR hz hS => ?_)
  refine lv_iload_n hx hb dX7_tryTap_41 rfl (lv_at hl 0 rfl) ?_
  obtain ⟨rfl, rfl⟩ := Prod.mk.inj (Option.some.inj hrun)
  exact mr_iret hx hb hr hlocks hR hz hS dX7_tryTap_42
/-! X7_wouldRideWith -/
abbrev rm_X7_wouldRideWith : Room := { frames := 5, cells := 0, slots := 0, locals := 113 }
theorem yk_X7_wouldRideWith : m_K yX7_wouldRideWith cX7_wouldRideWith 5 (some .boolean) 2 := ⟨wm_2_87, wm_0_1, by decide +kernel⟩
theorem ys_X7_wouldRideWith : Cond.instanceMethod yX7_wouldRideWith ∈ wT ∧ Cond.selects RX7 yX7_wouldRideWith yX7_wouldRideWith ∈ wT := ⟨wm_2_86, wp_0_13⟩
set_option maxRecDepth 100000 in
set_option maxHeartbeats 4000000 in
theorem k_X7_wouldRideWith_b41 {p : Program} {l : Launch} {e : Env} {s : State} {m : MethodId} {args : Array Value} {below : List Frame} {meth : Method} {c : Code} {D : va_G} {ids : m_I3} {st : m_T} {A : Nat → Prop} {z : Nat} {r : Int32} {hF : mH} (hx : p.tables.exec = Jvm.exec) (hb : c.code = cX7_wouldRideWith) (hr : meth.sig.returnType = some .boolean) (hml : c.maxLocals = 5) (hown : s.vm.findClass RX7 = some m.cls) (hts : ∀ w ∈ (m_ws yX7_wouldRideWith cX7_wouldRideWith 5 (some .boolean)), w.before args s = true) (hlocks : meth.locks = false) (hin : meth.name = yX7_wouldRideWith.name) (hE : m_EV st A s s.heap) (hA : ∀ q, s.heap.size ≤ q → A q) (h : mH) (t0 : Int32) (H : Heap) (locs : List Loc) (ls : Array Slot) (hrun : s_X7_wouldRideWith_b41 h t0 = some (r, hF)) (hR : Rl D ids A h s H) (hz : H.size = z) (hS : va_S A s.heap H locs) (hl : lv_has ls 5 []) : W p l e rm_X7_wouldRideWith s m args below meth c H locs 0 0 (MQ below (mQi D ids A r hF z) args s 0 0 A) (F0 m 41 ls [.int t0]) := by
  unfold s_X7_wouldRideWith_b41 at hrun
  obtain ⟨w9, hzr, hrun⟩ := m_bind hrun
  obtain ⟨rfl, rfl⟩ := Prod.mk.inj (Option.some.inj hrun)
  exact mr_zret hzr hx hb hr hlocks hR hz hS dX7_wouldRideWith_41
set_option maxRecDepth 100000 in
set_option maxHeartbeats 4000000 in
theorem k_X7_wouldRideWith_b18 {p : Program} {l : Launch} {e : Env} {s : State} {m : MethodId} {args : Array Value} {below : List Frame} {meth : Method} {c : Code} {D : va_G} {ids : m_I3} {st : m_T} {A : Nat → Prop} {z : Nat} {r : Int32} {hF : mH} (hx : p.tables.exec = Jvm.exec) (hb : c.code = cX7_wouldRideWith) (hr : meth.sig.returnType = some .boolean) (hml : c.maxLocals = 5) (hown : s.vm.findClass RX7 = some m.cls) (hts : ∀ w ∈ (m_ws yX7_wouldRideWith cX7_wouldRideWith 5 (some .boolean)), w.before args s = true) (hlocks : meth.locks = false) (hin : meth.name = yX7_wouldRideWith.name) (hE : m_EV st A s s.heap) (hA : ∀ q, s.heap.size ≤ q → A q) (h : mH) (v0 : Nat) (v3 : Int32) (t0 : Int32) (H : Heap) (locs : List Loc) (ls : Array Slot) (hrun : s_X7_wouldRideWith_b18 h v0 v3 t0 = some (r, hF)) (hR : Rl D ids A h s H) (hz : H.size = z) (hS : va_S A s.heap H locs) (hl : lv_has ls 5 [(0, .ref v0), (3, .int v3)]) : W p l e rm_X7_wouldRideWith s m args below meth c H locs 0 0 (MQ below (mQi D ids A r hF z) args s 0 0 A) (F0 m 18 ls [.int t0]) := by
  unfold s_X7_wouldRideWith_b18 at hrun
  refine lv_istore (lv' := [(4, .int t0), (0, .ref v0), (3, .int v3)]) hx hb dX7_wouldRideWith_18 hl (by decide) rfl (fun ls hl => ?_)
  refine lv_aload_n hx hb dX7_wouldRideWith_20 rfl (lv_at hl 1 rfl) ?_
  obtain ⟨x21, hc9, hrun⟩ := m_bind hrun
  refine mr_get (C := RX7) (T := TX7) (N := 8) (ci := 5) hx hb hts (fun w q => m_ws_in (wi_X7 w q)) hown hR rfl 4 (by decide) (hts _ (m_ws_in wm_1_11)) (fun _ h9 => h9) (m_gr_spec hc9) dX7_wouldRideWith_21 ?_
  obtain ⟨x24, hc9, hrun⟩ := m_bind hrun
  refine mr_getN (C := RX0) (T := TX0) (N := 9) (ci := 0) hx hb hts (fun w q => m_ws_in (wi_X0 w q)) hown hR rfl 0 (by decide) (hE.nf (i := 11) rfl) (fun _ h9 => h9) (m_gr_spec hc9) dX7_wouldRideWith_24 ?_
  refine lv_iload_n hx hb dX7_wouldRideWith_27 rfl (lv_at hl 2 rfl) ?_
  obtain ⟨x28, hc9, hrun⟩ := m_bind hrun
  refine mr_calli (mr_runS (As := [.ref x24, .int v3]) (rest := []) hx hb hml hown hts (c_X1_at l D ids st z hc9) yk_X1_at ys_X1_at wm_1_181 ⟨(Nat.le_of_ble_eq_true rfl), (Nat.le_of_ble_eq_true rfl)⟩ (mr_recvS hR hE hz hS hA) hl.1 rfl (Nat.le_of_ble_eq_true rfl) dX7_wouldRideWith_28 ⟨(Nat.le_of_ble_eq_true rfl), (Nat.le_of_ble_eq_true rfl)⟩) hR hz hS hA (fun H locs hR hz hS => ?_)
  refine lv_iload hx hb dX7_wouldRideWith_31 (lv_at hl 0 rfl) ?_
  refine lv_icmp_ne (tgt := 40) hx hb dX7_wouldRideWith_33 (by decide) (fun hc => ?_) (fun hc => ?_)
  · have hrun := mt_f hrun hc
    refine lv_iconst (v := 0) hx hb dX7_wouldRideWith_40 (by decide) ?_
    exact k_X7_wouldRideWith_b41 hx hb hr hml hown hts hlocks hin hE hA _ _ _ _ _ hrun hR hz hS (lv_sub hl [] rfl)
  · have hrun := mt_t hrun hc
    refine lv_iconst (v := 1) hx hb dX7_wouldRideWith_36 (by decide) ?_
    refine lv_goto (tgt := 41) hx hb dX7_wouldRideWith_37 (by decide) ?_
    exact k_X7_wouldRideWith_b41 hx hb hr hml hown hts hlocks hin hE hA _ _ _ _ _ hrun hR hz hS (lv_sub hl [] rfl)
set_option maxRecDepth 100000 in
set_option maxHeartbeats 4000000 in
theorem c_X7_wouldRideWith (l : Launch) (D : va_G) (ids : m_I3) (st : m_T) (z : Nat) {h : mH} {v0 : Nat} {v1 : Int32} {v2 : Int32} {r : Int32} {hF : mH} (hrun : s_X7_wouldRideWith h v0 v1 v2 = some (r, hF)) : Met l yX7_wouldRideWith (m_ws yX7_wouldRideWith cX7_wouldRideWith 5 (some .boolean)) rm_X7_wouldRideWith (mPc D ids st [.ref v0, .int v1, .int v2] h z) (mQi D ids (m_A h z) r hF z) rm_X7_wouldRideWith.cells rm_X7_wouldRideWith.slots (m_A h z) := by
  refine mr_of (cc := cX7_wouldRideWith) (maxL := 5) (ret := some .boolean) (by decide) rfl (Nat.le_of_ble_eq_true rfl) ?_
  intro p e s m below meth c ls hx hb hr hml hown hts hlocks hin hR hE hz hl
  have hA : ∀ q, s.heap.size ≤ q → m_A h z q := fun q hq => Or.inr (by rw [← hz]; exact hq)
  have hS : va_S (m_A h z) s.heap s.heap [] := va_S.rf
  have hl : lv_has ls 5 [(0, .ref v0), (1, .int v1), (2, .int v2)] := hl
  unfold s_X7_wouldRideWith at hrun
  refine lv_aload_n hx hb dX7_wouldRideWith_0 rfl (lv_at hl 0 rfl) ?_
  refine lv_iload_n hx hb dX7_wouldRideWith_1 rfl (lv_at hl 2 rfl) ?_
  obtain ⟨_, ho9, hrun⟩ := m_bind hrun
  obtain ⟨fs9, ho9⟩ := m_is_spec ho9
  obtain ⟨⟨x2, h2⟩, hc9, hrun⟩ := m_bind hrun
  refine mr_calli (mr_runV (As := [.int v2]) (rest := []) hx hb hml hown hts (c_X7_tryTap l D ids st z hc9) yk_X7_tryTap ys_X7_tryTap wm_2_88 ⟨(Nat.le_of_ble_eq_true rfl), (Nat.le_of_ble_eq_true rfl)⟩ (mr_recv (ci := 5) hR hE hz hS hA rfl ho9) hl.1 rfl (Nat.le_of_ble_eq_true rfl) dX7_wouldRideWith_2 ⟨(Nat.le_of_ble_eq_true rfl), (Nat.le_of_ble_eq_true rfl)⟩) hR hz hS hA (fun H locs hR hz hS => ?_)
  refine lv_istore_n (lv' := [(3, .int x2), (0, .ref v0), (1, .int v1), (2, .int v2)]) hx hb dX7_wouldRideWith_5 rfl hl (by decide) rfl (fun ls hl => ?_)
  refine lv_iload_n hx hb dX7_wouldRideWith_6 rfl (lv_at hl 0 rfl) ?_
  refine lv_iload_n hx hb dX7_wouldRideWith_7 rfl (lv_at hl 2 rfl) ?_
  refine lv_icmp_gt (tgt := 17) hx hb dX7_wouldRideWith_8 (by decide) (fun hc => ?_) (fun hc => ?_)
  · have hrun := mt_t hrun hc
    refine lv_iload_n hx hb dX7_wouldRideWith_17 rfl (lv_at hl 2 rfl) ?_
    exact k_X7_wouldRideWith_b18 hx hb hr hml hown hts hlocks hin hE hA _ _ _ _ _ _ _ hrun hR hz hS (lv_sub hl [1, 0] rfl)
  · have hrun := mt_f hrun hc
    refine lv_iload_n hx hb dX7_wouldRideWith_11 rfl (lv_at hl 2 rfl) ?_
    refine lv_iconst (v := 1) hx hb dX7_wouldRideWith_12 (by decide) ?_
    refine lv_iadd hx hb dX7_wouldRideWith_13 ?_
    refine lv_goto (tgt := 18) hx hb dX7_wouldRideWith_14 (by decide) ?_
    exact k_X7_wouldRideWith_b18 hx hb hr hml hown hts hlocks hin hE hA _ _ _ _ _ _ _ hrun hR hz hS (lv_sub hl [1, 0] rfl)
/-! X7_refusal -/
abbrev rm_X7_refusal : Room := { frames := 6, cells := 0, slots := 0, locals := 137 }
theorem yk_X7_refusal : m_K yX7_refusal cX7_refusal 5 (some .int) 3 := ⟨wm_2_71, wm_0_1, by decide +kernel⟩
theorem ys_X7_refusal : Cond.instanceMethod yX7_refusal ∈ wT ∧ Cond.selects RX7 yX7_refusal yX7_refusal ∈ wT := ⟨wm_2_70, wp_0_12⟩
set_option maxRecDepth 100000 in
set_option maxHeartbeats 4000000 in
theorem k_X7_refusal_b23 {p : Program} {l : Launch} {e : Env} {s : State} {m : MethodId} {args : Array Value} {below : List Frame} {meth : Method} {c : Code} {D : va_G} {ids : m_I3} {st : m_T} {A : Nat → Prop} {z : Nat} {r : Int32} {hF : mH} (hx : p.tables.exec = Jvm.exec) (hb : c.code = cX7_refusal) (hr : meth.sig.returnType = some .int) (hml : c.maxLocals = 5) (hown : s.vm.findClass RX7 = some m.cls) (hts : ∀ w ∈ (m_ws yX7_refusal cX7_refusal 5 (some .int)), w.before args s = true) (hlocks : meth.locks = false) (hin : meth.name = yX7_refusal.name) (hE : m_EV st A s s.heap) (hA : ∀ q, s.heap.size ≤ q → A q) (h : mH) (H : Heap) (locs : List Loc) (ls : Array Slot) (hrun : s_X7_refusal_b23 h = some (r, hF)) (hR : Rl D ids A h s H) (hz : H.size = z) (hS : va_S A s.heap H locs) (hl : lv_has ls 5 []) : W p l e rm_X7_refusal s m args below meth c H locs 0 0 (MQ below (mQi D ids A r hF z) args s 0 0 A) (F0 m 23 ls []) := by
  unfold s_X7_refusal_b23 at hrun
  refine lv_iconst (v := 1) hx hb dX7_refusal_23 (by decide) ?_
  obtain ⟨rfl, rfl⟩ := Prod.mk.inj (Option.some.inj hrun)
  exact mr_iret hx hb hr hlocks hR hz hS dX7_refusal_24
set_option maxRecDepth 100000 in
set_option maxHeartbeats 4000000 in
theorem k_X7_refusal_b67 {p : Program} {l : Launch} {e : Env} {s : State} {m : MethodId} {args : Array Value} {below : List Frame} {meth : Method} {c : Code} {D : va_G} {ids : m_I3} {st : m_T} {A : Nat → Prop} {z : Nat} {r : Int32} {hF : mH} (hx : p.tables.exec = Jvm.exec) (hb : c.code = cX7_refusal) (hr : meth.sig.returnType = some .int) (hml : c.maxLocals = 5) (hown : s.vm.findClass RX7 = some m.cls) (hts : ∀ w ∈ (m_ws yX7_refusal cX7_refusal 5 (some .int)), w.before args s = true) (hlocks : meth.locks = false) (hin : meth.name = yX7_refusal.name) (hE : m_EV st A s s.heap) (hA : ∀ q, s.heap.size ≤ q → A q) (h : mH) (H : Heap) (locs : List Loc) (ls : Array Slot) (hrun : s_X7_refusal_b67 h = some (r, hF)) (hR : Rl D ids A h s H) (hz : H.size = z) (hS : va_S A s.heap H locs) (hl : lv_has ls 5 []) : W p l e rm_X7_refusal s m args below meth c H locs 0 0 (MQ below (mQi D ids A r hF z) args s 0 0 A) (F0 m 67 ls []) := by
  unfold s_X7_refusal_b67 at hrun
  refine lv_iconst (v := 2) hx hb dX7_refusal_67 (by decide) ?_
  obtain ⟨rfl, rfl⟩ := Prod.mk.inj (Option.some.inj hrun)
  exact mr_iret hx hb hr hlocks hR hz hS dX7_refusal_68
set_option maxRecDepth 100000 in
set_option maxHeartbeats 4000000 in
theorem k_X7_refusal_b135 {p : Program} {l : Launch} {e : Env} {s : State} {m : MethodId} {args : Array Value} {below : List Frame} {meth : Method} {c : Code} {D : va_G} {ids : m_I3} {st : m_T} {A : Nat → Prop} {z : Nat} {r : Int32} {hF : mH} (hx : p.tables.exec = Jvm.exec) (hb : c.code = cX7_refusal) (hr : meth.sig.returnType = some .int) (hml : c.maxLocals = 5) (hown : s.vm.findClass RX7 = some m.cls) (hts : ∀ w ∈ (m_ws yX7_refusal cX7_refusal 5 (some .int)), w.before args s = true) (hlocks : meth.locks = false) (hin : meth.name = yX7_refusal.name) (hE : m_EV st A s s.heap) (hA : ∀ q, s.heap.size ≤ q → A q) (h : mH) (t0 : Int32) (H : Heap) (locs : List Loc) (ls : Array Slot) (hrun : s_X7_refusal_b135 h t0 = some (r, hF)) (hR : Rl D ids A h s H) (hz : H.size = z) (hS : va_S A s.heap H locs) (hl : lv_has ls 5 []) : W p l e rm_X7_refusal s m args below meth c H locs 0 0 (MQ below (mQi D ids A r hF z) args s 0 0 A) (F0 m 135 ls [.int t0]) := by
  unfold s_X7_refusal_b135 at hrun
  obtain ⟨rfl, rfl⟩ := Prod.mk.inj (Option.some.inj hrun)
  exact mr_iret hx hb hr hlocks hR hz hS dX7_refusal_135
set_option maxRecDepth 100000 in
set_option maxHeartbeats 4000000 in
theorem k_X7_refusal_b69 {p : Program} {l : Launch} {e : Env} {s : State} {m : MethodId} {args : Array Value} {below : List Frame} {meth : Method} {c : Code} {D : va_G} {ids : m_I3} {st : m_T} {A : Nat → Prop} {z : Nat} {r : Int32} {hF : mH} (hx : p.tables.exec = Jvm.exec) (hb : c.code = cX7_refusal) (hr : meth.sig.returnType = some .int) (hml : c.maxLocals = 5) (hown : s.vm.findClass RX7 = some m.cls) (hts : ∀ w ∈ (m_ws yX7_refusal cX7_refusal 5 (some .int)), w.before args s = true) (hlocks : meth.locks = false) (hin : meth.name = yX7_refusal.name) (hE : m_EV st A s s.heap) (hA : ∀ q, s.heap.size ≤ q → A q) (h : mH) (v0 : Nat) (v1 : Int32) (v2 : Int32) (v3 : Int32) (v4 : Int32) (H : Heap) (locs : List Loc) (ls : Array Slot) (hrun : s_X7_refusal_b69 h v0 v1 v2 v3 v4 = some (r, hF)) (hR : Rl D ids A h s H) (hz : H.size = z) (hS : va_S A s.heap H locs) (hl : lv_has ls 5 [(0, .ref v0), (1, .int v1), (2, .int v2), (3, .int v3), (4, .int v4)]) : W p l e rm_X7_refusal s m args below meth c H locs 0 0 (MQ below (mQi D ids A r hF z) args s 0 0 A) (F0 m 69 ls []) := by
  unfold s_X7_refusal_b69 at hrun
  refine lv_aload_n hx hb dX7_refusal_69 rfl (lv_at hl 0 rfl) ?_
  obtain ⟨x70, hc9, hrun⟩ := m_bind hrun
  refine mr_get (C := RX7) (T := TX7) (N := 8) (ci := 5) hx hb hts (fun w q => m_ws_in (wi_X7 w q)) hown hR rfl 0 (by decide) (hts _ (m_ws_in wm_1_7)) (fun _ h9 => h9) (m_gr_spec hc9) dX7_refusal_70 ?_
  obtain ⟨x73, hc9, hrun⟩ := m_bind hrun
  refine mr_getN (C := RX3) (T := TX3) (N := 10) (ci := 2) hx hb hts (fun w q => m_ws_in (wi_X3 w q)) hown hR rfl 3 (by decide) (hE.nf (i := 6) rfl) (fun _ h9 => h9) (m_gr_spec hc9) dX7_refusal_73 ?_
  refine lv_iload hx hb dX7_refusal_76 (lv_at hl 4 rfl) ?_
  obtain ⟨x78, hc9, hrun⟩ := m_bind hrun
  refine mr_calli (mr_runS (As := [.int v4]) (rest := [.ref x73]) hx hb hml hown hts (c_X4_walletOf l D ids st z hc9) yk_X4_walletOf ys_X4_walletOf wm_1_220 ⟨(Nat.le_of_ble_eq_true rfl), (Nat.le_of_ble_eq_true rfl)⟩ (mr_recvS hR hE hz hS hA) hl.1 rfl (Nat.le_of_ble_eq_true rfl) dX7_refusal_78 ⟨(Nat.le_of_ble_eq_true rfl), (Nat.le_of_ble_eq_true rfl)⟩) hR hz hS hA (fun H locs hR hz hS => ?_)
  refine lv_iload hx hb dX7_refusal_81 (lv_at hl 4 rfl) ?_
  obtain ⟨x83, hc9, hrun⟩ := m_bind hrun
  refine mr_calli (mr_runS (As := [.int v4]) (rest := [.int x78, .ref x73]) hx hb hml hown hts (c_X4_weekOf l D ids st z hc9) yk_X4_weekOf ys_X4_weekOf wm_2_72 ⟨(Nat.le_of_ble_eq_true rfl), (Nat.le_of_ble_eq_true rfl)⟩ (mr_recvS hR hE hz hS hA) hl.1 rfl (Nat.le_of_ble_eq_true rfl) dX7_refusal_83 ⟨(Nat.le_of_ble_eq_true rfl), (Nat.le_of_ble_eq_true rfl)⟩) hR hz hS hA (fun H locs hR hz hS => ?_)
  obtain ⟨x86, hc9, hrun⟩ := m_bind hrun
  refine mr_calli (mr_runS (As := [.int x78, .int x83]) (rest := [.ref x73]) hx hb hml hown hts (c_X7_weekCell l D ids st z hc9) yk_X7_weekCell ys_X7_weekCell wm_1_178 ⟨(Nat.le_of_ble_eq_true rfl), (Nat.le_of_ble_eq_true rfl)⟩ (mr_recvS hR hE hz hS hA) hl.1 rfl (Nat.le_of_ble_eq_true rfl) dX7_refusal_86 ⟨(Nat.le_of_ble_eq_true rfl), (Nat.le_of_ble_eq_true rfl)⟩) hR hz hS hA (fun H locs hR hz hS => ?_)
  obtain ⟨x89, hc9, hrun⟩ := m_bind hrun
  refine mr_calli (mr_runS (As := [.ref x73, .int x86]) (rest := []) hx hb hml hown hts (c_X1_at l D ids st z hc9) yk_X1_at ys_X1_at wm_1_181 ⟨(Nat.le_of_ble_eq_true rfl), (Nat.le_of_ble_eq_true rfl)⟩ (mr_recvS hR hE hz hS hA) hl.1 rfl (Nat.le_of_ble_eq_true rfl) dX7_refusal_89 ⟨(Nat.le_of_ble_eq_true rfl), (Nat.le_of_ble_eq_true rfl)⟩) hR hz hS hA (fun H locs hR hz hS => ?_)
  refine lv_iconst (v := 2) hx hb dX7_refusal_92 (by decide) ?_
  refine lv_icmp_lt (tgt := 98) hx hb dX7_refusal_93 (by decide) (fun hc => ?_) (fun hc => ?_)
  · have hrun := mt_t hrun hc
    refine lv_aload_n hx hb dX7_refusal_98 rfl (lv_at hl 0 rfl) ?_
    obtain ⟨x99, hc9, hrun⟩ := m_bind hrun
    refine mr_get (C := RX7) (T := TX7) (N := 8) (ci := 5) hx hb hts (fun w q => m_ws_in (wi_X7 w q)) hown hR rfl 0 (by decide) (hts _ (m_ws_in wm_1_7)) (fun _ h9 => h9) (m_gr_spec hc9) dX7_refusal_99 ?_
    obtain ⟨x102, hc9, hrun⟩ := m_bind hrun
    refine mr_getN (C := RX3) (T := TX3) (N := 10) (ci := 2) hx hb hts (fun w q => m_ws_in (wi_X3 w q)) hown hR rfl 0 (by decide) (hE.nf (i := 3) rfl) (fun _ h9 => h9) (m_gr_spec hc9) dX7_refusal_102 ?_
    obtain ⟨x105, hc9, hrun⟩ := m_bind hrun
    refine mr_getN (C := RX5) (T := TX5) (N := 2) (ci := 3) hx hb hts (fun w q => m_ws_in (wi_X5 w q)) hown hR rfl 1 (by decide) (hE.nf (i := 0) rfl) (fun _ h9 => h9) (m_gi_spec hc9) dX7_refusal_105 ?_
    refine lv_bipush (v := 60) hx hb dX7_refusal_108 (by decide) ?_
    refine lv_icmp_lt (tgt := 115) hx hb dX7_refusal_110 (by decide) (fun hc => ?_) (fun hc => ?_)
    · have hrun := mt_t hrun hc
      refine lv_aload_n hx hb dX7_refusal_115 rfl (lv_at hl 0 rfl) ?_
      refine lv_iload_n hx hb dX7_refusal_116 rfl (lv_at hl 1 rfl) ?_
      refine lv_iload hx hb dX7_refusal_117 (lv_at hl 4 rfl) ?_
      refine lv_iload_n hx hb dX7_refusal_119 rfl (lv_at hl 2 rfl) ?_
      refine lv_iload_n hx hb dX7_refusal_120 rfl (lv_at hl 3 rfl) ?_
      obtain ⟨x121, hc9, hrun⟩ := m_bind hrun
      refine mr_calli (mr_runS (As := [.int v4, .int v2, .int v3]) (rest := [.int v1, .ref v0]) hx hb hml hown hts (c_X4_missingOf l D ids st z hc9) yk_X4_missingOf ys_X4_missingOf wm_2_76 ⟨(Nat.le_of_ble_eq_true rfl), (Nat.le_of_ble_eq_true rfl)⟩ (mr_recvS hR hE hz hS hA) hl.1 rfl (Nat.le_of_ble_eq_true rfl) dX7_refusal_121 ⟨(Nat.le_of_ble_eq_true rfl), (Nat.le_of_ble_eq_true rfl)⟩) hR hz hS hA (fun H locs hR hz hS => ?_)
      obtain ⟨_, ho9, hrun⟩ := m_bind hrun
      obtain ⟨fs9, ho9⟩ := m_is_spec ho9
      obtain ⟨⟨x124, h124⟩, hc9, hrun⟩ := m_bind hrun
      refine mr_calli (mr_runV (As := [.int v1, .int x121]) (rest := []) hx hb hml hown hts (c_X7_wouldRideWith l D ids st z hc9) yk_X7_wouldRideWith ys_X7_wouldRideWith wm_2_84 ⟨(Nat.le_of_ble_eq_true rfl), (Nat.le_of_ble_eq_true rfl)⟩ (mr_recv (ci := 5) hR hE hz hS hA rfl ho9) hl.1 rfl (Nat.le_of_ble_eq_true rfl) dX7_refusal_124 ⟨(Nat.le_of_ble_eq_true rfl), (Nat.le_of_ble_eq_true rfl)⟩) hR hz hS hA (fun H locs hR hz hS => ?_)
      refine lv_if_eq (tgt := 134) hx hb dX7_refusal_127 (by decide) (fun hc => ?_) (fun hc => ?_)
      · have hrun := mt_t hrun hc
        refine lv_iconst (v := 5) hx hb dX7_refusal_134 (by decide) ?_
        exact k_X7_refusal_b135 hx hb hr hml hown hts hlocks hin hE hA _ _ _ _ _ hrun hR hz hS (lv_sub hl [] rfl)
      · have hrun := mt_f hrun hc
        refine lv_iconst (v := 0) hx hb dX7_refusal_130 (by decide) ?_
        refine lv_goto (tgt := 135) hx hb dX7_refusal_131 (by decide) ?_
        exact k_X7_refusal_b135 hx hb hr hml hown hts hlocks hin hE hA _ _ _ _ _ hrun hR hz hS (lv_sub hl [] rfl)
    · have hrun := mt_f hrun hc
      refine lv_iconst (v := 4) hx hb dX7_refusal_113 (by decide) ?_
      obtain ⟨rfl, rfl⟩ := Prod.mk.inj (Option.some.inj hrun)
      exact mr_iret hx hb hr hlocks hR hz hS dX7_refusal_114
  · have hrun := mt_f hrun hc
    refine lv_iconst (v := 3) hx hb dX7_refusal_96 (by decide) ?_
    obtain ⟨rfl, rfl⟩ := Prod.mk.inj (Option.some.inj hrun)
    exact mr_iret hx hb hr hlocks hR hz hS dX7_refusal_97
set_option maxRecDepth 100000 in
set_option maxHeartbeats 4000000 in
theorem c_X7_refusal (l : Launch) (D : va_G) (ids : m_I3) (st : m_T) (z : Nat) {h : mH} {v0 : Nat} {v1 : Int32} {v2 : Int32} {v3 : Int32} {r : Int32} {hF : mH} (hrun : s_X7_refusal h v0 v1 v2 v3 = some (r, hF)) : Met l yX7_refusal (m_ws yX7_refusal cX7_refusal 5 (some .int)) rm_X7_refusal (mPc D ids st [.ref v0, .int v1, .int v2, .int v3] h z) (mQi D ids (m_A h z) r hF z) rm_X7_refusal.cells rm_X7_refusal.slots (m_A h z) := by
  refine mr_of (cc := cX7_refusal) (maxL := 5) (ret := some .int) (by decide) rfl (Nat.le_of_ble_eq_true rfl) ?_
  intro p e s m below meth c ls hx hb hr hml hown hts hlocks hin hR hE hz hl
  have hA : ∀ q, s.heap.size ≤ q → m_A h z q := fun q hq => Or.inr (by rw [← hz]; exact hq)
  have hS : va_S (m_A h z) s.heap s.heap [] := va_S.rf
  have hl : lv_has ls 5 [(0, .ref v0), (1, .int v1), (2, .int v2), (3, .int v3)] := hl
  unfold s_X7_refusal at hrun
  refine lv_aload_n hx hb dX7_refusal_0 rfl (lv_at hl 0 rfl) ?_
  refine lv_iload_n hx hb dX7_refusal_1 rfl (lv_at hl 1 rfl) ?_
  obtain ⟨_, ho9, hrun⟩ := m_bind hrun
  obtain ⟨fs9, ho9⟩ := m_is_spec ho9
  obtain ⟨x2, hc9, hrun⟩ := m_bind hrun
  refine mr_calli (mr_runV (As := [.int v1]) (rest := []) hx hb hml hown hts (c_X7_isPlace l D ids st z hc9) yk_X7_isPlace ys_X7_isPlace wm_1_194 ⟨(Nat.le_of_ble_eq_true rfl), (Nat.le_of_ble_eq_true rfl)⟩ (mr_recv (ci := 5) hR hE hz hS hA rfl ho9) hl.1 rfl (Nat.le_of_ble_eq_true rfl) dX7_refusal_2 ⟨(Nat.le_of_ble_eq_true rfl), (Nat.le_of_ble_eq_true rfl)⟩) hR hz hS hA (fun H locs hR hz hS => ?_)
  refine lv_if_eq (tgt := 23) hx hb dX7_refusal_5 (by decide) (fun hc => ?_) (fun hc => ?_)
  · have hrun := mt_t hrun hc
    exact k_X7_refusal_b23 hx hb hr hml hown hts hlocks hin hE hA _ _ _ _ hrun hR hz hS (lv_sub hl [] rfl)
  · have hrun := mt_f hrun hc
    refine lv_aload_n hx hb dX7_refusal_8 rfl (lv_at hl 0 rfl) ?_
    obtain ⟨x9, hc9, hrun⟩ := m_bind hrun
    refine mr_get (C := RX7) (T := TX7) (N := 8) (ci := 5) hx hb hts (fun w q => m_ws_in (wi_X7 w q)) hown hR rfl 1 (by decide) (hts _ (m_ws_in wm_1_8)) (fun _ h9 => h9) (m_gr_spec hc9) dX7_refusal_9 ?_
    obtain ⟨x12, hc9, hrun⟩ := m_bind hrun
    refine mr_getN (C := RX0) (T := TX0) (N := 9) (ci := 0) hx hb hts (fun w q => m_ws_in (wi_X0 w q)) hown hR rfl 0 (by decide) (hE.nf (i := 11) rfl) (fun _ h9 => h9) (m_gr_spec hc9) dX7_refusal_12 ?_
    refine lv_iload_n hx hb dX7_refusal_15 rfl (lv_at hl 1 rfl) ?_
    obtain ⟨x16, hc9, hrun⟩ := m_bind hrun
    refine mr_calli (mr_runS (As := [.ref x12, .int v1]) (rest := []) hx hb hml hown hts (c_X1_at l D ids st z hc9) yk_X1_at ys_X1_at wm_1_181 ⟨(Nat.le_of_ble_eq_true rfl), (Nat.le_of_ble_eq_true rfl)⟩ (mr_recvS hR hE hz hS hA) hl.1 rfl (Nat.le_of_ble_eq_true rfl) dX7_refusal_16 ⟨(Nat.le_of_ble_eq_true rfl), (Nat.le_of_ble_eq_true rfl)⟩) hR hz hS hA (fun H locs hR hz hS => ?_)
    refine lv_iconst (v := (-1)) hx hb dX7_refusal_19 (by decide) ?_
    refine lv_icmp_eq (tgt := 25) hx hb dX7_refusal_20 (by decide) (fun hc => ?_) (fun hc => ?_)
    · have hrun := mt_t hrun hc
      refine lv_aload_n hx hb dX7_refusal_25 rfl (lv_at hl 0 rfl) ?_
      obtain ⟨x26, hc9, hrun⟩ := m_bind hrun
      refine mr_get (C := RX7) (T := TX7) (N := 8) (ci := 5) hx hb hts (fun w q => m_ws_in (wi_X7 w q)) hown hR rfl 0 (by decide) (hts _ (m_ws_in wm_1_7)) (fun _ h9 => h9) (m_gr_spec hc9) dX7_refusal_26 ?_
      obtain ⟨x29, hc9, hrun⟩ := m_bind hrun
      refine mr_getN (C := RX3) (T := TX3) (N := 10) (ci := 2) hx hb hts (fun w q => m_ws_in (wi_X3 w q)) hown hR rfl 0 (by decide) (hE.nf (i := 3) rfl) (fun _ h9 => h9) (m_gr_spec hc9) dX7_refusal_29 ?_
      refine lv_iload_n hx hb dX7_refusal_32 rfl (lv_at hl 1 rfl) ?_
      obtain ⟨_, ho9, hrun⟩ := m_bind hrun
      obtain ⟨fs9, ho9⟩ := m_is_spec ho9
      obtain ⟨x33, hc9, hrun⟩ := m_bind hrun
      refine mr_calli (mr_runV (As := [.int v1]) (rest := []) hx hb hml hown hts (c_X5_tapAt l D ids st z hc9) yk_X5_tapAt ys_X5_tapAt wm_1_219 ⟨(Nat.le_of_ble_eq_true rfl), (Nat.le_of_ble_eq_true rfl)⟩ (mr_recv (ci := 3) hR hE hz hS hA rfl ho9) hl.1 rfl (Nat.le_of_ble_eq_true rfl) dX7_refusal_33 ⟨(Nat.le_of_ble_eq_true rfl), (Nat.le_of_ble_eq_true rfl)⟩) hR hz hS hA (fun H locs hR hz hS => ?_)
      refine lv_istore (lv' := [(4, .int x33), (0, .ref v0), (1, .int v1), (2, .int v2), (3, .int v3)]) hx hb dX7_refusal_36 hl (by decide) rfl (fun ls hl => ?_)
      refine lv_iload hx hb dX7_refusal_38 (lv_at hl 0 rfl) ?_
      obtain ⟨x40, hc9, hrun⟩ := m_bind hrun
      refine mr_calli (mr_runS (As := [.int x33]) (rest := []) hx hb hml hown hts (c_X4_isIn l D ids st z hc9) yk_X4_isIn ys_X4_isIn wm_1_224 ⟨(Nat.le_of_ble_eq_true rfl), (Nat.le_of_ble_eq_true rfl)⟩ (mr_recvS hR hE hz hS hA) hl.1 rfl (Nat.le_of_ble_eq_true rfl) dX7_refusal_40 ⟨(Nat.le_of_ble_eq_true rfl), (Nat.le_of_ble_eq_true rfl)⟩) hR hz hS hA (fun H locs hR hz hS => ?_)
      refine lv_if_eq (tgt := 58) hx hb dX7_refusal_43 (by decide) (fun hc => ?_) (fun hc => ?_)
      · have hrun := mt_t hrun hc
        refine lv_iload_n hx hb dX7_refusal_58 rfl (lv_at hl 3 rfl) ?_
        refine lv_iload hx hb dX7_refusal_59 (lv_at hl 0 rfl) ?_
        obtain ⟨x61, hc9, hrun⟩ := m_bind hrun
        refine mr_calli (mr_runS (As := [.int x33]) (rest := [.int v2]) hx hb hml hown hts (c_X4_minuteOf l D ids st z hc9) yk_X4_minuteOf ys_X4_minuteOf wm_1_222 ⟨(Nat.le_of_ble_eq_true rfl), (Nat.le_of_ble_eq_true rfl)⟩ (mr_recvS hR hE hz hS hA) hl.1 rfl (Nat.le_of_ble_eq_true rfl) dX7_refusal_61 ⟨(Nat.le_of_ble_eq_true rfl), (Nat.le_of_ble_eq_true rfl)⟩) hR hz hS hA (fun H locs hR hz hS => ?_)
        refine lv_icmp_le (tgt := 69) hx hb dX7_refusal_64 (by decide) (fun hc => ?_) (fun hc => ?_)
        · have hrun := mt_t hrun hc
          exact k_X7_refusal_b69 hx hb hr hml hown hts hlocks hin hE hA _ _ _ _ _ _ _ _ _ hrun hR hz hS (lv_sub hl [1, 2, 3, 4, 0] rfl)
        · have hrun := mt_f hrun hc
          exact k_X7_refusal_b67 hx hb hr hml hown hts hlocks hin hE hA _ _ _ _ hrun hR hz hS (lv_sub hl [] rfl)
      · have hrun := mt_f hrun hc
        refine lv_iload_n hx hb dX7_refusal_46 rfl (lv_at hl 3 rfl) ?_
        refine lv_iload hx hb dX7_refusal_47 (lv_at hl 0 rfl) ?_
        obtain ⟨x49, hc9, hrun⟩ := m_bind hrun
        refine mr_calli (mr_runS (As := [.int x33]) (rest := [.int v2]) hx hb hml hown hts (c_X4_minuteOf l D ids st z hc9) yk_X4_minuteOf ys_X4_minuteOf wm_1_222 ⟨(Nat.le_of_ble_eq_true rfl), (Nat.le_of_ble_eq_true rfl)⟩ (mr_recvS hR hE hz hS hA) hl.1 rfl (Nat.le_of_ble_eq_true rfl) dX7_refusal_49 ⟨(Nat.le_of_ble_eq_true rfl), (Nat.le_of_ble_eq_true rfl)⟩) hR hz hS hA (fun H locs hR hz hS => ?_)
        refine lv_icmp_ge (tgt := 69) hx hb dX7_refusal_52 (by decide) (fun hc => ?_) (fun hc => ?_)
        · have hrun := mt_t hrun hc
          exact k_X7_refusal_b69 hx hb hr hml hown hts hlocks hin hE hA _ _ _ _ _ _ _ _ _ hrun hR hz hS (lv_sub hl [1, 2, 3, 4, 0] rfl)
        · have hrun := mt_f hrun hc
          refine lv_goto (tgt := 67) hx hb dX7_refusal_55 (by decide) ?_
          exact k_X7_refusal_b67 hx hb hr hml hown hts hlocks hin hE hA _ _ _ _ hrun hR hz hS (lv_sub hl [] rfl)
    · have hrun := mt_f hrun hc
      exact k_X7_refusal_b23 hx hb hr hml hown hts hlocks hin hE hA _ _ _ _ hrun hR hz hS (lv_sub hl [] rfl)
