/-! the machine does it: laid by program -/
/-! X3_charge -/
abbrev rm_X3_charge : Room := { frames := 2, cells := 0, slots := 0, locals := 46 }
theorem yk_X3_charge : m_K yX3_charge cX3_charge 6 (some .int) 3 := ⟨wm_2_161, wm_0_2, by decide +kernel⟩
theorem ys_X3_charge : Cond.instanceMethod yX3_charge ∈ wT ∧ Cond.selects RX3 yX3_charge yX3_charge ∈ wT := ⟨wm_2_159, wm_2_160⟩
set_option maxRecDepth 100000 in
set_option maxHeartbeats 4000000 in
theorem k_X3_charge_b66 {p : Program} {l : Launch} {e : Env} {s : State} {m : MethodId} {args : Array Value} {below : List Frame} {meth : Method} {c : Code} {D : va_G} {ids : m_I3} {st : m_T} {A : Nat → Prop} {z : Nat} {r : Int32} {hF : mH} (hx : p.tables.exec = Jvm.exec) (hb : c.code = cX3_charge) (hr : meth.sig.returnType = some .int) (hml : c.maxLocals = 6) (hown : s.vm.findClass RX3 = some m.cls) (hts : ∀ w ∈ (m_ws yX3_charge cX3_charge 6 (some .int)), w.before args s = true) (hlocks : meth.locks = false) (hin : meth.name = yX3_charge.name) (hE : m_EV st A s s.heap) (hA : ∀ q, s.heap.size ≤ q → A q) (h : mH) (v0 : Nat) (v1 : Int32) (v2 : Int32) (v5 : Int32) (H : Heap) (locs : List Loc) (ls : Array Slot) (hrun : s_X3_charge_b66 h v0 v1 v2 v5 = some (r, hF)) (hR : Rl D ids A h s H) (hz : H.size = z) (hS : va_S A s.heap H locs) (hl : lv_has ls 6 [(0, .ref v0), (1, .int v1), (2, .int v2), (5, .int v5)]) : W p l e rm_X3_charge s m args below meth c H locs 0 0 (MQ below (mQi D ids A r hF z) args s 0 0 A) (F0 m 66 ls []) := by
  unfold s_X3_charge_b66 at hrun
  refine lv_aload_n hx hb dX3_charge_66 rfl (lv_at hl 0 rfl) ?_
  obtain ⟨x67, hc9, hrun⟩ := m_bind hrun
  refine mr_get (C := RX3) (T := TX3) (N := 10) (ci := 2) hx hb hts (fun w q => m_ws_in (wi_X3 w q)) hown hR rfl 5 (by decide) (hts _ (m_ws_in wm_0_66)) (fun _ h9 => h9) (m_gr_spec hc9) dX3_charge_67 ?_
  refine lv_iload_n hx hb dX3_charge_70 rfl (lv_at hl 1 rfl) ?_
  refine lv_iload_n hx hb dX3_charge_71 rfl (lv_at hl 2 rfl) ?_
  obtain ⟨h72, hc9, hrun⟩ := m_bind hrun
  refine mr_callv (mr_runS (As := [.ref x67, .int v1, .int v2]) (rest := []) hx hb hml hown hts (c_X3_enter l D ids st z hc9) yk_X3_enter ys_X3_enter wm_2_165 ⟨(Nat.le_of_ble_eq_true rfl), (Nat.le_of_ble_eq_true rfl)⟩ (mr_recvS hR hE hz hS hA) hl.1 rfl (Nat.le_of_ble_eq_true rfl) dX3_charge_72 ⟨(Nat.le_of_ble_eq_true rfl), (Nat.le_of_ble_eq_true rfl)⟩) hR hz hS hA (fun H locs hR hz hS => ?_)
  refine lv_aload_n hx hb dX3_charge_75 rfl (lv_at hl 0 rfl) ?_
  obtain ⟨x76, hc9, hrun⟩ := m_bind hrun
  refine mr_get (C := RX3) (T := TX3) (N := 10) (ci := 2) hx hb hts (fun w q => m_ws_in (wi_X3 w q)) hown hR rfl 6 (by decide) (hts _ (m_ws_in wm_0_67)) (fun _ h9 => h9) (m_gr_spec hc9) dX3_charge_76 ?_
  refine lv_iload_n hx hb dX3_charge_79 rfl (lv_at hl 1 rfl) ?_
  refine lv_iload hx hb dX3_charge_80 (lv_at hl 3 rfl) ?_
  refine lv_ldc (v := 100000) hx hb hown (hts _ (m_ws_in wm_2_168)) dX3_charge_82 ?_
  refine lv_iadd hx hb dX3_charge_84 ?_
  obtain ⟨h85, hc9, hrun⟩ := m_bind hrun
  refine mr_callv (mr_runS (As := [.ref x76, .int v1, .int (v5 + 100000)]) (rest := []) hx hb hml hown hts (c_X3_enter l D ids st z hc9) yk_X3_enter ys_X3_enter wm_2_165 ⟨(Nat.le_of_ble_eq_true rfl), (Nat.le_of_ble_eq_true rfl)⟩ (mr_recvS hR hE hz hS hA) hl.1 rfl (Nat.le_of_ble_eq_true rfl) dX3_charge_85 ⟨(Nat.le_of_ble_eq_true rfl), (Nat.le_of_ble_eq_true rfl)⟩) hR hz hS hA (fun H locs hR hz hS => ?_)
  refine lv_iload hx hb dX3_charge_88 (lv_at hl 3 rfl) ?_
  obtain ⟨rfl, rfl⟩ := Prod.mk.inj (Option.some.inj hrun)
  exact mr_iret hx hb hr hlocks hR hz hS dX3_charge_90
set_option maxRecDepth 100000 in
set_option maxHeartbeats 4000000 in
theorem c_X3_charge (l : Launch) (D : va_G) (ids : m_I3) (st : m_T) (z : Nat) {h : mH} {v0 : Nat} {v1 : Int32} {v2 : Int32} {v3 : Int32} {r : Int32} {hF : mH} (hrun : s_X3_charge h v0 v1 v2 v3 = some (r, hF)) : Met l yX3_charge (m_ws yX3_charge cX3_charge 6 (some .int)) rm_X3_charge (mPc D ids st [.ref v0, .int v1, .int v2, .int v3] h z) (mQi D ids (m_A h z) r hF z) rm_X3_charge.cells rm_X3_charge.slots (m_A h z) := by
  refine mr_of (cc := cX3_charge) (maxL := 6) (ret := some .int) (by decide) rfl (Nat.le_of_ble_eq_true rfl) ?_
  intro p e s m below meth c ls hx hb hr hml hown hts hlocks hin hR hE hz hl
  have hA : ∀ q, s.heap.size ≤ q → m_A h z q := fun q hq => Or.inr (by rw [← hz]; exact hq)
  have hS : va_S (m_A h z) s.heap s.heap [] := va_S.rf
  have hl : lv_has ls 6 [(0, .ref v0), (1, .int v1), (2, .int v2), (3, .int v3)] := hl
  unfold s_X3_charge at hrun
  refine lv_iload_n hx hb dX3_charge_0 rfl (lv_at hl 1 rfl) ?_
  refine lv_iload_n hx hb dX3_charge_1 rfl (lv_at hl 2 rfl) ?_
  obtain ⟨x2, hc9, hrun⟩ := m_bind hrun
  refine mr_calli (mr_runSN (As := [.int v1, .int v2]) (rest := []) hx hb hml hown hts (c_X7_weekCell l D ids st z hc9) yk_X7_weekCell ys_X7_weekCell (hE.nm (i := 3) rfl) ⟨(Nat.le_of_ble_eq_true rfl), (Nat.le_of_ble_eq_true rfl)⟩ (mr_recvS hR hE hz hS hA) hl.1 rfl (Nat.le_of_ble_eq_true rfl) dX3_charge_2 ⟨(Nat.le_of_ble_eq_true rfl), (Nat.le_of_ble_eq_true rfl)⟩) hR hz hS hA (fun H locs hR hz hS => ?_)
  refine lv_istore (lv' := [(4, .int x2), (0, .ref v0), (1, .int v1), (2, .int v2), (3, .int v3)]) hx hb dX3_charge_5 hl (by decide) rfl (fun ls hl => ?_)
  refine lv_iload_n hx hb dX3_charge_7 rfl (lv_at hl 4 rfl) ?_
  refine lv_aload_n hx hb dX3_charge_8 rfl (lv_at hl 1 rfl) ?_
  obtain ⟨x9, hc9, hrun⟩ := m_bind hrun
  refine mr_get (C := RX3) (T := TX3) (N := 10) (ci := 2) hx hb hts (fun w q => m_ws_in (wi_X3 w q)) hown hR rfl 2 (by decide) (hts _ (m_ws_in wm_0_60)) (fun _ h9 => h9) (m_gr_spec hc9) dX3_charge_9 ?_
  refine lv_iload hx hb dX3_charge_12 (lv_at hl 0 rfl) ?_
  obtain ⟨x14, hc9, hrun⟩ := m_bind hrun
  refine mr_calli (mr_runS (As := [.ref x9, .int x2]) (rest := [.int v3]) hx hb hml hown hts (c_X1_at l D ids st z hc9) yk_X1_at ys_X1_at wm_1_175 ⟨(Nat.le_of_ble_eq_true rfl), (Nat.le_of_ble_eq_true rfl)⟩ (mr_recvS hR hE hz hS hA) hl.1 rfl (Nat.le_of_ble_eq_true rfl) dX3_charge_14 ⟨(Nat.le_of_ble_eq_true rfl), (Nat.le_of_ble_eq_true rfl)⟩) hR hz hS hA (fun H locs hR hz hS => ?_)
  refine lv_isub hx hb dX3_charge_17 ?_
  refine lv_istore (lv' := [(5, .int (v3 - x14)), (4, .int x2), (0, .ref v0), (1, .int v1), (2, .int v2), (3, .int v3)]) hx hb dX3_charge_18 hl (by decide) rfl (fun ls hl => ?_)
  refine lv_aload_n hx hb dX3_charge_20 rfl (lv_at hl 2 rfl) ?_
  obtain ⟨x21, hc9, hrun⟩ := m_bind hrun
  refine mr_get (C := RX3) (T := TX3) (N := 10) (ci := 2) hx hb hts (fun w q => m_ws_in (wi_X3 w q)) hown hR rfl 2 (by decide) (hts _ (m_ws_in wm_0_60)) (fun _ h9 => h9) (m_gr_spec hc9) dX3_charge_21 ?_
  refine lv_iload hx hb dX3_charge_24 (lv_at hl 1 rfl) ?_
  refine lv_iload_n hx hb dX3_charge_26 rfl (lv_at hl 5 rfl) ?_
  obtain ⟨h27, hc9, hrun⟩ := m_bind hrun
  refine mr_callv (mr_runS (As := [.ref x21, .int x2, .int v3]) (rest := []) hx hb hml hown hts (c_X1_put l D ids st z hc9) yk_X1_put ys_X1_put wm_2_163 ⟨(Nat.le_of_ble_eq_true rfl), (Nat.le_of_ble_eq_true rfl)⟩ (mr_recvS hR hE hz hS hA) hl.1 rfl (Nat.le_of_ble_eq_true rfl) dX3_charge_27 ⟨(Nat.le_of_ble_eq_true rfl), (Nat.le_of_ble_eq_true rfl)⟩) hR hz hS hA (fun H locs hR hz hS => ?_)
  refine lv_aload_n hx hb dX3_charge_30 rfl (lv_at hl 2 rfl) ?_
  obtain ⟨x31, hc9, hrun⟩ := m_bind hrun
  refine mr_get (C := RX3) (T := TX3) (N := 10) (ci := 2) hx hb hts (fun w q => m_ws_in (wi_X3 w q)) hown hR rfl 4 (by decide) (hts _ (m_ws_in wm_0_64)) (fun _ h9 => h9) (m_gr_spec hc9) dX3_charge_31 ?_
  refine lv_iload hx hb dX3_charge_34 (lv_at hl 1 rfl) ?_
  refine lv_iconst (v := 1) hx hb dX3_charge_36 (by decide) ?_
  obtain ⟨h37, hc9, hrun⟩ := m_bind hrun
  refine mr_callv (mr_runS (As := [.ref x31, .int x2, .int 1]) (rest := []) hx hb hml hown hts (c_X1_raise l D ids st z hc9) yk_X1_raise ys_X1_raise wm_2_164 ⟨(Nat.le_of_ble_eq_true rfl), (Nat.le_of_ble_eq_true rfl)⟩ (mr_recvS hR hE hz hS hA) hl.1 rfl (Nat.le_of_ble_eq_true rfl) dX3_charge_37 ⟨(Nat.le_of_ble_eq_true rfl), (Nat.le_of_ble_eq_true rfl)⟩) hR hz hS hA (fun H locs hR hz hS => ?_)
  refine lv_iload hx hb dX3_charge_40 (lv_at hl 0 rfl) ?_
  refine lv_if_ge (tgt := 66) hx hb dX3_charge_42 (by decide) (fun hc => ?_) (fun hc => ?_)
  · have hrun := mt_t hrun hc
    exact k_X3_charge_b66 hx hb hr hml hown hts hlocks hin hE hA _ _ _ _ _ _ _ _ hrun hR hz hS (lv_sub hl [2, 3, 4, 0] rfl)
  · have hrun := mt_f hrun hc
    refine lv_aload_n hx hb dX3_charge_45 rfl (lv_at hl 2 rfl) ?_
    refine lv_dup hx hb dX3_charge_46 rfl ?_
    obtain ⟨x47, hc9, hrun⟩ := m_bind hrun
    refine mr_get (C := RX3) (T := TX3) (N := 10) (ci := 2) hx hb hts (fun w q => m_ws_in (wi_X3 w q)) hown hR rfl 7 (by decide) (hts _ (m_ws_in wm_0_68)) (fun _ h9 => h9) (m_gi_spec hc9) dX3_charge_47 ?_
    refine lv_iconst (v := 1) hx hb dX3_charge_50 (by decide) ?_
    refine lv_iadd hx hb dX3_charge_51 ?_
    obtain ⟨h52, hc9, hrun⟩ := m_bind hrun
    refine mr_put (C := RX3) (T := TX3) (N := 10) (ci := 2) hx hb hts (fun w q => m_ws_in (wi_X3 w q)) tyX3 tyX3_ok nmX3 hown hR hz hS rfl 7 (by decide) (hts _ (m_ws_in wm_0_68)) (fun _ h9 => h9) rfl (tyX3_ok 7 (by decide)) rfl rfl hc9 dX3_charge_52 (fun H locs hR hz hS => ?_)
    refine lv_aload_n hx hb dX3_charge_55 rfl (lv_at hl 2 rfl) ?_
    refine lv_dup hx hb dX3_charge_56 rfl ?_
    obtain ⟨x57, hc9, hrun⟩ := m_bind hrun
    refine mr_get (C := RX3) (T := TX3) (N := 10) (ci := 2) hx hb hts (fun w q => m_ws_in (wi_X3 w q)) hown hR rfl 8 (by decide) (hts _ (m_ws_in wm_0_70)) (fun _ h9 => h9) (m_gi_spec hc9) dX3_charge_57 ?_
    refine lv_iload hx hb dX3_charge_60 (lv_at hl 0 rfl) ?_
    refine lv_isub hx hb dX3_charge_62 ?_
    obtain ⟨h63, hc9, hrun⟩ := m_bind hrun
    refine mr_put (C := RX3) (T := TX3) (N := 10) (ci := 2) hx hb hts (fun w q => m_ws_in (wi_X3 w q)) tyX3 tyX3_ok nmX3 hown hR hz hS rfl 8 (by decide) (hts _ (m_ws_in wm_0_70)) (fun _ h9 => h9) rfl (tyX3_ok 8 (by decide)) rfl rfl hc9 dX3_charge_63 (fun H locs hR hz hS => ?_)
    exact k_X3_charge_b66 hx hb hr hml hown hts hlocks hin hE hA _ _ _ _ _ _ _ _ hrun hR hz hS (lv_sub hl [2, 3, 4, 0] rfl)
/-! X7_settle -/
abbrev rm_X7_settle : Room := { frames := 6, cells := 1, slots := 6, locals := 90 }
theorem yk_X7_settle : m_K yX7_settle cX7_settle 4 (some .int) 1 := ⟨wm_2_156, wm_0_1, by decide +kernel⟩
theorem ys_X7_settle : Cond.instanceMethod yX7_settle ∈ wT ∧ Cond.selects RX7 yX7_settle yX7_settle ∈ wT := ⟨wm_2_154, wm_2_155⟩
set_option maxRecDepth 100000 in
set_option maxHeartbeats 4000000 in
theorem k_X7_settle_L33 {p : Program} {l : Launch} {e : Env} {s : State} {m : MethodId} {args : Array Value} {below : List Frame} {meth : Method} {c : Code} {D : va_G} {ids : m_I3} {st : m_T} {A : Nat → Prop} {z : Nat} {r : (String ⊕ Int32)} {hF : mH} (hx : p.tables.exec = Jvm.exec) (hb : c.code = cX7_settle) (hr : meth.sig.returnType = some .int) (hml : c.maxLocals = 4) (hown : s.vm.findClass RX7 = some m.cls) (hts : ∀ w ∈ (m_ws yX7_settle cX7_settle 4 (some .int)), w.before args s = true) (hlocks : meth.locks = false) (hin : meth.name = yX7_settle.name) (hE : m_EV st A s s.heap) (hA : ∀ q, s.heap.size ≤ q → A q) (hfl : l.stackTraces = false) (hout : ∀ x ∈ c.exceptionTable.toList, ∀ q, covers x q = false) : ∀ (n : Nat) (h : mH) (v0 : Nat) (v1 : Int32) (v2 : Int32) (v3 : Int32) (H : Heap) (locs : List Loc) (ls : Array Slot), s_X7_settle_L33 n h v0 v1 v2 v3 = some (r, hF) → Rl D ids A h s H → H.size = z → va_S A s.heap H locs → lv_has ls 4 [(0, .ref v0), (1, .int v1), (2, .int v2), (3, .int v3)] → W p l e rm_X7_settle s m args below meth c H locs 0 0 (vx_MQ below (mQxi D ids A r hF) (mXx D ids A r hF) args s 1 6 A) (F0 m 33 ls []) := by
  intro n
  induction n with
  | zero => intro h v0 v1 v2 v3 H locs ls hrun; exact absurd hrun (by intro h9; cases h9)
  | succ n ih =>
    intro h v0 v1 v2 v3 H locs ls hrun hR hz hS hl
    rw [s_X7_settle_L33] at hrun
    refine lv_iload_n hx hb dX7_settle_33 rfl (lv_at hl 3 rfl) ?_
    refine lv_iconst (v := 4) hx hb dX7_settle_34 (by decide) ?_
    refine lv_icmp_ge (tgt := 65) hx hb dX7_settle_35 (by decide) (fun hc => ?_) (fun hc => ?_)
    · have hrun := mt_t hrun hc
      refine lv_iload_n hx hb dX7_settle_65 rfl (lv_at hl 2 rfl) ?_
      refine lv_ldc (v := 100000) hx hb hown (hts _ (m_ws_in wm_1_203)) dX7_settle_66 ?_
      refine lv_iadd hx hb dX7_settle_68 ?_
      obtain ⟨rfl, rfl⟩ := Prod.mk.inj (Option.some.inj hrun)
      exact mrx_iret hx hb hr hlocks hR hS dX7_settle_69 (Nat.le_of_ble_eq_true rfl) (Nat.le_of_ble_eq_true rfl)
    · have hrun := mt_f hrun hc
      refine lv_iload_n hx hb dX7_settle_38 rfl (lv_at hl 2 rfl) ?_
      refine lv_aload_n hx hb dX7_settle_39 rfl (lv_at hl 0 rfl) ?_
      obtain ⟨x40, hc9, hrun⟩ := m_bind hrun
      refine mr_get (C := RX7) (T := TX7) (N := 8) (ci := 5) hx hb hts (fun w q => m_ws_in (wi_X7 w q)) hown hR rfl 0 (by decide) (hts _ (m_ws_in wm_1_11)) (fun _ h9 => h9) (m_gr_spec hc9) dX7_settle_40 ?_
      refine lv_iload_n hx hb dX7_settle_43 rfl (lv_at hl 3 rfl) ?_
      refine lv_iload_n hx hb dX7_settle_44 rfl (lv_at hl 1 rfl) ?_
      refine lv_aload_n hx hb dX7_settle_45 rfl (lv_at hl 0 rfl) ?_
      obtain ⟨x46, hc9, hrun⟩ := m_bind hrun
      refine mr_get (C := RX7) (T := TX7) (N := 8) (ci := 5) hx hb hts (fun w q => m_ws_in (wi_X7 w q)) hown hR rfl 1 (by decide) (hts _ (m_ws_in wm_1_12)) (fun _ h9 => h9) (m_gr_spec hc9) dX7_settle_46 ?_
      refine lv_iload_n hx hb dX7_settle_49 rfl (lv_at hl 3 rfl) ?_
      refine lv_iload_n hx hb dX7_settle_50 rfl (lv_at hl 1 rfl) ?_
      obtain ⟨_, ho9, hrun⟩ := m_bind hrun
      obtain ⟨fs9, ho9⟩ := m_is_spec ho9
      obtain ⟨x51, hc9, hrun⟩ := m_bind hrun
      refine mr_calli (mr_runV (As := [.int v3, .int v1]) (rest := [.int v1, .int v3, .ref x40, .int v2]) hx hb hml hown hts (c_X0_weekCost l D ids st z hc9) yk_X0_weekCost ys_X0_weekCost wm_1_85 ⟨(Nat.le_of_ble_eq_true rfl), (Nat.le_of_ble_eq_true rfl)⟩ (mr_recv (ci := 0) hR hE hz hS hA rfl ho9) hl.1 rfl (Nat.le_of_ble_eq_true rfl) dX7_settle_51 ⟨(Nat.le_of_ble_eq_true rfl), (Nat.le_of_ble_eq_true rfl)⟩) hR hz hS hA (fun H locs hR hz hS => ?_)
      obtain ⟨_, ho9, hrun⟩ := m_bind hrun
      obtain ⟨fs9, ho9⟩ := m_is_spec ho9
      obtain ⟨⟨x54, h54⟩, hc9, hrun⟩ := m_bind hrun
      refine mr_calli (mr_runV (As := [.int v3, .int v1, .int x51]) (rest := [.int v2]) hx hb hml hown hts (c_X3_charge l D ids st z hc9) yk_X3_charge ys_X3_charge wm_2_158 ⟨(Nat.le_of_ble_eq_true rfl), (Nat.le_of_ble_eq_true rfl)⟩ (mr_recv (ci := 2) hR hE hz hS hA rfl ho9) hl.1 rfl (Nat.le_of_ble_eq_true rfl) dX7_settle_54 ⟨(Nat.le_of_ble_eq_true rfl), (Nat.le_of_ble_eq_true rfl)⟩) hR hz hS hA (fun H locs hR hz hS => ?_)
      refine lv_iadd hx hb dX7_settle_57 ?_
      refine lv_istore_n (lv' := [(2, .int (v2 + x54)), (0, .ref v0), (1, .int v1), (3, .int v3)]) hx hb dX7_settle_58 rfl hl (by decide) rfl (fun ls hl => ?_)
      refine lv_iinc (v := v3 + 1) (lv' := [(3, .int (v3 + 1)), (2, .int (v2 + x54)), (0, .ref v0), (1, .int v1)]) hx hb dX7_settle_59 hl (k := 3) rfl rfl (by decide) rfl (fun ls hl => ?_)
      refine lv_goto (tgt := 33) hx hb dX7_settle_62 (by decide) ?_
      exact ih _ _ _ _ _ _ _ _ hrun hR hz hS (lv_sub hl [2, 3, 1, 0] rfl)
set_option maxRecDepth 100000 in
set_option maxHeartbeats 4000000 in
theorem c_X7_settle (l : Launch) (hfl : l.stackTraces = false) (D : va_G) (ids : m_I3) (st : m_T) (z : Nat) {h : mH} {v0 : Nat} {v1 : Int32} {r : (String ⊕ Int32)} {hF : mH} (hrun : s_X7_settle h v0 v1 = some (r, hF)) : vx_Met l yX7_settle (m_ws yX7_settle cX7_settle 4 (some .int)) rm_X7_settle (mPc D ids st [.ref v0, .int v1] h z) (mQxi D ids (m_A h z) r hF) (mXx D ids (m_A h z) r hF) rm_X7_settle.cells rm_X7_settle.slots (m_A h z) := by
  refine mrx_of (cc := cX7_settle) (maxL := 4) (ret := some .int) (by decide) rfl (Nat.le_of_ble_eq_true rfl) ?_
  intro p e s m below meth c ls hx hb hr hml hown hts hlocks hin hout hR hE hz hl
  have hA : ∀ q, s.heap.size ≤ q → m_A h z q := fun q hq => Or.inr (by rw [← hz]; exact hq)
  have hS : va_S (m_A h z) s.heap s.heap [] := va_S.rf
  have hl : lv_has ls 4 [(0, .ref v0), (1, .int v1)] := hl
  unfold s_X7_settle at hrun
  refine lv_iload_n hx hb dX7_settle_0 rfl (lv_at hl 1 rfl) ?_
  refine lv_iconst (v := 4) hx hb dX7_settle_1 (by decide) ?_
  obtain ⟨x2, hc9, hrun⟩ := m_bind hrun
  refine mr_calli (mr_runS (As := [.int v1, .int 4]) (rest := []) hx hb hml hown hts (c_X7_isBelow l D ids st z hc9) yk_X7_isBelow ys_X7_isBelow wm_1_225 ⟨(Nat.le_of_ble_eq_true rfl), (Nat.le_of_ble_eq_true rfl)⟩ (mr_recvS hR hE hz hS hA) hl.1 rfl (Nat.le_of_ble_eq_true rfl) dX7_settle_2 ⟨(Nat.le_of_ble_eq_true rfl), (Nat.le_of_ble_eq_true rfl)⟩) hR hz hS hA (fun H locs hR hz hS => ?_)
  refine lv_if_ne (tgt := 18) hx hb dX7_settle_5 (by decide) (fun hc => ?_) (fun hc => ?_)
  · have hrun := mt_f hrun hc
    refine lv_aload_n hx hb dX7_settle_18 rfl (lv_at hl 0 rfl) ?_
    obtain ⟨x19, hc9, hrun⟩ := m_bind hrun
    refine mr_get (C := RX7) (T := TX7) (N := 8) (ci := 5) hx hb hts (fun w q => m_ws_in (wi_X7 w q)) hown hR rfl 2 (by decide) (hts _ (m_ws_in wm_1_13)) (fun _ h9 => h9) (m_gr_spec hc9) dX7_settle_19 ?_
    refine lv_aload_n hx hb dX7_settle_22 rfl (lv_at hl 0 rfl) ?_
    obtain ⟨x23, hc9, hrun⟩ := m_bind hrun
    refine mr_get (C := RX7) (T := TX7) (N := 8) (ci := 5) hx hb hts (fun w q => m_ws_in (wi_X7 w q)) hown hR rfl 0 (by decide) (hts _ (m_ws_in wm_1_11)) (fun _ h9 => h9) (m_gr_spec hc9) dX7_settle_23 ?_
    obtain ⟨_, ho9, hrun⟩ := m_bind hrun
    obtain ⟨fs9, ho9⟩ := m_is_spec ho9
    obtain ⟨h26, hc9, hrun⟩ := m_bind hrun
    refine mr_callv (mr_runV (As := [.ref x23]) (rest := []) hx hb hml hown hts (c_X2_push l D ids st z hc9) yk_X2_push ys_X2_push wm_2_73 ⟨(Nat.le_of_ble_eq_true rfl), (Nat.le_of_ble_eq_true rfl)⟩ (mr_recv (ci := 1) hR hE hz hS hA rfl ho9) hl.1 rfl (Nat.le_of_ble_eq_true rfl) dX7_settle_26 ⟨(Nat.le_of_ble_eq_true rfl), (Nat.le_of_ble_eq_true rfl)⟩) hR hz hS hA (fun H locs hR hz hS => ?_)
    refine lv_iconst (v := 0) hx hb dX7_settle_29 (by decide) ?_
    refine lv_istore_n (lv' := [(2, .int 0), (0, .ref v0), (1, .int v1)]) hx hb dX7_settle_30 rfl hl (by decide) rfl (fun ls hl => ?_)
    refine lv_iconst (v := 0) hx hb dX7_settle_31 (by decide) ?_
    refine lv_istore_n (lv' := [(3, .int 0), (2, .int 0), (0, .ref v0), (1, .int v1)]) hx hb dX7_settle_32 rfl hl (by decide) rfl (fun ls hl => ?_)
    exact k_X7_settle_L33 hx hb hr hml hown hts hlocks hin hE hA hfl hout _ _ _ _ _ _ _ _ _ hrun hR hz hS (lv_sub hl [2, 3, 1, 0] rfl)
  · have hrun := mt_t hrun hc
    obtain ⟨rfl, rfl⟩ := Prod.mk.inj (Option.some.inj hrun)
    exact mr_throw (text := "week is out of range") hx hb hfl hown hts hml hE yt_72 (List.mem_of_getElem? (i := 4) rfl) hR hS hl.1 dX7_settle_8 dX7_settle_11 dX7_settle_12 dX7_settle_14 dX7_settle_17 hout hlocks (Nat.le_of_ble_eq_true rfl) (Nat.le_of_ble_eq_true rfl) (Nat.le_of_ble_eq_true rfl) (Nat.le_of_ble_eq_true rfl) (Nat.le_of_ble_eq_true rfl) (Nat.le_of_ble_eq_true rfl)
/-! L_settle -/
abbrev rm_L_settle : Room := { frames := 7, cells := 1, slots := 6, locals := 113 }
theorem yk_L_settle : m_KH yL_settle cL_settle 4 (some .int) [(0, 9, 12, 13)] 3 := ⟨wm_2_152, wm_0_0, by decide +kernel⟩
theorem ys_L_settle : Cond.static yL_settle ∈ wT := wm_2_151
set_option maxRecDepth 100000 in
set_option maxHeartbeats 4000000 in
theorem c_L_settle (l : Launch) (hfl : l.stackTraces = false) (D : va_G) (ids : m_I3) (st : m_T) (z : Nat) {h : mH} {v0 : Nat} {v1 : Int32} {v2 : Nat} {r : Int32} {hF : mH} (hrun : s_L_settle h v0 v1 v2 = some (r, hF)) : Met l yL_settle (m_wsH yL_settle cL_settle 4 (some .int) [(0, 9, 12, 13)]) rm_L_settle (mPc D ids st [.ref v0, .int v1, .ref v2] h z) (mQwi D ids (m_A h z) r hF) rm_L_settle.cells rm_L_settle.slots (m_A h z) := by
  refine mr_ofH (cc := cL_settle) (maxL := 4) (ret := some .int) (hh := [(0, 9, 12, 13)]) (by decide) rfl (Nat.le_of_ble_eq_true rfl) ?_
  intro p e s m below meth c ls hx hb hr hml hown hts hlocks hin htab hR hE hz hl
  have hA : ∀ q, s.heap.size ≤ q → m_A h z q := fun q hq => Or.inr (by rw [← hz]; exact hq)
  have hS : va_S (m_A h z) s.heap s.heap [] := va_S.rf
  have hl : lv_has ls 4 [(0, .ref v0), (1, .int v1), (2, .ref v2)] := hl
  unfold s_L_settle at hrun
  refine lv_aload_n hx hb dL_settle_0 rfl (lv_at hl 2 rfl) ?_
  refine lv_iconst (v := 0) hx hb dL_settle_1 (by decide) ?_
  refine lv_aload_n hx hb dL_settle_2 rfl (lv_at hl 0 rfl) ?_
  refine lv_iload_n hx hb dL_settle_3 rfl (lv_at hl 1 rfl) ?_
  obtain ⟨_, ho9, hrun⟩ := m_bind hrun
  obtain ⟨fs9, ho9⟩ := m_is_spec ho9
  obtain ⟨⟨r4, h4⟩, hc9, hrun⟩ := m_bind hrun
  refine mrx_calli (mrx_runV (As := [.int v1]) (rest := [.int 0, .ref v2]) hx hb hml hown hts (c_X7_settle l hfl D ids st z hc9) yk_X7_settle ys_X7_settle wm_2_153 ⟨(Nat.le_of_ble_eq_true rfl), (Nat.le_of_ble_eq_true rfl)⟩ (mr_recv (ci := 5) hR hE hz hS hA rfl ho9) hl.1 rfl (Nat.le_of_ble_eq_true rfl) dL_settle_4 ⟨(Nat.le_of_ble_eq_true rfl), (Nat.le_of_ble_eq_true rfl)⟩) hR hz hS hA (fun E9 ce9 q9 H locs hr9 hR hS hce hcv hcl => ?_) (fun x4 H locs hr9 hR hS => ?_)
  · subst hr9
    obtain ⟨z, hz⟩ : ∃ z, H.size = z := ⟨_, rfl⟩
    by_cases hc0 : E9 = "java/lang/IllegalArgumentException"
    · have hrun := mt_t hrun hc0
      rw [hc0] at hcl
      refine mr_catch0 hown htab (by decide) (by decide) (hts _ (List.mem_cons_of_mem _ wm_1_216)) hE.2.2.2.2.2.2.2 (List.mem_of_getElem? (i := 0) rfl) hce hcv hcl ?_
      refine lv_astore_n (lv' := [(3, .ref q9), (0, .ref v0), (1, .int v1), (2, .ref v2)]) hx hb dL_settle_12 rfl hl (by decide) rfl (fun ls hl => ?_)
      refine lv_iconst (v := 1) hx hb dL_settle_13 (by decide) ?_
      obtain ⟨rfl, rfl⟩ := Prod.mk.inj (Option.some.inj hrun)
      exact mrw_iret hx hb hr hlocks hR hS dL_settle_14 (Nat.le_of_ble_eq_true rfl) (Nat.le_of_ble_eq_true rfl)
    have hrun := mt_f hrun hc0
    exact absurd hrun (fun h9 => nomatch h9)
  · subst hr9
    obtain ⟨z, hz⟩ : ∃ z, H.size = z := ⟨_, rfl⟩
    refine lv_i2l (v := x4.toInt64) hx hb dL_settle_7 rfl ?_
    obtain ⟨h8, hc9, hrun⟩ := m_bind hrun
    refine mr_last hx hb hR hz hS hc9 dL_settle_8 (fun H locs hR hz hS => ?_)
    refine lv_goto (tgt := 15) hx hb dL_settle_9 (by decide) ?_
    refine lv_iconst (v := 0) hx hb dL_settle_15 (by decide) ?_
    obtain ⟨rfl, rfl⟩ := Prod.mk.inj (Option.some.inj hrun)
    exact mrw_iret hx hb hr hlocks hR hS dL_settle_16 (Nat.le_of_ble_eq_true rfl) (Nat.le_of_ble_eq_true rfl)
/-! X7_set -/
abbrev rm_X7_set : Room := { frames := 6, cells := 1, slots := 6, locals := 111 }
theorem yk_X7_set : m_K yX7_set cX7_set 4 (some .int) 2 := ⟨wm_2_175, wm_0_1, by decide +kernel⟩
theorem ys_X7_set : Cond.instanceMethod yX7_set ∈ wT ∧ Cond.selects RX7 yX7_set yX7_set ∈ wT := ⟨wm_2_173, wm_2_174⟩
set_option maxRecDepth 100000 in
set_option maxHeartbeats 4000000 in
theorem k_X7_set_b41 {p : Program} {l : Launch} {e : Env} {s : State} {m : MethodId} {args : Array Value} {below : List Frame} {meth : Method} {c : Code} {D : va_G} {ids : m_I3} {st : m_T} {A : Nat → Prop} {z : Nat} {r : (String ⊕ Int32)} {hF : mH} (hx : p.tables.exec = Jvm.exec) (hb : c.code = cX7_set) (hr : meth.sig.returnType = some .int) (hml : c.maxLocals = 4) (hown : s.vm.findClass RX7 = some m.cls) (hts : ∀ w ∈ (m_ws yX7_set cX7_set 4 (some .int)), w.before args s = true) (hlocks : meth.locks = false) (hin : meth.name = yX7_set.name) (hE : m_EV st A s s.heap) (hA : ∀ q, s.heap.size ≤ q → A q) (hfl : l.stackTraces = false) (hout : ∀ x ∈ c.exceptionTable.toList, ∀ q, covers x q = false) (h : mH) (H : Heap) (locs : List Loc) (ls : Array Slot) (hrun : s_X7_set_b41 st h = some (r, hF)) (hR : Rl D ids A h s H) (hz : H.size = z) (hS : va_S A s.heap H locs) (hl : lv_has ls 4 []) : W p l e rm_X7_set s m args below meth c H locs 0 0 (vx_MQ below (mQxi D ids A r hF) (mXx D ids A r hF) args s 1 6 A) (F0 m 41 ls []) := by
  unfold s_X7_set_b41 at hrun
  obtain ⟨rfl, rfl⟩ := Prod.mk.inj (Option.some.inj hrun)
  exact mr_throw (text := "value is out of range") hx hb hfl hown hts hml hE yt_72 (List.mem_of_getElem? (i := 6) rfl) hR hS hl.1 dX7_set_41 dX7_set_44 dX7_set_45 dX7_set_47 dX7_set_50 hout hlocks (Nat.le_of_ble_eq_true rfl) (Nat.le_of_ble_eq_true rfl) (Nat.le_of_ble_eq_true rfl) (Nat.le_of_ble_eq_true rfl) (Nat.le_of_ble_eq_true rfl) (Nat.le_of_ble_eq_true rfl)
set_option maxRecDepth 100000 in
set_option maxHeartbeats 4000000 in
theorem c_X7_set (l : Launch) (hfl : l.stackTraces = false) (D : va_G) (ids : m_I3) (st : m_T) (z : Nat) {h : mH} {v0 : Nat} {v1 : Int32} {v2 : Int32} {r : (String ⊕ Int32)} {hF : mH} (hrun : s_X7_set st h v0 v1 v2 = some (r, hF)) : vx_Met l yX7_set (m_ws yX7_set cX7_set 4 (some .int)) rm_X7_set (mPc D ids st [.ref v0, .int v1, .int v2] h z) (mQxi D ids (m_A h z) r hF) (mXx D ids (m_A h z) r hF) rm_X7_set.cells rm_X7_set.slots (m_A h z) := by
  refine mrx_of (cc := cX7_set) (maxL := 4) (ret := some .int) (by decide) rfl (Nat.le_of_ble_eq_true rfl) ?_
  intro p e s m below meth c ls hx hb hr hml hown hts hlocks hin hout hR hE hz hl
  have hA : ∀ q, s.heap.size ≤ q → m_A h z q := fun q hq => Or.inr (by rw [← hz]; exact hq)
  have hS : va_S (m_A h z) s.heap s.heap [] := va_S.rf
  have hl : lv_has ls 4 [(0, .ref v0), (1, .int v1), (2, .int v2)] := hl
  unfold s_X7_set at hrun
  refine lv_iload_n hx hb dX7_set_0 rfl (lv_at hl 1 rfl) ?_
  refine lv_bipush (v := 6) hx hb dX7_set_1 (by decide) ?_
  obtain ⟨x3, hc9, hrun⟩ := m_bind hrun
  refine mr_calli (mr_runS (As := [.int v1, .int 6]) (rest := []) hx hb hml hown hts (c_X7_isBelow l D ids st z hc9) yk_X7_isBelow ys_X7_isBelow wm_1_225 ⟨(Nat.le_of_ble_eq_true rfl), (Nat.le_of_ble_eq_true rfl)⟩ (mr_recvS hR hE hz hS hA) hl.1 rfl (Nat.le_of_ble_eq_true rfl) dX7_set_3 ⟨(Nat.le_of_ble_eq_true rfl), (Nat.le_of_ble_eq_true rfl)⟩) hR hz hS hA (fun H locs hR hz hS => ?_)
  refine lv_if_ne (tgt := 19) hx hb dX7_set_6 (by decide) (fun hc => ?_) (fun hc => ?_)
  · have hrun := mt_f hrun hc
    refine lv_iload_n hx hb dX7_set_19 rfl (lv_at hl 2 rfl) ?_
    refine mr_gets (n := "LEAST_VALUES") (k := 1) hx hb hE (List.mem_of_getElem? (i := 1) rfl) hS hown (hts _ (m_ws_in wm_2_177)) dX7_set_20 ?_
    refine lv_iload_n hx hb dX7_set_23 rfl (lv_at hl 1 rfl) ?_
    obtain ⟨x24, hc9, hrun⟩ := m_bind hrun
    refine mr_calli (mr_runS (As := [.ref (st.2 1), .int v1]) (rest := [.int v2]) hx hb hml hown hts (c_X1_at l D ids st z hc9) yk_X1_at ys_X1_at wm_1_80 ⟨(Nat.le_of_ble_eq_true rfl), (Nat.le_of_ble_eq_true rfl)⟩ (mr_recvS hR hE hz hS hA) hl.1 rfl (Nat.le_of_ble_eq_true rfl) dX7_set_24 ⟨(Nat.le_of_ble_eq_true rfl), (Nat.le_of_ble_eq_true rfl)⟩) hR hz hS hA (fun H locs hR hz hS => ?_)
    refine lv_icmp_lt (tgt := 41) hx hb dX7_set_27 (by decide) (fun hc => ?_) (fun hc => ?_)
    · have hrun := mt_t hrun hc
      exact k_X7_set_b41 hx hb hr hml hown hts hlocks hin hE hA hfl hout _ _ _ _ hrun hR hz hS (lv_sub hl [] rfl)
    · have hrun := mt_f hrun hc
      refine lv_iload_n hx hb dX7_set_30 rfl (lv_at hl 2 rfl) ?_
      refine mr_gets (n := "MOST_VALUES") (k := 2) hx hb hE (List.mem_of_getElem? (i := 2) rfl) hS hown (hts _ (m_ws_in wm_2_179)) dX7_set_31 ?_
      refine lv_iload_n hx hb dX7_set_34 rfl (lv_at hl 1 rfl) ?_
      obtain ⟨x35, hc9, hrun⟩ := m_bind hrun
      refine mr_calli (mr_runS (As := [.ref (st.2 2), .int v1]) (rest := [.int v2]) hx hb hml hown hts (c_X1_at l D ids st z hc9) yk_X1_at ys_X1_at wm_1_80 ⟨(Nat.le_of_ble_eq_true rfl), (Nat.le_of_ble_eq_true rfl)⟩ (mr_recvS hR hE hz hS hA) hl.1 rfl (Nat.le_of_ble_eq_true rfl) dX7_set_35 ⟨(Nat.le_of_ble_eq_true rfl), (Nat.le_of_ble_eq_true rfl)⟩) hR hz hS hA (fun H locs hR hz hS => ?_)
      refine lv_icmp_le (tgt := 51) hx hb dX7_set_38 (by decide) (fun hc => ?_) (fun hc => ?_)
      · have hrun := mt_t hrun hc
        refine lv_aload_n hx hb dX7_set_51 rfl (lv_at hl 0 rfl) ?_
        obtain ⟨x52, hc9, hrun⟩ := m_bind hrun
        refine mr_get (C := RX7) (T := TX7) (N := 8) (ci := 5) hx hb hts (fun w q => m_ws_in (wi_X7 w q)) hown hR rfl 2 (by decide) (hts _ (m_ws_in wm_1_13)) (fun _ h9 => h9) (m_gr_spec hc9) dX7_set_52 ?_
        refine lv_aload_n hx hb dX7_set_55 rfl (lv_at hl 0 rfl) ?_
        obtain ⟨x56, hc9, hrun⟩ := m_bind hrun
        refine mr_get (C := RX7) (T := TX7) (N := 8) (ci := 5) hx hb hts (fun w q => m_ws_in (wi_X7 w q)) hown hR rfl 0 (by decide) (hts _ (m_ws_in wm_1_11)) (fun _ h9 => h9) (m_gr_spec hc9) dX7_set_56 ?_
        obtain ⟨_, ho9, hrun⟩ := m_bind hrun
        obtain ⟨fs9, ho9⟩ := m_is_spec ho9
        obtain ⟨h59, hc9, hrun⟩ := m_bind hrun
        refine mr_callv (mr_runV (As := [.ref x56]) (rest := []) hx hb hml hown hts (c_X2_push l D ids st z hc9) yk_X2_push ys_X2_push wm_2_73 ⟨(Nat.le_of_ble_eq_true rfl), (Nat.le_of_ble_eq_true rfl)⟩ (mr_recv (ci := 1) hR hE hz hS hA rfl ho9) hl.1 rfl (Nat.le_of_ble_eq_true rfl) dX7_set_59 ⟨(Nat.le_of_ble_eq_true rfl), (Nat.le_of_ble_eq_true rfl)⟩) hR hz hS hA (fun H locs hR hz hS => ?_)
        refine lv_aload_n hx hb dX7_set_62 rfl (lv_at hl 0 rfl) ?_
        obtain ⟨x63, hc9, hrun⟩ := m_bind hrun
        refine mr_get (C := RX7) (T := TX7) (N := 8) (ci := 5) hx hb hts (fun w q => m_ws_in (wi_X7 w q)) hown hR rfl 0 (by decide) (hts _ (m_ws_in wm_1_11)) (fun _ h9 => h9) (m_gr_spec hc9) dX7_set_63 ?_
        obtain ⟨x66, hc9, hrun⟩ := m_bind hrun
        refine mr_getN (C := RX3) (T := TX3) (N := 10) (ci := 2) hx hb hts (fun w q => m_ws_in (wi_X3 w q)) hown hR rfl 1 (by decide) (hE.nf (i := 4) rfl) (fun _ h9 => h9) (m_gr_spec hc9) dX7_set_66 ?_
        refine lv_iload_n hx hb dX7_set_69 rfl (lv_at hl 1 rfl) ?_
        obtain ⟨x70, hc9, hrun⟩ := m_bind hrun
        refine mr_calli (mr_runS (As := [.ref x66, .int v1]) (rest := []) hx hb hml hown hts (c_X1_at l D ids st z hc9) yk_X1_at ys_X1_at wm_1_80 ⟨(Nat.le_of_ble_eq_true rfl), (Nat.le_of_ble_eq_true rfl)⟩ (mr_recvS hR hE hz hS hA) hl.1 rfl (Nat.le_of_ble_eq_true rfl) dX7_set_70 ⟨(Nat.le_of_ble_eq_true rfl), (Nat.le_of_ble_eq_true rfl)⟩) hR hz hS hA (fun H locs hR hz hS => ?_)
        refine lv_istore_n (lv' := [(3, .int x70), (0, .ref v0), (1, .int v1), (2, .int v2)]) hx hb dX7_set_73 rfl hl (by decide) rfl (fun ls hl => ?_)
        refine lv_aload_n hx hb dX7_set_74 rfl (lv_at hl 1 rfl) ?_
        obtain ⟨x75, hc9, hrun⟩ := m_bind hrun
        refine mr_get (C := RX7) (T := TX7) (N := 8) (ci := 5) hx hb hts (fun w q => m_ws_in (wi_X7 w q)) hown hR rfl 0 (by decide) (hts _ (m_ws_in wm_1_11)) (fun _ h9 => h9) (m_gr_spec hc9) dX7_set_75 ?_
        obtain ⟨x78, hc9, hrun⟩ := m_bind hrun
        refine mr_getN (C := RX3) (T := TX3) (N := 10) (ci := 2) hx hb hts (fun w q => m_ws_in (wi_X3 w q)) hown hR rfl 1 (by decide) (hE.nf (i := 4) rfl) (fun _ h9 => h9) (m_gr_spec hc9) dX7_set_78 ?_
        refine lv_iload_n hx hb dX7_set_81 rfl (lv_at hl 2 rfl) ?_
        refine lv_iload_n hx hb dX7_set_82 rfl (lv_at hl 3 rfl) ?_
        obtain ⟨h83, hc9, hrun⟩ := m_bind hrun
        refine mr_callv (mr_runS (As := [.ref x78, .int v1, .int v2]) (rest := []) hx hb hml hown hts (c_X1_put l D ids st z hc9) yk_X1_put ys_X1_put wm_2_182 ⟨(Nat.le_of_ble_eq_true rfl), (Nat.le_of_ble_eq_true rfl)⟩ (mr_recvS hR hE hz hS hA) hl.1 rfl (Nat.le_of_ble_eq_true rfl) dX7_set_83 ⟨(Nat.le_of_ble_eq_true rfl), (Nat.le_of_ble_eq_true rfl)⟩) hR hz hS hA (fun H locs hR hz hS => ?_)
        refine lv_aload_n hx hb dX7_set_86 rfl (lv_at hl 1 rfl) ?_
        obtain ⟨_, ho9, hrun⟩ := m_bind hrun
        obtain ⟨fs9, ho9⟩ := m_is_spec ho9
        obtain ⟨h87, hc9, hrun⟩ := m_bind hrun
        refine mr_callv (mr_runV (As := []) (rest := []) hx hb hml hown hts (c_X7_readRides l D ids st z hc9) yk_X7_readRides ys_X7_readRides wm_2_87 ⟨(Nat.le_of_ble_eq_true rfl), (Nat.le_of_ble_eq_true rfl)⟩ (mr_recv (ci := 5) hR hE hz hS hA rfl ho9) hl.1 rfl (Nat.le_of_ble_eq_true rfl) dX7_set_87 ⟨(Nat.le_of_ble_eq_true rfl), (Nat.le_of_ble_eq_true rfl)⟩) hR hz hS hA (fun H locs hR hz hS => ?_)
        refine lv_iload_n hx hb dX7_set_90 rfl (lv_at hl 0 rfl) ?_
        obtain ⟨rfl, rfl⟩ := Prod.mk.inj (Option.some.inj hrun)
        exact mrx_iret hx hb hr hlocks hR hS dX7_set_91 (Nat.le_of_ble_eq_true rfl) (Nat.le_of_ble_eq_true rfl)
      · have hrun := mt_f hrun hc
        exact k_X7_set_b41 hx hb hr hml hown hts hlocks hin hE hA hfl hout _ _ _ _ hrun hR hz hS (lv_sub hl [] rfl)
  · have hrun := mt_t hrun hc
    obtain ⟨rfl, rfl⟩ := Prod.mk.inj (Option.some.inj hrun)
    exact mr_throw (text := "there is no such setting") hx hb hfl hown hts hml hE yt_108 (List.mem_of_getElem? (i := 5) rfl) hR hS hl.1 dX7_set_9 dX7_set_12 dX7_set_13 dX7_set_15 dX7_set_18 hout hlocks (Nat.le_of_ble_eq_true rfl) (Nat.le_of_ble_eq_true rfl) (Nat.le_of_ble_eq_true rfl) (Nat.le_of_ble_eq_true rfl) (Nat.le_of_ble_eq_true rfl) (Nat.le_of_ble_eq_true rfl)
/-! L_set -/
abbrev rm_L_set : Room := { frames := 7, cells := 1, slots := 6, locals := 134 }
theorem yk_L_set : m_KH yL_set cL_set 5 (some .int) [(0, 10, 13, 21), (0, 10, 17, 13)] 4 := ⟨wm_2_171, wm_0_0, by decide +kernel⟩
theorem ys_L_set : Cond.static yL_set ∈ wT := wm_2_170
set_option maxRecDepth 100000 in
set_option maxHeartbeats 4000000 in
theorem c_L_set (l : Launch) (hfl : l.stackTraces = false) (D : va_G) (ids : m_I3) (st : m_T) (z : Nat) {h : mH} {v0 : Nat} {v1 : Int32} {v2 : Int32} {v3 : Nat} {r : Int32} {hF : mH} (hrun : s_L_set st h v0 v1 v2 v3 = some (r, hF)) : Met l yL_set (m_wsH yL_set cL_set 5 (some .int) [(0, 10, 13, 21), (0, 10, 17, 13)]) rm_L_set (mPc D ids st [.ref v0, .int v1, .int v2, .ref v3] h z) (mQwi D ids (m_A h z) r hF) rm_L_set.cells rm_L_set.slots (m_A h z) := by
  refine mr_ofH (cc := cL_set) (maxL := 5) (ret := some .int) (hh := [(0, 10, 13, 21), (0, 10, 17, 13)]) (by decide) rfl (Nat.le_of_ble_eq_true rfl) ?_
  intro p e s m below meth c ls hx hb hr hml hown hts hlocks hin htab hR hE hz hl
  have hA : ∀ q, s.heap.size ≤ q → m_A h z q := fun q hq => Or.inr (by rw [← hz]; exact hq)
  have hS : va_S (m_A h z) s.heap s.heap [] := va_S.rf
  have hl : lv_has ls 5 [(0, .ref v0), (1, .int v1), (2, .int v2), (3, .ref v3)] := hl
  unfold s_L_set at hrun
  refine lv_aload_n hx hb dL_set_0 rfl (lv_at hl 3 rfl) ?_
  refine lv_iconst (v := 0) hx hb dL_set_1 (by decide) ?_
  refine lv_aload_n hx hb dL_set_2 rfl (lv_at hl 0 rfl) ?_
  refine lv_iload_n hx hb dL_set_3 rfl (lv_at hl 1 rfl) ?_
  refine lv_iload_n hx hb dL_set_4 rfl (lv_at hl 2 rfl) ?_
  obtain ⟨_, ho9, hrun⟩ := m_bind hrun
  obtain ⟨fs9, ho9⟩ := m_is_spec ho9
  obtain ⟨⟨r5, h5⟩, hc9, hrun⟩ := m_bind hrun
  refine mrx_calli (mrx_runV (As := [.int v1, .int v2]) (rest := [.int 0, .ref v3]) hx hb hml hown hts (c_X7_set l hfl D ids st z hc9) yk_X7_set ys_X7_set wm_2_172 ⟨(Nat.le_of_ble_eq_true rfl), (Nat.le_of_ble_eq_true rfl)⟩ (mr_recv (ci := 5) hR hE hz hS hA rfl ho9) hl.1 rfl (Nat.le_of_ble_eq_true rfl) dL_set_5 ⟨(Nat.le_of_ble_eq_true rfl), (Nat.le_of_ble_eq_true rfl)⟩) hR hz hS hA (fun E9 ce9 q9 H locs hr9 hR hS hce hcv hcl => ?_) (fun x5 H locs hr9 hR hS => ?_)
  · subst hr9
    obtain ⟨z, hz⟩ : ∃ z, H.size = z := ⟨_, rfl⟩
    by_cases hc0 : E9 = "java/lang/IndexOutOfBoundsException"
    · have hrun := mt_t hrun hc0
      rw [hc0] at hcl
      refine mr_catch0 hown htab (by decide) (by decide) (hts _ (List.mem_cons_of_mem _ wm_2_94)) hE.2.2.2.2.2.2.2 (List.mem_of_getElem? (i := 2) rfl) hce hcv hcl ?_
      refine lv_astore (lv' := [(4, .ref q9), (0, .ref v0), (1, .int v1), (2, .int v2), (3, .ref v3)]) hx hb dL_set_13 hl (by decide) rfl (fun ls hl => ?_)
      refine lv_iconst (v := 1) hx hb dL_set_15 (by decide) ?_
      obtain ⟨rfl, rfl⟩ := Prod.mk.inj (Option.some.inj hrun)
      exact mrw_iret hx hb hr hlocks hR hS dL_set_16 (Nat.le_of_ble_eq_true rfl) (Nat.le_of_ble_eq_true rfl)
    have hrun := mt_f hrun hc0
    by_cases hc1 : E9 = "java/lang/IllegalArgumentException"
    · have hrun := mt_t hrun hc1
      rw [hc1] at hcl
      refine mr_catch1 hown htab (by decide) (by decide) (by decide) (hts _ (List.mem_cons_of_mem _ wm_1_216)) (hts _ (List.mem_cons_of_mem _ wm_2_94)) hE.2.2.2.2.2.2.2 (List.mem_of_getElem? (i := 0) rfl) (List.mem_of_getElem? (i := 1) rfl) hce hcv hcl ?_
      refine lv_astore (lv' := [(4, .ref q9), (0, .ref v0), (1, .int v1), (2, .int v2), (3, .ref v3)]) hx hb dL_set_17 hl (by decide) rfl (fun ls hl => ?_)
      refine lv_iconst (v := 2) hx hb dL_set_19 (by decide) ?_
      obtain ⟨rfl, rfl⟩ := Prod.mk.inj (Option.some.inj hrun)
      exact mrw_iret hx hb hr hlocks hR hS dL_set_20 (Nat.le_of_ble_eq_true rfl) (Nat.le_of_ble_eq_true rfl)
    have hrun := mt_f hrun hc1
    exact absurd hrun (fun h9 => nomatch h9)
  · subst hr9
    obtain ⟨z, hz⟩ : ∃ z, H.size = z := ⟨_, rfl⟩
    refine lv_i2l (v := x5.toInt64) hx hb dL_set_8 rfl ?_
    obtain ⟨h9, hc9, hrun⟩ := m_bind hrun
    refine mr_last hx hb hR hz hS hc9 dL_set_9 (fun H locs hR hz hS => ?_)
    refine lv_goto (tgt := 21) hx hb dL_set_10 (by decide) ?_
    refine lv_iconst (v := 0) hx hb dL_set_21 (by decide) ?_
    obtain ⟨rfl, rfl⟩ := Prod.mk.inj (Option.some.inj hrun)
    exact mrw_iret hx hb hr hlocks hR hS dL_set_22 (Nat.le_of_ble_eq_true rfl) (Nat.le_of_ble_eq_true rfl)
/-! X7_append -/
abbrev rm_X7_append : Room := { frames := 6, cells := 1, slots := 6, locals := 90 }
theorem yk_X7_append : m_K yX7_append cX7_append 2 (some .int) 1 := ⟨wm_2_189, wm_0_1, by decide +kernel⟩
theorem ys_X7_append : Cond.instanceMethod yX7_append ∈ wT ∧ Cond.selects RX7 yX7_append yX7_append ∈ wT := ⟨wm_2_187, wm_2_188⟩
set_option maxRecDepth 100000 in
set_option maxHeartbeats 4000000 in
theorem k_X7_append_b12 {p : Program} {l : Launch} {e : Env} {s : State} {m : MethodId} {args : Array Value} {below : List Frame} {meth : Method} {c : Code} {D : va_G} {ids : m_I3} {st : m_T} {A : Nat → Prop} {z : Nat} {r : (String ⊕ Int32)} {hF : mH} (hx : p.tables.exec = Jvm.exec) (hb : c.code = cX7_append) (hr : meth.sig.returnType = some .int) (hml : c.maxLocals = 2) (hown : s.vm.findClass RX7 = some m.cls) (hts : ∀ w ∈ (m_ws yX7_append cX7_append 2 (some .int)), w.before args s = true) (hlocks : meth.locks = false) (hin : meth.name = yX7_append.name) (hE : m_EV st A s s.heap) (hA : ∀ q, s.heap.size ≤ q → A q) (hfl : l.stackTraces = false) (hout : ∀ x ∈ c.exceptionTable.toList, ∀ q, covers x q = false) (h : mH) (H : Heap) (locs : List Loc) (ls : Array Slot) (hrun : s_X7_append_b12 h = some (r, hF)) (hR : Rl D ids A h s H) (hz : H.size = z) (hS : va_S A s.heap H locs) (hl : lv_has ls 2 []) : W p l e rm_X7_append s m args below meth c H locs 0 0 (vx_MQ below (mQxi D ids A r hF) (mXx D ids A r hF) args s 1 6 A) (F0 m 12 ls []) := by
  unfold s_X7_append_b12 at hrun
  obtain ⟨rfl, rfl⟩ := Prod.mk.inj (Option.some.inj hrun)
  exact mr_throw (text := "code is not 33 to 126") hx hb hfl hown hts hml hE yt_72 (List.mem_of_getElem? (i := 7) rfl) hR hS hl.1 dX7_append_12 dX7_append_15 dX7_append_16 dX7_append_18 dX7_append_21 hout hlocks (Nat.le_of_ble_eq_true rfl) (Nat.le_of_ble_eq_true rfl) (Nat.le_of_ble_eq_true rfl) (Nat.le_of_ble_eq_true rfl) (Nat.le_of_ble_eq_true rfl) (Nat.le_of_ble_eq_true rfl)
set_option maxRecDepth 100000 in
set_option maxHeartbeats 4000000 in
theorem c_X7_append (l : Launch) (hfl : l.stackTraces = false) (D : va_G) (ids : m_I3) (st : m_T) (z : Nat) {h : mH} {v0 : Nat} {v1 : Int32} {r : (String ⊕ Int32)} {hF : mH} (hrun : s_X7_append h v0 v1 = some (r, hF)) : vx_Met l yX7_append (m_ws yX7_append cX7_append 2 (some .int)) rm_X7_append (mPc D ids st [.ref v0, .int v1] h z) (mQxi D ids (m_A h z) r hF) (mXx D ids (m_A h z) r hF) rm_X7_append.cells rm_X7_append.slots (m_A h z) := by
  refine mrx_of (cc := cX7_append) (maxL := 2) (ret := some .int) (by decide) rfl (Nat.le_of_ble_eq_true rfl) ?_
  intro p e s m below meth c ls hx hb hr hml hown hts hlocks hin hout hR hE hz hl
  have hA : ∀ q, s.heap.size ≤ q → m_A h z q := fun q hq => Or.inr (by rw [← hz]; exact hq)
  have hS : va_S (m_A h z) s.heap s.heap [] := va_S.rf
  have hl : lv_has ls 2 [(0, .ref v0), (1, .int v1)] := hl
  unfold s_X7_append at hrun
  refine lv_iload_n hx hb dX7_append_0 rfl (lv_at hl 1 rfl) ?_
  refine lv_bipush (v := 33) hx hb dX7_append_1 (by decide) ?_
  refine lv_icmp_lt (tgt := 12) hx hb dX7_append_3 (by decide) (fun hc => ?_) (fun hc => ?_)
  · have hrun := mt_t hrun hc
    exact k_X7_append_b12 hx hb hr hml hown hts hlocks hin hE hA hfl hout _ _ _ _ hrun hR hz hS (lv_sub hl [] rfl)
  · have hrun := mt_f hrun hc
    refine lv_iload_n hx hb dX7_append_6 rfl (lv_at hl 1 rfl) ?_
    refine lv_bipush (v := 126) hx hb dX7_append_7 (by decide) ?_
    refine lv_icmp_le (tgt := 22) hx hb dX7_append_9 (by decide) (fun hc => ?_) (fun hc => ?_)
    · have hrun := mt_t hrun hc
      refine lv_aload_n hx hb dX7_append_22 rfl (lv_at hl 0 rfl) ?_
      obtain ⟨x23, hc9, hrun⟩ := m_bind hrun
      refine mr_get (C := RX7) (T := TX7) (N := 8) (ci := 5) hx hb hts (fun w q => m_ws_in (wi_X7 w q)) hown hR rfl 6 (by decide) (hts _ (m_ws_in wm_1_17)) (fun _ h9 => h9) (m_gi_spec hc9) dX7_append_23 ?_
      refine lv_bipush (v := 60) hx hb dX7_append_26 (by decide) ?_
      refine lv_icmp_lt (tgt := 41) hx hb dX7_append_28 (by decide) (fun hc => ?_) (fun hc => ?_)
      · have hrun := mt_t hrun hc
        refine lv_aload_n hx hb dX7_append_41 rfl (lv_at hl 0 rfl) ?_
        obtain ⟨x42, hc9, hrun⟩ := m_bind hrun
        refine mr_get (C := RX7) (T := TX7) (N := 8) (ci := 5) hx hb hts (fun w q => m_ws_in (wi_X7 w q)) hown hR rfl 5 (by decide) (hts _ (m_ws_in wm_1_16)) (fun _ h9 => h9) (m_gr_spec hc9) dX7_append_42 ?_
        refine lv_aload_n hx hb dX7_append_45 rfl (lv_at hl 0 rfl) ?_
        obtain ⟨x46, hc9, hrun⟩ := m_bind hrun
        refine mr_get (C := RX7) (T := TX7) (N := 8) (ci := 5) hx hb hts (fun w q => m_ws_in (wi_X7 w q)) hown hR rfl 6 (by decide) (hts _ (m_ws_in wm_1_17)) (fun _ h9 => h9) (m_gi_spec hc9) dX7_append_46 ?_
        refine lv_iload_n hx hb dX7_append_49 rfl (lv_at hl 1 rfl) ?_
        obtain ⟨h50, hc9, hrun⟩ := m_bind hrun
        refine mr_callv (mr_runS (As := [.ref x42, .int x46, .int v1]) (rest := []) hx hb hml hown hts (c_X1_put l D ids st z hc9) yk_X1_put ys_X1_put wm_2_182 ⟨(Nat.le_of_ble_eq_true rfl), (Nat.le_of_ble_eq_true rfl)⟩ (mr_recvS hR hE hz hS hA) hl.1 rfl (Nat.le_of_ble_eq_true rfl) dX7_append_50 ⟨(Nat.le_of_ble_eq_true rfl), (Nat.le_of_ble_eq_true rfl)⟩) hR hz hS hA (fun H locs hR hz hS => ?_)
        refine lv_aload_n hx hb dX7_append_53 rfl (lv_at hl 0 rfl) ?_
        refine lv_dup hx hb dX7_append_54 rfl ?_
        obtain ⟨x55, hc9, hrun⟩ := m_bind hrun
        refine mr_get (C := RX7) (T := TX7) (N := 8) (ci := 5) hx hb hts (fun w q => m_ws_in (wi_X7 w q)) hown hR rfl 6 (by decide) (hts _ (m_ws_in wm_1_17)) (fun _ h9 => h9) (m_gi_spec hc9) dX7_append_55 ?_
        refine lv_iconst (v := 1) hx hb dX7_append_58 (by decide) ?_
        refine lv_iadd hx hb dX7_append_59 ?_
        obtain ⟨h60, hc9, hrun⟩ := m_bind hrun
        refine mr_put (C := RX7) (T := TX7) (N := 8) (ci := 5) hx hb hts (fun w q => m_ws_in (wi_X7 w q)) tyX7 tyX7_ok nmX7 hown hR hz hS rfl 6 (by decide) (hts _ (m_ws_in wm_1_17)) (fun _ h9 => h9) rfl (tyX7_ok 6 (by decide)) rfl rfl hc9 dX7_append_60 (fun H locs hR hz hS => ?_)
        refine lv_aload_n hx hb dX7_append_63 rfl (lv_at hl 0 rfl) ?_
        obtain ⟨x64, hc9, hrun⟩ := m_bind hrun
        refine mr_get (C := RX7) (T := TX7) (N := 8) (ci := 5) hx hb hts (fun w q => m_ws_in (wi_X7 w q)) hown hR rfl 6 (by decide) (hts _ (m_ws_in wm_1_17)) (fun _ h9 => h9) (m_gi_spec hc9) dX7_append_64 ?_
        obtain ⟨rfl, rfl⟩ := Prod.mk.inj (Option.some.inj hrun)
        exact mrx_iret hx hb hr hlocks hR hS dX7_append_67 (Nat.le_of_ble_eq_true rfl) (Nat.le_of_ble_eq_true rfl)
      · have hrun := mt_f hrun hc
        obtain ⟨rfl, rfl⟩ := Prod.mk.inj (Option.some.inj hrun)
        exact mr_throw (text := "the buffer has 60 characters") hx hb hfl hown hts hml hE yt_82 (List.mem_of_getElem? (i := 8) rfl) hR hS hl.1 dX7_append_31 dX7_append_34 dX7_append_35 dX7_append_37 dX7_append_40 hout hlocks (Nat.le_of_ble_eq_true rfl) (Nat.le_of_ble_eq_true rfl) (Nat.le_of_ble_eq_true rfl) (Nat.le_of_ble_eq_true rfl) (Nat.le_of_ble_eq_true rfl) (Nat.le_of_ble_eq_true rfl)
    · have hrun := mt_f hrun hc
      exact k_X7_append_b12 hx hb hr hml hown hts hlocks hin hE hA hfl hout _ _ _ _ hrun hR hz hS (lv_sub hl [] rfl)
/-! L_append -/
abbrev rm_L_append : Room := { frames := 7, cells := 1, slots := 6, locals := 111 }
theorem yk_L_append : m_KH yL_append cL_append 4 (some .int) [(0, 9, 12, 13), (0, 9, 15, 15)] 3 := ⟨wm_2_185, wm_0_0, by decide +kernel⟩
theorem ys_L_append : Cond.static yL_append ∈ wT := wm_2_184
set_option maxRecDepth 100000 in
set_option maxHeartbeats 4000000 in
theorem c_L_append (l : Launch) (hfl : l.stackTraces = false) (D : va_G) (ids : m_I3) (st : m_T) (z : Nat) {h : mH} {v0 : Nat} {v1 : Int32} {v2 : Nat} {r : Int32} {hF : mH} (hrun : s_L_append h v0 v1 v2 = some (r, hF)) : Met l yL_append (m_wsH yL_append cL_append 4 (some .int) [(0, 9, 12, 13), (0, 9, 15, 15)]) rm_L_append (mPc D ids st [.ref v0, .int v1, .ref v2] h z) (mQwi D ids (m_A h z) r hF) rm_L_append.cells rm_L_append.slots (m_A h z) := by
  refine mr_ofH (cc := cL_append) (maxL := 4) (ret := some .int) (hh := [(0, 9, 12, 13), (0, 9, 15, 15)]) (by decide) rfl (Nat.le_of_ble_eq_true rfl) ?_
  intro p e s m below meth c ls hx hb hr hml hown hts hlocks hin htab hR hE hz hl
  have hA : ∀ q, s.heap.size ≤ q → m_A h z q := fun q hq => Or.inr (by rw [← hz]; exact hq)
  have hS : va_S (m_A h z) s.heap s.heap [] := va_S.rf
  have hl : lv_has ls 4 [(0, .ref v0), (1, .int v1), (2, .ref v2)] := hl
  unfold s_L_append at hrun
  refine lv_aload_n hx hb dL_append_0 rfl (lv_at hl 2 rfl) ?_
  refine lv_iconst (v := 0) hx hb dL_append_1 (by decide) ?_
  refine lv_aload_n hx hb dL_append_2 rfl (lv_at hl 0 rfl) ?_
  refine lv_iload_n hx hb dL_append_3 rfl (lv_at hl 1 rfl) ?_
  obtain ⟨_, ho9, hrun⟩ := m_bind hrun
  obtain ⟨fs9, ho9⟩ := m_is_spec ho9
  obtain ⟨⟨r4, h4⟩, hc9, hrun⟩ := m_bind hrun
  refine mrx_calli (mrx_runV (As := [.int v1]) (rest := [.int 0, .ref v2]) hx hb hml hown hts (c_X7_append l hfl D ids st z hc9) yk_X7_append ys_X7_append wm_2_186 ⟨(Nat.le_of_ble_eq_true rfl), (Nat.le_of_ble_eq_true rfl)⟩ (mr_recv (ci := 5) hR hE hz hS hA rfl ho9) hl.1 rfl (Nat.le_of_ble_eq_true rfl) dL_append_4 ⟨(Nat.le_of_ble_eq_true rfl), (Nat.le_of_ble_eq_true rfl)⟩) hR hz hS hA (fun E9 ce9 q9 H locs hr9 hR hS hce hcv hcl => ?_) (fun x4 H locs hr9 hR hS => ?_)
  · subst hr9
    obtain ⟨z, hz⟩ : ∃ z, H.size = z := ⟨_, rfl⟩
    by_cases hc0 : E9 = "java/lang/IllegalArgumentException"
    · have hrun := mt_t hrun hc0
      rw [hc0] at hcl
      refine mr_catch0 hown htab (by decide) (by decide) (hts _ (List.mem_cons_of_mem _ wm_1_216)) hE.2.2.2.2.2.2.2 (List.mem_of_getElem? (i := 0) rfl) hce hcv hcl ?_
      refine lv_astore_n (lv' := [(3, .ref q9), (0, .ref v0), (1, .int v1), (2, .ref v2)]) hx hb dL_append_12 rfl hl (by decide) rfl (fun ls hl => ?_)
      refine lv_iconst (v := 1) hx hb dL_append_13 (by decide) ?_
      obtain ⟨rfl, rfl⟩ := Prod.mk.inj (Option.some.inj hrun)
      exact mrw_iret hx hb hr hlocks hR hS dL_append_14 (Nat.le_of_ble_eq_true rfl) (Nat.le_of_ble_eq_true rfl)
    have hrun := mt_f hrun hc0
    by_cases hc1 : E9 = "java/lang/IllegalStateException"
    · have hrun := mt_t hrun hc1
      rw [hc1] at hcl
      refine mr_catch1 hown htab (by decide) (by decide) (by decide) (hts _ (List.mem_cons_of_mem _ wm_1_217)) (hts _ (List.mem_cons_of_mem _ wm_1_216)) hE.2.2.2.2.2.2.2 (List.mem_of_getElem? (i := 1) rfl) (List.mem_of_getElem? (i := 0) rfl) hce hcv hcl ?_
      refine lv_astore_n (lv' := [(3, .ref q9), (0, .ref v0), (1, .int v1), (2, .ref v2)]) hx hb dL_append_15 rfl hl (by decide) rfl (fun ls hl => ?_)
      refine lv_iconst (v := 2) hx hb dL_append_16 (by decide) ?_
      obtain ⟨rfl, rfl⟩ := Prod.mk.inj (Option.some.inj hrun)
      exact mrw_iret hx hb hr hlocks hR hS dL_append_17 (Nat.le_of_ble_eq_true rfl) (Nat.le_of_ble_eq_true rfl)
    have hrun := mt_f hrun hc1
    exact absurd hrun (fun h9 => nomatch h9)
  · subst hr9
    obtain ⟨z, hz⟩ : ∃ z, H.size = z := ⟨_, rfl⟩
    refine lv_i2l (v := x4.toInt64) hx hb dL_append_7 rfl ?_
    obtain ⟨h8, hc9, hrun⟩ := m_bind hrun
    refine mr_last hx hb hR hz hS hc9 dL_append_8 (fun H locs hR hz hS => ?_)
    refine lv_goto (tgt := 18) hx hb dL_append_9 (by decide) ?_
    refine lv_iconst (v := 0) hx hb dL_append_18 (by decide) ?_
    obtain ⟨rfl, rfl⟩ := Prod.mk.inj (Option.some.inj hrun)
    exact mrw_iret hx hb hr hlocks hR hS dL_append_19 (Nat.le_of_ble_eq_true rfl) (Nat.le_of_ble_eq_true rfl)
/-! X7_clearBuffer -/
abbrev rm_X7_clearBuffer : Room := { frames := 0, cells := 0, slots := 0, locals := 0 }
theorem yk_X7_clearBuffer : m_K yX7_clearBuffer cX7_clearBuffer 2 (some .int) 0 := ⟨wm_1_39, wm_0_1, by decide +kernel⟩
theorem ys_X7_clearBuffer : Cond.instanceMethod yX7_clearBuffer ∈ wT ∧ Cond.selects RX7 yX7_clearBuffer yX7_clearBuffer ∈ wT := ⟨wm_1_37, wm_1_38⟩
set_option maxRecDepth 100000 in
set_option maxHeartbeats 4000000 in
theorem c_X7_clearBuffer (l : Launch) (D : va_G) (ids : m_I3) (st : m_T) (z : Nat) {h : mH} {v0 : Nat} {r : Int32} {hF : mH} (hrun : s_X7_clearBuffer h v0 = some (r, hF)) : Met l yX7_clearBuffer (m_ws yX7_clearBuffer cX7_clearBuffer 2 (some .int)) rm_X7_clearBuffer (mPc D ids st [.ref v0] h z) (mQi D ids (m_A h z) r hF z) rm_X7_clearBuffer.cells rm_X7_clearBuffer.slots (m_A h z) := by
  refine mr_of (cc := cX7_clearBuffer) (maxL := 2) (ret := some .int) (by decide) rfl (Nat.le_of_ble_eq_true rfl) ?_
  intro p e s m below meth c ls hx hb hr hml hown hts hlocks hin hR hE hz hl
  have hA : ∀ q, s.heap.size ≤ q → m_A h z q := fun q hq => Or.inr (by rw [← hz]; exact hq)
  have hS : va_S (m_A h z) s.heap s.heap [] := va_S.rf
  have hl : lv_has ls 2 [(0, .ref v0)] := hl
  unfold s_X7_clearBuffer at hrun
  refine lv_aload_n hx hb dX7_clearBuffer_0 rfl (lv_at hl 0 rfl) ?_
  obtain ⟨x1, hc9, hrun⟩ := m_bind hrun
  refine mr_get (C := RX7) (T := TX7) (N := 8) (ci := 5) hx hb hts (fun w q => m_ws_in (wi_X7 w q)) hown hR rfl 6 (by decide) (hts _ (m_ws_in wm_1_17)) (fun _ h9 => h9) (m_gi_spec hc9) dX7_clearBuffer_1 ?_
  refine lv_istore_n (lv' := [(1, .int x1), (0, .ref v0)]) hx hb dX7_clearBuffer_4 rfl hl (by decide) rfl (fun ls hl => ?_)
  refine lv_aload_n hx hb dX7_clearBuffer_5 rfl (lv_at hl 1 rfl) ?_
  refine lv_iconst (v := 0) hx hb dX7_clearBuffer_6 (by decide) ?_
  obtain ⟨h7, hc9, hrun⟩ := m_bind hrun
  refine mr_put (C := RX7) (T := TX7) (N := 8) (ci := 5) hx hb hts (fun w q => m_ws_in (wi_X7 w q)) tyX7 tyX7_ok nmX7 hown hR hz hS rfl 6 (by decide) (hts _ (m_ws_in wm_1_17)) (fun _ h9 => h9) rfl (tyX7_ok 6 (by decide)) rfl rfl hc9 dX7_clearBuffer_7 (fun H locs hR hz hS => ?_)
  refine lv_iload_n hx hb dX7_clearBuffer_10 rfl (lv_at hl 0 rfl) ?_
  obtain ⟨rfl, rfl⟩ := Prod.mk.inj (Option.some.inj hrun)
  exact mr_iret hx hb hr hlocks hR hz hS dX7_clearBuffer_11
/-! X6_goesOn -/
abbrev rm_X6_goesOn : Room := { frames := 0, cells := 0, slots := 0, locals := 0 }
theorem yk_X6_goesOn : m_K yX6_goesOn cX6_goesOn 3 (some .boolean) 2 := ⟨wm_1_59, wm_0_7, by decide +kernel⟩
theorem ys_X6_goesOn : Cond.instanceMethod yX6_goesOn ∈ wT ∧ Cond.selects RX6 yX6_goesOn yX6_goesOn ∈ wT := ⟨wm_1_58, wp_0_4⟩
set_option maxRecDepth 100000 in
set_option maxHeartbeats 4000000 in
theorem k_X6_goesOn_b9 {p : Program} {l : Launch} {e : Env} {s : State} {m : MethodId} {args : Array Value} {below : List Frame} {meth : Method} {c : Code} {D : va_G} {ids : m_I3} {st : m_T} {A : Nat → Prop} {z : Nat} {r : Int32} {hF : mH} (hx : p.tables.exec = Jvm.exec) (hb : c.code = cX6_goesOn) (hr : meth.sig.returnType = some .boolean) (hml : c.maxLocals = 3) (hown : s.vm.findClass RX6 = some m.cls) (hts : ∀ w ∈ (m_ws yX6_goesOn cX6_goesOn 3 (some .boolean)), w.before args s = true) (hlocks : meth.locks = false) (hin : meth.name = yX6_goesOn.name) (hE : m_EV st A s s.heap) (hA : ∀ q, s.heap.size ≤ q → A q) (h : mH) (v1 : Int32) (H : Heap) (locs : List Loc) (ls : Array Slot) (hrun : s_X6_goesOn_b9 h v1 = some (r, hF)) (hR : Rl D ids A h s H) (hz : H.size = z) (hS : va_S A s.heap H locs) (hl : lv_has ls 3 [(1, .int v1)]) : W p l e rm_X6_goesOn s m args below meth c H locs 0 0 (MQ below (mQi D ids A r hF z) args s 0 0 A) (F0 m 9 ls []) := by
  unfold s_X6_goesOn_b9 at hrun
  refine lv_iload_n hx hb dX6_goesOn_9 rfl (lv_at hl 0 rfl) ?_
  obtain ⟨w9, hzr, hrun⟩ := m_bind hrun
  obtain ⟨rfl, rfl⟩ := Prod.mk.inj (Option.some.inj hrun)
  exact mr_zret hzr hx hb hr hlocks hR hz hS dX6_goesOn_10
set_option maxRecDepth 100000 in
set_option maxHeartbeats 4000000 in
theorem c_X6_goesOn (l : Launch) (D : va_G) (ids : m_I3) (st : m_T) (z : Nat) {h : mH} {v0 : Nat} {v1 : Int32} {v2 : Int32} {r : Int32} {hF : mH} (hrun : s_X6_goesOn h v0 v1 v2 = some (r, hF)) : Met l yX6_goesOn (m_ws yX6_goesOn cX6_goesOn 3 (some .boolean)) rm_X6_goesOn (mPc D ids st [.ref v0, .int v1, .int v2] h z) (mQi D ids (m_A h z) r hF z) rm_X6_goesOn.cells rm_X6_goesOn.slots (m_A h z) := by
  refine mr_of (cc := cX6_goesOn) (maxL := 3) (ret := some .boolean) (by decide) rfl (Nat.le_of_ble_eq_true rfl) ?_
  intro p e s m below meth c ls hx hb hr hml hown hts hlocks hin hR hE hz hl
  have hA : ∀ q, s.heap.size ≤ q → m_A h z q := fun q hq => Or.inr (by rw [← hz]; exact hq)
  have hS : va_S (m_A h z) s.heap s.heap [] := va_S.rf
  have hl : lv_has ls 3 [(0, .ref v0), (1, .int v1), (2, .int v2)] := hl
  unfold s_X6_goesOn at hrun
  refine lv_iload_n hx hb dX6_goesOn_0 rfl (lv_at hl 1 rfl) ?_
  refine lv_if_eq (tgt := 9) hx hb dX6_goesOn_1 (by decide) (fun hc => ?_) (fun hc => ?_)
  · have hrun := mt_t hrun hc
    exact k_X6_goesOn_b9 hx hb hr hml hown hts hlocks hin hE hA _ _ _ _ _ hrun hR hz hS (lv_sub hl [1] rfl)
  · have hrun := mt_f hrun hc
    refine lv_aload_n hx hb dX6_goesOn_4 rfl (lv_at hl 0 rfl) ?_
    refine lv_iload_n hx hb dX6_goesOn_5 rfl (lv_at hl 2 rfl) ?_
    obtain ⟨h6, hc9, hrun⟩ := m_bind hrun
    refine mr_put (C := RX6) (T := TX6) (N := 8) (ci := 4) hx hb hts (fun w q => m_ws_in (wi_X6 w q)) tyX6 tyX6_ok nmX6 hown hR hz hS rfl 2 (by decide) (hts _ (m_ws_in wm_0_167)) (fun _ h9 => h9) rfl (tyX6_ok 2 (by decide)) rfl rfl hc9 dX6_goesOn_6 (fun H locs hR hz hS => ?_)
    exact k_X6_goesOn_b9 hx hb hr hml hown hts hlocks hin hE hA _ _ _ _ _ hrun hR hz hS (lv_sub hl [1] rfl)
/-! X6_startsNumber -/
abbrev rm_X6_startsNumber : Room := { frames := 1, cells := 0, slots := 0, locals := 22 }
theorem yk_X6_startsNumber : m_K yX6_startsNumber cX6_startsNumber 3 (some .boolean) 2 := ⟨wm_1_63, wm_0_7, by decide +kernel⟩
theorem ys_X6_startsNumber : Cond.instanceMethod yX6_startsNumber ∈ wT ∧ Cond.selects RX6 yX6_startsNumber yX6_startsNumber ∈ wT := ⟨wm_1_62, wp_0_5⟩
set_option maxRecDepth 100000 in
set_option maxHeartbeats 4000000 in
theorem c_X6_startsNumber (l : Launch) (D : va_G) (ids : m_I3) (st : m_T) (z : Nat) {h : mH} {v0 : Nat} {v1 : Int32} {v2 : Int32} {r : Int32} {hF : mH} (hrun : s_X6_startsNumber h v0 v1 v2 = some (r, hF)) : Met l yX6_startsNumber (m_ws yX6_startsNumber cX6_startsNumber 3 (some .boolean)) rm_X6_startsNumber (mPc D ids st [.ref v0, .int v1, .int v2] h z) (mQi D ids (m_A h z) r hF z) rm_X6_startsNumber.cells rm_X6_startsNumber.slots (m_A h z) := by
  refine mr_of (cc := cX6_startsNumber) (maxL := 3) (ret := some .boolean) (by decide) rfl (Nat.le_of_ble_eq_true rfl) ?_
  intro p e s m below meth c ls hx hb hr hml hown hts hlocks hin hR hE hz hl
  have hA : ∀ q, s.heap.size ≤ q → m_A h z q := fun q hq => Or.inr (by rw [← hz]; exact hq)
  have hS : va_S (m_A h z) s.heap s.heap [] := va_S.rf
  have hl : lv_has ls 3 [(0, .ref v0), (1, .int v1), (2, .int v2)] := hl
  unfold s_X6_startsNumber at hrun
  refine lv_aload_n hx hb dX6_startsNumber_0 rfl (lv_at hl 0 rfl) ?_
  refine lv_iload_n hx hb dX6_startsNumber_1 rfl (lv_at hl 1 rfl) ?_
  refine lv_bipush (v := 48) hx hb dX6_startsNumber_2 (by decide) ?_
  refine lv_isub hx hb dX6_startsNumber_4 ?_
  obtain ⟨h5, hc9, hrun⟩ := m_bind hrun
  refine mr_put (C := RX6) (T := TX6) (N := 8) (ci := 4) hx hb hts (fun w q => m_ws_in (wi_X6 w q)) tyX6 tyX6_ok nmX6 hown hR hz hS rfl 3 (by decide) (hts _ (m_ws_in wm_0_168)) (fun _ h9 => h9) rfl (tyX6_ok 3 (by decide)) rfl rfl hc9 dX6_startsNumber_5 (fun H locs hR hz hS => ?_)
  refine lv_aload_n hx hb dX6_startsNumber_8 rfl (lv_at hl 0 rfl) ?_
  refine lv_aload_n hx hb dX6_startsNumber_9 rfl (lv_at hl 0 rfl) ?_
  obtain ⟨x10, hc9, hrun⟩ := m_bind hrun
  refine mr_get (C := RX6) (T := TX6) (N := 8) (ci := 4) hx hb hts (fun w q => m_ws_in (wi_X6 w q)) hown hR rfl 3 (by decide) (hts _ (m_ws_in wm_0_168)) (fun _ h9 => h9) (m_gi_spec hc9) dX6_startsNumber_10 ?_
  refine lv_bipush (v := 10) hx hb dX6_startsNumber_13 (by decide) ?_
  obtain ⟨x15, hc9, hrun⟩ := m_bind hrun
  refine mr_calli (mr_runSN (As := [.int x10, .int 10]) (rest := [.ref v0]) hx hb hml hown hts (c_X7_isBelow l D ids st z hc9) yk_X7_isBelow ys_X7_isBelow (hE.nm (i := 1) rfl) ⟨(Nat.le_of_ble_eq_true rfl), (Nat.le_of_ble_eq_true rfl)⟩ (mr_recvS hR hE hz hS hA) hl.1 rfl (Nat.le_of_ble_eq_true rfl) dX6_startsNumber_15 ⟨(Nat.le_of_ble_eq_true rfl), (Nat.le_of_ble_eq_true rfl)⟩) hR hz hS hA (fun H locs hR hz hS => ?_)
  refine lv_iload_n hx hb dX6_startsNumber_18 rfl (lv_at hl 2 rfl) ?_
  obtain ⟨_, ho9, hrun⟩ := m_bind hrun
  obtain ⟨fs9, ho9⟩ := m_is_spec ho9
  obtain ⟨⟨x19, h19⟩, hc9, hrun⟩ := m_bind hrun
  refine mr_calli (mr_runV (As := [.int x15, .int v2]) (rest := []) hx hb hml hown hts (c_X6_goesOn l D ids st z hc9) yk_X6_goesOn ys_X6_goesOn wm_1_56 ⟨(Nat.le_of_ble_eq_true rfl), (Nat.le_of_ble_eq_true rfl)⟩ (mr_recv (ci := 4) hR hE hz hS hA rfl ho9) hl.1 rfl (Nat.le_of_ble_eq_true rfl) dX6_startsNumber_19 ⟨(Nat.le_of_ble_eq_true rfl), (Nat.le_of_ble_eq_true rfl)⟩) hR hz hS hA (fun H locs hR hz hS => ?_)
  obtain ⟨w9, hzr, hrun⟩ := m_bind hrun
  obtain ⟨rfl, rfl⟩ := Prod.mk.inj (Option.some.inj hrun)
  exact mr_zret hzr hx hb hr hlocks hR hz hS dX6_startsNumber_22
/-! X6_lengthensNumber -/
abbrev rm_X6_lengthensNumber : Room := { frames := 1, cells := 0, slots := 0, locals := 21 }
theorem yk_X6_lengthensNumber : m_K yX6_lengthensNumber cX6_lengthensNumber 4 (some .boolean) 2 := ⟨wm_1_67, wm_0_7, by decide +kernel⟩
theorem ys_X6_lengthensNumber : Cond.instanceMethod yX6_lengthensNumber ∈ wT ∧ Cond.selects RX6 yX6_lengthensNumber yX6_lengthensNumber ∈ wT := ⟨wm_1_66, wp_0_6⟩
set_option maxRecDepth 100000 in
set_option maxHeartbeats 4000000 in
theorem k_X6_lengthensNumber_b37 {p : Program} {l : Launch} {e : Env} {s : State} {m : MethodId} {args : Array Value} {below : List Frame} {meth : Method} {c : Code} {D : va_G} {ids : m_I3} {st : m_T} {A : Nat → Prop} {z : Nat} {r : Int32} {hF : mH} (hx : p.tables.exec = Jvm.exec) (hb : c.code = cX6_lengthensNumber) (hr : meth.sig.returnType = some .boolean) (hml : c.maxLocals = 4) (hown : s.vm.findClass RX6 = some m.cls) (hts : ∀ w ∈ (m_ws yX6_lengthensNumber cX6_lengthensNumber 4 (some .boolean)), w.before args s = true) (hlocks : meth.locks = false) (hin : meth.name = yX6_lengthensNumber.name) (hE : m_EV st A s s.heap) (hA : ∀ q, s.heap.size ≤ q → A q) (h : mH) (H : Heap) (locs : List Loc) (ls : Array Slot) (hrun : s_X6_lengthensNumber_b37 h = some (r, hF)) (hR : Rl D ids A h s H) (hz : H.size = z) (hS : va_S A s.heap H locs) (hl : lv_has ls 4 []) : W p l e rm_X6_lengthensNumber s m args below meth c H locs 0 0 (MQ below (mQi D ids A r hF z) args s 0 0 A) (F0 m 37 ls []) := by
  unfold s_X6_lengthensNumber_b37 at hrun
  refine lv_iconst (v := 0) hx hb dX6_lengthensNumber_37 (by decide) ?_
  obtain ⟨w9, hzr, hrun⟩ := m_bind hrun
  obtain ⟨rfl, rfl⟩ := Prod.mk.inj (Option.some.inj hrun)
  exact mr_zret hzr hx hb hr hlocks hR hz hS dX6_lengthensNumber_38
set_option maxRecDepth 100000 in
set_option maxHeartbeats 4000000 in
theorem c_X6_lengthensNumber (l : Launch) (D : va_G) (ids : m_I3) (st : m_T) (z : Nat) {h : mH} {v0 : Nat} {v1 : Int32} {v2 : Int32} {r : Int32} {hF : mH} (hrun : s_X6_lengthensNumber h v0 v1 v2 = some (r, hF)) : Met l yX6_lengthensNumber (m_ws yX6_lengthensNumber cX6_lengthensNumber 4 (some .boolean)) rm_X6_lengthensNumber (mPc D ids st [.ref v0, .int v1, .int v2] h z) (mQi D ids (m_A h z) r hF z) rm_X6_lengthensNumber.cells rm_X6_lengthensNumber.slots (m_A h z) := by
  refine mr_of (cc := cX6_lengthensNumber) (maxL := 4) (ret := some .boolean) (by decide) rfl (Nat.le_of_ble_eq_true rfl) ?_
  intro p e s m below meth c ls hx hb hr hml hown hts hlocks hin hR hE hz hl
  have hA : ∀ q, s.heap.size ≤ q → m_A h z q := fun q hq => Or.inr (by rw [← hz]; exact hq)
  have hS : va_S (m_A h z) s.heap s.heap [] := va_S.rf
  have hl : lv_has ls 4 [(0, .ref v0), (1, .int v1), (2, .int v2)] := hl
  unfold s_X6_lengthensNumber at hrun
  refine lv_iload_n hx hb dX6_lengthensNumber_0 rfl (lv_at hl 1 rfl) ?_
  refine lv_bipush (v := 48) hx hb dX6_lengthensNumber_1 (by decide) ?_
  refine lv_isub hx hb dX6_lengthensNumber_3 ?_
  refine lv_istore_n (lv' := [(3, .int (v1 - 48)), (0, .ref v0), (1, .int v1), (2, .int v2)]) hx hb dX6_lengthensNumber_4 rfl hl (by decide) rfl (fun ls hl => ?_)
  refine lv_iload_n hx hb dX6_lengthensNumber_5 rfl (lv_at hl 0 rfl) ?_
  refine lv_bipush (v := 10) hx hb dX6_lengthensNumber_6 (by decide) ?_
  obtain ⟨x8, hc9, hrun⟩ := m_bind hrun
  refine mr_calli (mr_runSN (As := [.int (v1 - 48), .int 10]) (rest := []) hx hb hml hown hts (c_X7_isBelow l D ids st z hc9) yk_X7_isBelow ys_X7_isBelow (hE.nm (i := 1) rfl) ⟨(Nat.le_of_ble_eq_true rfl), (Nat.le_of_ble_eq_true rfl)⟩ (mr_recvS hR hE hz hS hA) hl.1 rfl (Nat.le_of_ble_eq_true rfl) dX6_lengthensNumber_8 ⟨(Nat.le_of_ble_eq_true rfl), (Nat.le_of_ble_eq_true rfl)⟩) hR hz hS hA (fun H locs hR hz hS => ?_)
  refine lv_if_eq (tgt := 37) hx hb dX6_lengthensNumber_11 (by decide) (fun hc => ?_) (fun hc => ?_)
  · have hrun := mt_t hrun hc
    exact k_X6_lengthensNumber_b37 hx hb hr hml hown hts hlocks hin hE hA _ _ _ _ hrun hR hz hS (lv_sub hl [] rfl)
  · have hrun := mt_f hrun hc
    refine lv_aload_n hx hb dX6_lengthensNumber_14 rfl (lv_at hl 1 rfl) ?_
    obtain ⟨x15, hc9, hrun⟩ := m_bind hrun
    refine mr_get (C := RX6) (T := TX6) (N := 8) (ci := 4) hx hb hts (fun w q => m_ws_in (wi_X6 w q)) hown hR rfl 3 (by decide) (hts _ (m_ws_in wm_0_168)) (fun _ h9 => h9) (m_gi_spec hc9) dX6_lengthensNumber_15 ?_
    refine lv_if_eq (tgt := 37) hx hb dX6_lengthensNumber_18 (by decide) (fun hc => ?_) (fun hc => ?_)
    · have hrun := mt_t hrun hc
      exact k_X6_lengthensNumber_b37 hx hb hr hml hown hts hlocks hin hE hA _ _ _ _ hrun hR hz hS (lv_sub hl [] rfl)
    · have hrun := mt_f hrun hc
      refine lv_aload_n hx hb dX6_lengthensNumber_21 rfl (lv_at hl 1 rfl) ?_
      obtain ⟨x22, hc9, hrun⟩ := m_bind hrun
      refine mr_get (C := RX6) (T := TX6) (N := 8) (ci := 4) hx hb hts (fun w q => m_ws_in (wi_X6 w q)) hown hR rfl 3 (by decide) (hts _ (m_ws_in wm_0_168)) (fun _ h9 => h9) (m_gi_spec hc9) dX6_lengthensNumber_22 ?_
      refine lv_bipush (v := 10) hx hb dX6_lengthensNumber_25 (by decide) ?_
      refine lv_imul hx hb dX6_lengthensNumber_27 ?_
      refine lv_iload_n hx hb dX6_lengthensNumber_28 rfl (lv_at hl 0 rfl) ?_
      refine lv_iadd hx hb dX6_lengthensNumber_29 ?_
      refine lv_iload_n hx hb dX6_lengthensNumber_30 rfl (lv_at hl 3 rfl) ?_
      obtain ⟨x31, hc9, hrun⟩ := m_bind hrun
      refine mr_calli (mr_runSN (As := [.int ((x22 * 10) + (v1 - 48)), .int v2]) (rest := []) hx hb hml hown hts (c_X7_isBelow l D ids st z hc9) yk_X7_isBelow ys_X7_isBelow (hE.nm (i := 1) rfl) ⟨(Nat.le_of_ble_eq_true rfl), (Nat.le_of_ble_eq_true rfl)⟩ (mr_recvS hR hE hz hS hA) hl.1 rfl (Nat.le_of_ble_eq_true rfl) dX6_lengthensNumber_31 ⟨(Nat.le_of_ble_eq_true rfl), (Nat.le_of_ble_eq_true rfl)⟩) hR hz hS hA (fun H locs hR hz hS => ?_)
      refine lv_if_ne (tgt := 39) hx hb dX6_lengthensNumber_34 (by decide) (fun hc => ?_) (fun hc => ?_)
      · have hrun := mt_f hrun hc
        refine lv_aload_n hx hb dX6_lengthensNumber_39 rfl (lv_at hl 1 rfl) ?_
        refine lv_aload_n hx hb dX6_lengthensNumber_40 rfl (lv_at hl 1 rfl) ?_
        obtain ⟨x41, hc9, hrun⟩ := m_bind hrun
        refine mr_get (C := RX6) (T := TX6) (N := 8) (ci := 4) hx hb hts (fun w q => m_ws_in (wi_X6 w q)) hown hR rfl 3 (by decide) (hts _ (m_ws_in wm_0_168)) (fun _ h9 => h9) (m_gi_spec hc9) dX6_lengthensNumber_41 ?_
        refine lv_bipush (v := 10) hx hb dX6_lengthensNumber_44 (by decide) ?_
        refine lv_imul hx hb dX6_lengthensNumber_46 ?_
        refine lv_iload_n hx hb dX6_lengthensNumber_47 rfl (lv_at hl 0 rfl) ?_
        refine lv_iadd hx hb dX6_lengthensNumber_48 ?_
        obtain ⟨h49, hc9, hrun⟩ := m_bind hrun
        refine mr_put (C := RX6) (T := TX6) (N := 8) (ci := 4) hx hb hts (fun w q => m_ws_in (wi_X6 w q)) tyX6 tyX6_ok nmX6 hown hR hz hS rfl 3 (by decide) (hts _ (m_ws_in wm_0_168)) (fun _ h9 => h9) rfl (tyX6_ok 3 (by decide)) rfl rfl hc9 dX6_lengthensNumber_49 (fun H locs hR hz hS => ?_)
        refine lv_iconst (v := 1) hx hb dX6_lengthensNumber_52 (by decide) ?_
        obtain ⟨w9, hzr, hrun⟩ := m_bind hrun
        obtain ⟨rfl, rfl⟩ := Prod.mk.inj (Option.some.inj hrun)
        exact mr_zret hzr hx hb hr hlocks hR hz hS dX6_lengthensNumber_53
      · have hrun := mt_t hrun hc
        exact k_X6_lengthensNumber_b37 hx hb hr hml hown hts hlocks hin hE hA _ _ _ _ hrun hR hz hS (lv_sub hl [] rfl)
/-! X6_endsTap -/
abbrev rm_X6_endsTap : Room := { frames := 1, cells := 0, slots := 0, locals := 24 }
theorem yk_X6_endsTap : m_K yX6_endsTap cX6_endsTap 2 (some .boolean) 1 := ⟨wm_1_71, wm_0_7, by decide +kernel⟩
theorem ys_X6_endsTap : Cond.instanceMethod yX6_endsTap ∈ wT ∧ Cond.selects RX6 yX6_endsTap yX6_endsTap ∈ wT := ⟨wm_1_70, wp_0_7⟩
set_option maxRecDepth 100000 in
set_option maxHeartbeats 4000000 in
theorem c_X6_endsTap (l : Launch) (D : va_G) (ids : m_I3) (st : m_T) (z : Nat) {h : mH} {v0 : Nat} {v1 : Int32} {r : Int32} {hF : mH} (hrun : s_X6_endsTap h v0 v1 = some (r, hF)) : Met l yX6_endsTap (m_ws yX6_endsTap cX6_endsTap 2 (some .boolean)) rm_X6_endsTap (mPc D ids st [.ref v0, .int v1] h z) (mQi D ids (m_A h z) r hF z) rm_X6_endsTap.cells rm_X6_endsTap.slots (m_A h z) := by
  refine mr_of (cc := cX6_endsTap) (maxL := 2) (ret := some .boolean) (by decide) rfl (Nat.le_of_ble_eq_true rfl) ?_
  intro p e s m below meth c ls hx hb hr hml hown hts hlocks hin hR hE hz hl
  have hA : ∀ q, s.heap.size ≤ q → m_A h z q := fun q hq => Or.inr (by rw [← hz]; exact hq)
  have hS : va_S (m_A h z) s.heap s.heap [] := va_S.rf
  have hl : lv_has ls 2 [(0, .ref v0), (1, .int v1)] := hl
  unfold s_X6_endsTap at hrun
  refine lv_iload_n hx hb dX6_endsTap_0 rfl (lv_at hl 1 rfl) ?_
  refine lv_bipush (v := 10) hx hb dX6_endsTap_1 (by decide) ?_
  obtain ⟨x3, hc9, hrun⟩ := m_bind hrun
  refine mr_calli (mr_runSN (As := [.int v1, .int 10]) (rest := []) hx hb hml hown hts (c_X7_isBelow l D ids st z hc9) yk_X7_isBelow ys_X7_isBelow (hE.nm (i := 1) rfl) ⟨(Nat.le_of_ble_eq_true rfl), (Nat.le_of_ble_eq_true rfl)⟩ (mr_recvS hR hE hz hS hA) hl.1 rfl (Nat.le_of_ble_eq_true rfl) dX6_endsTap_3 ⟨(Nat.le_of_ble_eq_true rfl), (Nat.le_of_ble_eq_true rfl)⟩) hR hz hS hA (fun H locs hR hz hS => ?_)
  refine lv_if_ne (tgt := 11) hx hb dX6_endsTap_6 (by decide) (fun hc => ?_) (fun hc => ?_)
  · have hrun := mt_f hrun hc
    refine lv_aload_n hx hb dX6_endsTap_11 rfl (lv_at hl 0 rfl) ?_
    obtain ⟨x12, hc9, hrun⟩ := m_bind hrun
    refine mr_get (C := RX6) (T := TX6) (N := 8) (ci := 4) hx hb hts (fun w q => m_ws_in (wi_X6 w q)) hown hR rfl 0 (by decide) (hts _ (m_ws_in wm_0_163)) (fun _ h9 => h9) (m_gr_spec hc9) dX6_endsTap_12 ?_
    refine lv_aload_n hx hb dX6_endsTap_15 rfl (lv_at hl 0 rfl) ?_
    obtain ⟨x16, hc9, hrun⟩ := m_bind hrun
    refine mr_get (C := RX6) (T := TX6) (N := 8) (ci := 4) hx hb hts (fun w q => m_ws_in (wi_X6 w q)) hown hR rfl 1 (by decide) (hts _ (m_ws_in wm_0_165)) (fun _ h9 => h9) (m_gi_spec hc9) dX6_endsTap_16 ?_
    refine lv_aload_n hx hb dX6_endsTap_19 rfl (lv_at hl 0 rfl) ?_
    obtain ⟨x20, hc9, hrun⟩ := m_bind hrun
    refine mr_get (C := RX6) (T := TX6) (N := 8) (ci := 4) hx hb hts (fun w q => m_ws_in (wi_X6 w q)) hown hR rfl 4 (by decide) (hts _ (m_ws_in wm_0_169)) (fun _ h9 => h9) (m_gi_spec hc9) dX6_endsTap_20 ?_
    refine lv_aload_n hx hb dX6_endsTap_23 rfl (lv_at hl 0 rfl) ?_
    obtain ⟨x24, hc9, hrun⟩ := m_bind hrun
    refine mr_get (C := RX6) (T := TX6) (N := 8) (ci := 4) hx hb hts (fun w q => m_ws_in (wi_X6 w q)) hown hR rfl 5 (by decide) (hts _ (m_ws_in wm_0_170)) (fun _ h9 => h9) (m_gi_spec hc9) dX6_endsTap_24 ?_
    refine lv_aload_n hx hb dX6_endsTap_27 rfl (lv_at hl 0 rfl) ?_
    obtain ⟨x28, hc9, hrun⟩ := m_bind hrun
    refine mr_get (C := RX6) (T := TX6) (N := 8) (ci := 4) hx hb hts (fun w q => m_ws_in (wi_X6 w q)) hown hR rfl 6 (by decide) (hts _ (m_ws_in wm_0_171)) (fun _ h9 => h9) (m_gi_spec hc9) dX6_endsTap_28 ?_
    refine lv_iload_n hx hb dX6_endsTap_31 rfl (lv_at hl 1 rfl) ?_
    refine lv_aload_n hx hb dX6_endsTap_32 rfl (lv_at hl 0 rfl) ?_
    obtain ⟨x33, hc9, hrun⟩ := m_bind hrun
    refine mr_get (C := RX6) (T := TX6) (N := 8) (ci := 4) hx hb hts (fun w q => m_ws_in (wi_X6 w q)) hown hR rfl 7 (by decide) (hts _ (m_ws_in wm_0_172)) (fun _ h9 => h9) (m_gi_spec hc9) dX6_endsTap_33 ?_
    obtain ⟨x36, hc9, hrun⟩ := m_bind hrun
    refine mr_calli (mr_runS (As := [.int x20, .int x24, .int x28, .int v1, .int x33]) (rest := [.int x16, .ref x12]) hx hb hml hown hts (c_X4_make l D ids st z hc9) yk_X4_make ys_X4_make wm_1_72 ⟨(Nat.le_of_ble_eq_true rfl), (Nat.le_of_ble_eq_true rfl)⟩ (mr_recvS hR hE hz hS hA) hl.1 rfl (Nat.le_of_ble_eq_true rfl) dX6_endsTap_36 ⟨(Nat.le_of_ble_eq_true rfl), (Nat.le_of_ble_eq_true rfl)⟩) hR hz hS hA (fun H locs hR hz hS => ?_)
    obtain ⟨h39, hc9, hrun⟩ := m_bind hrun
    refine mr_callv (mr_runS (As := [.ref x12, .int x16, .int x36]) (rest := []) hx hb hml hown hts (c_X1_put l D ids st z hc9) yk_X1_put ys_X1_put wm_1_75 ⟨(Nat.le_of_ble_eq_true rfl), (Nat.le_of_ble_eq_true rfl)⟩ (mr_recvS hR hE hz hS hA) hl.1 rfl (Nat.le_of_ble_eq_true rfl) dX6_endsTap_39 ⟨(Nat.le_of_ble_eq_true rfl), (Nat.le_of_ble_eq_true rfl)⟩) hR hz hS hA (fun H locs hR hz hS => ?_)
    refine lv_aload_n hx hb dX6_endsTap_42 rfl (lv_at hl 0 rfl) ?_
    refine lv_dup hx hb dX6_endsTap_43 rfl ?_
    obtain ⟨x44, hc9, hrun⟩ := m_bind hrun
    refine mr_get (C := RX6) (T := TX6) (N := 8) (ci := 4) hx hb hts (fun w q => m_ws_in (wi_X6 w q)) hown hR rfl 1 (by decide) (hts _ (m_ws_in wm_0_165)) (fun _ h9 => h9) (m_gi_spec hc9) dX6_endsTap_44 ?_
    refine lv_iconst (v := 1) hx hb dX6_endsTap_47 (by decide) ?_
    refine lv_iadd hx hb dX6_endsTap_48 ?_
    obtain ⟨h49, hc9, hrun⟩ := m_bind hrun
    refine mr_put (C := RX6) (T := TX6) (N := 8) (ci := 4) hx hb hts (fun w q => m_ws_in (wi_X6 w q)) tyX6 tyX6_ok nmX6 hown hR hz hS rfl 1 (by decide) (hts _ (m_ws_in wm_0_165)) (fun _ h9 => h9) rfl (tyX6_ok 1 (by decide)) rfl rfl hc9 dX6_endsTap_49 (fun H locs hR hz hS => ?_)
    refine lv_aload_n hx hb dX6_endsTap_52 rfl (lv_at hl 0 rfl) ?_
    refine lv_bipush (v := 7) hx hb dX6_endsTap_53 (by decide) ?_
    obtain ⟨h55, hc9, hrun⟩ := m_bind hrun
    refine mr_put (C := RX6) (T := TX6) (N := 8) (ci := 4) hx hb hts (fun w q => m_ws_in (wi_X6 w q)) tyX6 tyX6_ok nmX6 hown hR hz hS rfl 2 (by decide) (hts _ (m_ws_in wm_0_167)) (fun _ h9 => h9) rfl (tyX6_ok 2 (by decide)) rfl rfl hc9 dX6_endsTap_55 (fun H locs hR hz hS => ?_)
    refine lv_iconst (v := 1) hx hb dX6_endsTap_58 (by decide) ?_
    obtain ⟨w9, hzr, hrun⟩ := m_bind hrun
    obtain ⟨rfl, rfl⟩ := Prod.mk.inj (Option.some.inj hrun)
    exact mr_zret hzr hx hb hr hlocks hR hz hS dX6_endsTap_59
  · have hrun := mt_t hrun hc
    refine lv_iconst (v := 0) hx hb dX6_endsTap_9 (by decide) ?_
    obtain ⟨w9, hzr, hrun⟩ := m_bind hrun
    obtain ⟨rfl, rfl⟩ := Prod.mk.inj (Option.some.inj hrun)
    exact mr_zret hzr hx hb hr hlocks hR hz hS dX6_endsTap_10
/-! X6_takes -/
abbrev rm_X6_takes : Room := { frames := 2, cells := 0, slots := 0, locals := 45 }
theorem yk_X6_takes : m_K yX6_takes cX6_takes 2 (some .boolean) 1 := ⟨wm_1_52, wm_0_7, by decide +kernel⟩
theorem ys_X6_takes : Cond.instanceMethod yX6_takes ∈ wT ∧ Cond.selects RX6 yX6_takes yX6_takes ∈ wT := ⟨wm_1_51, wp_0_3⟩
set_option maxRecDepth 100000 in
set_option maxHeartbeats 4000000 in
theorem k_X6_takes_b208 {p : Program} {l : Launch} {e : Env} {s : State} {m : MethodId} {args : Array Value} {below : List Frame} {meth : Method} {c : Code} {D : va_G} {ids : m_I3} {st : m_T} {A : Nat → Prop} {z : Nat} {r : Int32} {hF : mH} (hx : p.tables.exec = Jvm.exec) (hb : c.code = cX6_takes) (hr : meth.sig.returnType = some .boolean) (hml : c.maxLocals = 2) (hown : s.vm.findClass RX6 = some m.cls) (hts : ∀ w ∈ (m_ws yX6_takes cX6_takes 2 (some .boolean)), w.before args s = true) (hlocks : meth.locks = false) (hin : meth.name = yX6_takes.name) (hE : m_EV st A s s.heap) (hA : ∀ q, s.heap.size ≤ q → A q) (h : mH) (t0 : Nat) (t1 : Int32) (H : Heap) (locs : List Loc) (ls : Array Slot) (hrun : s_X6_takes_b208 h t0 t1 = some (r, hF)) (hR : Rl D ids A h s H) (hz : H.size = z) (hS : va_S A s.heap H locs) (hl : lv_has ls 2 []) : W p l e rm_X6_takes s m args below meth c H locs 0 0 (MQ below (mQi D ids A r hF z) args s 0 0 A) (F0 m 208 ls [.int t1, .ref t0]) := by
  unfold s_X6_takes_b208 at hrun
  refine lv_iconst (v := 0) hx hb dX6_takes_208 (by decide) ?_
  obtain ⟨_, ho9, hrun⟩ := m_bind hrun
  obtain ⟨fs9, ho9⟩ := m_is_spec ho9
  obtain ⟨⟨x209, h209⟩, hc9, hrun⟩ := m_bind hrun
  refine mr_calli (mr_runV (As := [.int t1, .int 0]) (rest := []) hx hb hml hown hts (c_X6_goesOn l D ids st z hc9) yk_X6_goesOn ys_X6_goesOn wm_1_56 ⟨(Nat.le_of_ble_eq_true rfl), (Nat.le_of_ble_eq_true rfl)⟩ (mr_recv (ci := 4) hR hE hz hS hA rfl ho9) hl.1 rfl (Nat.le_of_ble_eq_true rfl) dX6_takes_209 ⟨(Nat.le_of_ble_eq_true rfl), (Nat.le_of_ble_eq_true rfl)⟩) hR hz hS hA (fun H locs hR hz hS => ?_)
  obtain ⟨w9, hzr, hrun⟩ := m_bind hrun
  obtain ⟨rfl, rfl⟩ := Prod.mk.inj (Option.some.inj hrun)
  exact mr_zret hzr hx hb hr hlocks hR hz hS dX6_takes_212
set_option maxRecDepth 100000 in
set_option maxHeartbeats 4000000 in
theorem k_X6_takes_b186 {p : Program} {l : Launch} {e : Env} {s : State} {m : MethodId} {args : Array Value} {below : List Frame} {meth : Method} {c : Code} {D : va_G} {ids : m_I3} {st : m_T} {A : Nat → Prop} {z : Nat} {r : Int32} {hF : mH} (hx : p.tables.exec = Jvm.exec) (hb : c.code = cX6_takes) (hr : meth.sig.returnType = some .boolean) (hml : c.maxLocals = 2) (hown : s.vm.findClass RX6 = some m.cls) (hts : ∀ w ∈ (m_ws yX6_takes cX6_takes 2 (some .boolean)), w.before args s = true) (hlocks : meth.locks = false) (hin : meth.name = yX6_takes.name) (hE : m_EV st A s s.heap) (hA : ∀ q, s.heap.size ≤ q → A q) (h : mH) (t0 : Int32) (H : Heap) (locs : List Loc) (ls : Array Slot) (hrun : s_X6_takes_b186 h t0 = some (r, hF)) (hR : Rl D ids A h s H) (hz : H.size = z) (hS : va_S A s.heap H locs) (hl : lv_has ls 2 []) : W p l e rm_X6_takes s m args below meth c H locs 0 0 (MQ below (mQi D ids A r hF z) args s 0 0 A) (F0 m 186 ls [.int t0]) := by
  unfold s_X6_takes_b186 at hrun
  obtain ⟨w9, hzr, hrun⟩ := m_bind hrun
  obtain ⟨rfl, rfl⟩ := Prod.mk.inj (Option.some.inj hrun)
  exact mr_zret hzr hx hb hr hlocks hR hz hS dX6_takes_186
set_option maxRecDepth 100000 in
set_option maxHeartbeats 4000000 in
theorem k_X6_takes_b168 {p : Program} {l : Launch} {e : Env} {s : State} {m : MethodId} {args : Array Value} {below : List Frame} {meth : Method} {c : Code} {D : va_G} {ids : m_I3} {st : m_T} {A : Nat → Prop} {z : Nat} {r : Int32} {hF : mH} (hx : p.tables.exec = Jvm.exec) (hb : c.code = cX6_takes) (hr : meth.sig.returnType = some .boolean) (hml : c.maxLocals = 2) (hown : s.vm.findClass RX6 = some m.cls) (hts : ∀ w ∈ (m_ws yX6_takes cX6_takes 2 (some .boolean)), w.before args s = true) (hlocks : meth.locks = false) (hin : meth.name = yX6_takes.name) (hE : m_EV st A s s.heap) (hA : ∀ q, s.heap.size ≤ q → A q) (h : mH) (v0 : Nat) (H : Heap) (locs : List Loc) (ls : Array Slot) (hrun : s_X6_takes_b168 h v0 = some (r, hF)) (hR : Rl D ids A h s H) (hz : H.size = z) (hS : va_S A s.heap H locs) (hl : lv_has ls 2 [(0, .ref v0)]) : W p l e rm_X6_takes s m args below meth c H locs 0 0 (MQ below (mQi D ids A r hF z) args s 0 0 A) (F0 m 168 ls []) := by
  unfold s_X6_takes_b168 at hrun
  refine lv_aload_n hx hb dX6_takes_168 rfl (lv_at hl 0 rfl) ?_
  refine lv_iconst (v := 1) hx hb dX6_takes_169 (by decide) ?_
  refine lv_bipush (v := 6) hx hb dX6_takes_170 (by decide) ?_
  obtain ⟨_, ho9, hrun⟩ := m_bind hrun
  obtain ⟨fs9, ho9⟩ := m_is_spec ho9
  obtain ⟨⟨x172, h172⟩, hc9, hrun⟩ := m_bind hrun
  refine mr_calli (mr_runV (As := [.int 1, .int 6]) (rest := []) hx hb hml hown hts (c_X6_goesOn l D ids st z hc9) yk_X6_goesOn ys_X6_goesOn wm_1_56 ⟨(Nat.le_of_ble_eq_true rfl), (Nat.le_of_ble_eq_true rfl)⟩ (mr_recv (ci := 4) hR hE hz hS hA rfl ho9) hl.1 rfl (Nat.le_of_ble_eq_true rfl) dX6_takes_172 ⟨(Nat.le_of_ble_eq_true rfl), (Nat.le_of_ble_eq_true rfl)⟩) hR hz hS hA (fun H locs hR hz hS => ?_)
  refine lv_goto (tgt := 186) hx hb dX6_takes_175 (by decide) ?_
  exact k_X6_takes_b186 hx hb hr hml hown hts hlocks hin hE hA _ _ _ _ _ hrun hR hz hS (lv_sub hl [] rfl)
set_option maxRecDepth 100000 in
set_option maxHeartbeats 4000000 in
theorem k_X6_takes_b152 {p : Program} {l : Launch} {e : Env} {s : State} {m : MethodId} {args : Array Value} {below : List Frame} {meth : Method} {c : Code} {D : va_G} {ids : m_I3} {st : m_T} {A : Nat → Prop} {z : Nat} {r : Int32} {hF : mH} (hx : p.tables.exec = Jvm.exec) (hb : c.code = cX6_takes) (hr : meth.sig.returnType = some .boolean) (hml : c.maxLocals = 2) (hown : s.vm.findClass RX6 = some m.cls) (hts : ∀ w ∈ (m_ws yX6_takes cX6_takes 2 (some .boolean)), w.before args s = true) (hlocks : meth.locks = false) (hin : meth.name = yX6_takes.name) (hE : m_EV st A s s.heap) (hA : ∀ q, s.heap.size ≤ q → A q) (h : mH) (v0 : Nat) (v1 : Int32) (t0 : Nat) (t1 : Int32) (H : Heap) (locs : List Loc) (ls : Array Slot) (hrun : s_X6_takes_b152 h v0 v1 t0 t1 = some (r, hF)) (hR : Rl D ids A h s H) (hz : H.size = z) (hS : va_S A s.heap H locs) (hl : lv_has ls 2 [(0, .ref v0), (1, .int v1)]) : W p l e rm_X6_takes s m args below meth c H locs 0 0 (MQ below (mQi D ids A r hF z) args s 0 0 A) (F0 m 152 ls [.int t1, .ref t0]) := by
  unfold s_X6_takes_b152 at hrun
  obtain ⟨_, hz9, hrun⟩ := m_bind hrun
  obtain ⟨h152, hc9, hrun⟩ := m_bind hrun
  refine mr_put (C := RX6) (T := TX6) (N := 8) (ci := 4) hx hb hts (fun w q => m_ws_in (wi_X6 w q)) tyX6 tyX6_ok nmX6 hown hR hz hS rfl 7 (by decide) (hts _ (m_ws_in wm_0_172)) (fun _ h9 => h9) rfl (tyX6_ok 7 (by decide)) (m_z_spec hz9).2 (m_z_fit hz9) hc9 dX6_takes_152 (fun H locs hR hz hS => ?_)
  refine lv_aload_n hx hb dX6_takes_155 rfl (lv_at hl 0 rfl) ?_
  obtain ⟨x156, hc9, hrun⟩ := m_bind hrun
  refine mr_get (C := RX6) (T := TX6) (N := 8) (ci := 4) hx hb hts (fun w q => m_ws_in (wi_X6 w q)) hown hR rfl 7 (by decide) (hts _ (m_ws_in wm_0_172)) (fun _ h9 => h9) (m_gi_spec hc9) dX6_takes_156 ?_
  refine lv_if_ne (tgt := 168) hx hb dX6_takes_159 (by decide) (fun hc => ?_) (fun hc => ?_)
  · have hrun := mt_f hrun hc
    exact k_X6_takes_b168 hx hb hr hml hown hts hlocks hin hE hA _ _ _ _ _ hrun hR hz hS (lv_sub hl [0] rfl)
  · have hrun := mt_t hrun hc
    refine lv_iload_n hx hb dX6_takes_162 rfl (lv_at hl 1 rfl) ?_
    refine lv_bipush (v := 45) hx hb dX6_takes_163 (by decide) ?_
    refine lv_icmp_ne (tgt := 178) hx hb dX6_takes_165 (by decide) (fun hc => ?_) (fun hc => ?_)
    · have hrun := mt_f hrun hc
      refine lv_aload_n hx hb dX6_takes_178 rfl (lv_at hl 0 rfl) ?_
      refine lv_iload_n hx hb dX6_takes_179 rfl (lv_at hl 1 rfl) ?_
      refine lv_sipush (v := 1440) hx hb dX6_takes_180 (by decide) ?_
      obtain ⟨_, ho9, hrun⟩ := m_bind hrun
      obtain ⟨fs9, ho9⟩ := m_is_spec ho9
      obtain ⟨⟨x183, h183⟩, hc9, hrun⟩ := m_bind hrun
      refine mr_calli (mr_runV (As := [.int v1, .int 1440]) (rest := []) hx hb hml hown hts (c_X6_lengthensNumber l D ids st z hc9) yk_X6_lengthensNumber ys_X6_lengthensNumber wm_1_64 ⟨(Nat.le_of_ble_eq_true rfl), (Nat.le_of_ble_eq_true rfl)⟩ (mr_recv (ci := 4) hR hE hz hS hA rfl ho9) hl.1 rfl (Nat.le_of_ble_eq_true rfl) dX6_takes_183 ⟨(Nat.le_of_ble_eq_true rfl), (Nat.le_of_ble_eq_true rfl)⟩) hR hz hS hA (fun H locs hR hz hS => ?_)
      exact k_X6_takes_b186 hx hb hr hml hown hts hlocks hin hE hA _ _ _ _ _ hrun hR hz hS (lv_sub hl [] rfl)
    · have hrun := mt_t hrun hc
      exact k_X6_takes_b168 hx hb hr hml hown hts hlocks hin hE hA _ _ _ _ _ hrun hR hz hS (lv_sub hl [0] rfl)
set_option maxRecDepth 100000 in
set_option maxHeartbeats 4000000 in
theorem k_X6_takes_b124 {p : Program} {l : Launch} {e : Env} {s : State} {m : MethodId} {args : Array Value} {below : List Frame} {meth : Method} {c : Code} {D : va_G} {ids : m_I3} {st : m_T} {A : Nat → Prop} {z : Nat} {r : Int32} {hF : mH} (hx : p.tables.exec = Jvm.exec) (hb : c.code = cX6_takes) (hr : meth.sig.returnType = some .boolean) (hml : c.maxLocals = 2) (hown : s.vm.findClass RX6 = some m.cls) (hts : ∀ w ∈ (m_ws yX6_takes cX6_takes 2 (some .boolean)), w.before args s = true) (hlocks : meth.locks = false) (hin : meth.name = yX6_takes.name) (hE : m_EV st A s s.heap) (hA : ∀ q, s.heap.size ≤ q → A q) (h : mH) (t0 : Int32) (H : Heap) (locs : List Loc) (ls : Array Slot) (hrun : s_X6_takes_b124 h t0 = some (r, hF)) (hR : Rl D ids A h s H) (hz : H.size = z) (hS : va_S A s.heap H locs) (hl : lv_has ls 2 []) : W p l e rm_X6_takes s m args below meth c H locs 0 0 (MQ below (mQi D ids A r hF z) args s 0 0 A) (F0 m 124 ls [.int t0]) := by
  unfold s_X6_takes_b124 at hrun
  obtain ⟨w9, hzr, hrun⟩ := m_bind hrun
  obtain ⟨rfl, rfl⟩ := Prod.mk.inj (Option.some.inj hrun)
  exact mr_zret hzr hx hb hr hlocks hR hz hS dX6_takes_124
set_option maxRecDepth 100000 in
set_option maxHeartbeats 4000000 in
theorem k_X6_takes_b82 {p : Program} {l : Launch} {e : Env} {s : State} {m : MethodId} {args : Array Value} {below : List Frame} {meth : Method} {c : Code} {D : va_G} {ids : m_I3} {st : m_T} {A : Nat → Prop} {z : Nat} {r : Int32} {hF : mH} (hx : p.tables.exec = Jvm.exec) (hb : c.code = cX6_takes) (hr : meth.sig.returnType = some .boolean) (hml : c.maxLocals = 2) (hown : s.vm.findClass RX6 = some m.cls) (hts : ∀ w ∈ (m_ws yX6_takes cX6_takes 2 (some .boolean)), w.before args s = true) (hlocks : meth.locks = false) (hin : meth.name = yX6_takes.name) (hE : m_EV st A s s.heap) (hA : ∀ q, s.heap.size ≤ q → A q) (h : mH) (t0 : Nat) (t1 : Int32) (H : Heap) (locs : List Loc) (ls : Array Slot) (hrun : s_X6_takes_b82 h t0 t1 = some (r, hF)) (hR : Rl D ids A h s H) (hz : H.size = z) (hS : va_S A s.heap H locs) (hl : lv_has ls 2 []) : W p l e rm_X6_takes s m args below meth c H locs 0 0 (MQ below (mQi D ids A r hF z) args s 0 0 A) (F0 m 82 ls [.int t1, .ref t0]) := by
  unfold s_X6_takes_b82 at hrun
  refine lv_iconst (v := 2) hx hb dX6_takes_82 (by decide) ?_
  obtain ⟨_, ho9, hrun⟩ := m_bind hrun
  obtain ⟨fs9, ho9⟩ := m_is_spec ho9
  obtain ⟨⟨x83, h83⟩, hc9, hrun⟩ := m_bind hrun
  refine mr_calli (mr_runV (As := [.int t1, .int 2]) (rest := []) hx hb hml hown hts (c_X6_goesOn l D ids st z hc9) yk_X6_goesOn ys_X6_goesOn wm_1_56 ⟨(Nat.le_of_ble_eq_true rfl), (Nat.le_of_ble_eq_true rfl)⟩ (mr_recv (ci := 4) hR hE hz hS hA rfl ho9) hl.1 rfl (Nat.le_of_ble_eq_true rfl) dX6_takes_83 ⟨(Nat.le_of_ble_eq_true rfl), (Nat.le_of_ble_eq_true rfl)⟩) hR hz hS hA (fun H locs hR hz hS => ?_)
  obtain ⟨w9, hzr, hrun⟩ := m_bind hrun
  obtain ⟨rfl, rfl⟩ := Prod.mk.inj (Option.some.inj hrun)
  exact mr_zret hzr hx hb hr hlocks hR hz hS dX6_takes_86
set_option maxRecDepth 100000 in
set_option maxHeartbeats 4000000 in
theorem c_X6_takes (l : Launch) (D : va_G) (ids : m_I3) (st : m_T) (z : Nat) {h : mH} {v0 : Nat} {v1 : Int32} {r : Int32} {hF : mH} (hrun : s_X6_takes h v0 v1 = some (r, hF)) : Met l yX6_takes (m_ws yX6_takes cX6_takes 2 (some .boolean)) rm_X6_takes (mPc D ids st [.ref v0, .int v1] h z) (mQi D ids (m_A h z) r hF z) rm_X6_takes.cells rm_X6_takes.slots (m_A h z) := by
  refine mr_of (cc := cX6_takes) (maxL := 2) (ret := some .boolean) (by decide) rfl (Nat.le_of_ble_eq_true rfl) ?_
  intro p e s m below meth c ls hx hb hr hml hown hts hlocks hin hR hE hz hl
  have hA : ∀ q, s.heap.size ≤ q → m_A h z q := fun q hq => Or.inr (by rw [← hz]; exact hq)
  have hS : va_S (m_A h z) s.heap s.heap [] := va_S.rf
  have hl : lv_has ls 2 [(0, .ref v0), (1, .int v1)] := hl
  unfold s_X6_takes at hrun
  refine lv_aload_n hx hb dX6_takes_0 rfl (lv_at hl 0 rfl) ?_
  obtain ⟨x1, hc9, hrun⟩ := m_bind hrun
  refine mr_get (C := RX6) (T := TX6) (N := 8) (ci := 4) hx hb hts (fun w q => m_ws_in (wi_X6 w q)) hown hR rfl 2 (by decide) (hts _ (m_ws_in wm_0_167)) (fun _ h9 => h9) (m_gi_spec hc9) dX6_takes_1 ?_
  by_cases hc0 : x1 = 0
  · have hrun := mt_t hrun hc0
    refine lv_tableIn (tgt := 48) (off := 44) hx hb dX6_takes_4 (by rw [hc0]; decide) (by rw [hc0]; decide) (by rw [hc0]; rfl) (by decide) ?_
    refine lv_aload_n hx hb dX6_takes_48 rfl (lv_at hl 0 rfl) ?_
    refine lv_iload_n hx hb dX6_takes_49 rfl (lv_at hl 1 rfl) ?_
    refine lv_bipush (v := 48) hx hb dX6_takes_50 (by decide) ?_
    refine lv_isub hx hb dX6_takes_52 ?_
    obtain ⟨h53, hc9, hrun⟩ := m_bind hrun
    refine mr_put (C := RX6) (T := TX6) (N := 8) (ci := 4) hx hb hts (fun w q => m_ws_in (wi_X6 w q)) tyX6 tyX6_ok nmX6 hown hR hz hS rfl 4 (by decide) (hts _ (m_ws_in wm_0_169)) (fun _ h9 => h9) rfl (tyX6_ok 4 (by decide)) rfl rfl hc9 dX6_takes_53 (fun H locs hR hz hS => ?_)
    refine lv_aload_n hx hb dX6_takes_56 rfl (lv_at hl 0 rfl) ?_
    refine lv_aload_n hx hb dX6_takes_57 rfl (lv_at hl 0 rfl) ?_
    obtain ⟨x58, hc9, hrun⟩ := m_bind hrun
    refine mr_get (C := RX6) (T := TX6) (N := 8) (ci := 4) hx hb hts (fun w q => m_ws_in (wi_X6 w q)) hown hR rfl 4 (by decide) (hts _ (m_ws_in wm_0_169)) (fun _ h9 => h9) (m_gi_spec hc9) dX6_takes_58 ?_
    refine lv_iconst (v := 4) hx hb dX6_takes_61 (by decide) ?_
    obtain ⟨x62, hc9, hrun⟩ := m_bind hrun
    refine mr_calli (mr_runSN (As := [.int x58, .int 4]) (rest := [.ref v0]) hx hb hml hown hts (c_X7_isBelow l D ids st z hc9) yk_X7_isBelow ys_X7_isBelow (hE.nm (i := 1) rfl) ⟨(Nat.le_of_ble_eq_true rfl), (Nat.le_of_ble_eq_true rfl)⟩ (mr_recvS hR hE hz hS hA) hl.1 rfl (Nat.le_of_ble_eq_true rfl) dX6_takes_62 ⟨(Nat.le_of_ble_eq_true rfl), (Nat.le_of_ble_eq_true rfl)⟩) hR hz hS hA (fun H locs hR hz hS => ?_)
    refine lv_iconst (v := 1) hx hb dX6_takes_65 (by decide) ?_
    obtain ⟨_, ho9, hrun⟩ := m_bind hrun
    obtain ⟨fs9, ho9⟩ := m_is_spec ho9
    obtain ⟨⟨x66, h66⟩, hc9, hrun⟩ := m_bind hrun
    refine mr_calli (mr_runV (As := [.int x62, .int 1]) (rest := []) hx hb hml hown hts (c_X6_goesOn l D ids st z hc9) yk_X6_goesOn ys_X6_goesOn wm_1_56 ⟨(Nat.le_of_ble_eq_true rfl), (Nat.le_of_ble_eq_true rfl)⟩ (mr_recv (ci := 4) hR hE hz hS hA rfl ho9) hl.1 rfl (Nat.le_of_ble_eq_true rfl) dX6_takes_66 ⟨(Nat.le_of_ble_eq_true rfl), (Nat.le_of_ble_eq_true rfl)⟩) hR hz hS hA (fun H locs hR hz hS => ?_)
    obtain ⟨w9, hzr, hrun⟩ := m_bind hrun
    obtain ⟨rfl, rfl⟩ := Prod.mk.inj (Option.some.inj hrun)
    exact mr_zret hzr hx hb hr hlocks hR hz hS dX6_takes_69
  have hrun := mt_f hrun hc0
  have hn0 : ¬ (x1).toInt = 0 := lv_neT hc0 rfl
  by_cases hc1 : x1 = 1
  · have hrun := mt_t hrun hc1
    refine lv_tableIn (tgt := 70) (off := 66) hx hb dX6_takes_4 (by rw [hc1]; decide) (by rw [hc1]; decide) (by rw [hc1]; rfl) (by decide) ?_
    refine lv_aload_n hx hb dX6_takes_70 rfl (lv_at hl 0 rfl) ?_
    refine lv_iload_n hx hb dX6_takes_71 rfl (lv_at hl 1 rfl) ?_
    refine lv_bipush (v := 100) hx hb dX6_takes_72 (by decide) ?_
    refine lv_icmp_ne (tgt := 81) hx hb dX6_takes_74 (by decide) (fun hc => ?_) (fun hc => ?_)
    · have hrun := mt_f hrun hc
      refine lv_iconst (v := 0) hx hb dX6_takes_81 (by decide) ?_
      exact k_X6_takes_b82 hx hb hr hml hown hts hlocks hin hE hA _ _ _ _ _ _ hrun hR hz hS (lv_sub hl [] rfl)
    · have hrun := mt_t hrun hc
      refine lv_iconst (v := 1) hx hb dX6_takes_77 (by decide) ?_
      refine lv_goto (tgt := 82) hx hb dX6_takes_78 (by decide) ?_
      exact k_X6_takes_b82 hx hb hr hml hown hts hlocks hin hE hA _ _ _ _ _ _ hrun hR hz hS (lv_sub hl [] rfl)
  have hrun := mt_f hrun hc1
  have hn1 : ¬ (x1).toInt = 1 := lv_neT hc1 rfl
  by_cases hc2 : x1 = 2
  · have hrun := mt_t hrun hc2
    refine lv_tableIn (tgt := 87) (off := 83) hx hb dX6_takes_4 (by rw [hc2]; decide) (by rw [hc2]; decide) (by rw [hc2]; rfl) (by decide) ?_
    refine lv_aload_n hx hb dX6_takes_87 rfl (lv_at hl 0 rfl) ?_
    refine lv_iload_n hx hb dX6_takes_88 rfl (lv_at hl 1 rfl) ?_
    refine lv_iconst (v := 3) hx hb dX6_takes_89 (by decide) ?_
    obtain ⟨_, ho9, hrun⟩ := m_bind hrun
    obtain ⟨fs9, ho9⟩ := m_is_spec ho9
    obtain ⟨⟨x90, h90⟩, hc9, hrun⟩ := m_bind hrun
    refine mr_calli (mr_runV (As := [.int v1, .int 3]) (rest := []) hx hb hml hown hts (c_X6_startsNumber l D ids st z hc9) yk_X6_startsNumber ys_X6_startsNumber wm_1_60 ⟨(Nat.le_of_ble_eq_true rfl), (Nat.le_of_ble_eq_true rfl)⟩ (mr_recv (ci := 4) hR hE hz hS hA rfl ho9) hl.1 rfl (Nat.le_of_ble_eq_true rfl) dX6_takes_90 ⟨(Nat.le_of_ble_eq_true rfl), (Nat.le_of_ble_eq_true rfl)⟩) hR hz hS hA (fun H locs hR hz hS => ?_)
    obtain ⟨w9, hzr, hrun⟩ := m_bind hrun
    obtain ⟨rfl, rfl⟩ := Prod.mk.inj (Option.some.inj hrun)
    exact mr_zret hzr hx hb hr hlocks hR hz hS dX6_takes_93
  have hrun := mt_f hrun hc2
  have hn2 : ¬ (x1).toInt = 2 := lv_neT hc2 rfl
  by_cases hc3 : x1 = 3
  · have hrun := mt_t hrun hc3
    refine lv_tableIn (tgt := 94) (off := 90) hx hb dX6_takes_4 (by rw [hc3]; decide) (by rw [hc3]; decide) (by rw [hc3]; rfl) (by decide) ?_
    refine lv_aload_n hx hb dX6_takes_94 rfl (lv_at hl 0 rfl) ?_
    refine lv_aload_n hx hb dX6_takes_95 rfl (lv_at hl 0 rfl) ?_
    obtain ⟨x96, hc9, hrun⟩ := m_bind hrun
    refine mr_get (C := RX6) (T := TX6) (N := 8) (ci := 4) hx hb hts (fun w q => m_ws_in (wi_X6 w q)) hown hR rfl 3 (by decide) (hts _ (m_ws_in wm_0_168)) (fun _ h9 => h9) (m_gi_spec hc9) dX6_takes_96 ?_
    obtain ⟨h99, hc9, hrun⟩ := m_bind hrun
    refine mr_put (C := RX6) (T := TX6) (N := 8) (ci := 4) hx hb hts (fun w q => m_ws_in (wi_X6 w q)) tyX6 tyX6_ok nmX6 hown hR hz hS rfl 5 (by decide) (hts _ (m_ws_in wm_0_170)) (fun _ h9 => h9) rfl (tyX6_ok 5 (by decide)) rfl rfl hc9 dX6_takes_99 (fun H locs hR hz hS => ?_)
    refine lv_iload_n hx hb dX6_takes_102 rfl (lv_at hl 1 rfl) ?_
    refine lv_bipush (v := 58) hx hb dX6_takes_103 (by decide) ?_
    refine lv_icmp_ne (tgt := 117) hx hb dX6_takes_105 (by decide) (fun hc => ?_) (fun hc => ?_)
    · have hrun := mt_f hrun hc
      refine lv_aload_n hx hb dX6_takes_117 rfl (lv_at hl 0 rfl) ?_
      refine lv_iload_n hx hb dX6_takes_118 rfl (lv_at hl 1 rfl) ?_
      refine lv_bipush (v := 28) hx hb dX6_takes_119 (by decide) ?_
      obtain ⟨_, ho9, hrun⟩ := m_bind hrun
      obtain ⟨fs9, ho9⟩ := m_is_spec ho9
      obtain ⟨⟨x121, h121⟩, hc9, hrun⟩ := m_bind hrun
      refine mr_calli (mr_runV (As := [.int v1, .int 28]) (rest := []) hx hb hml hown hts (c_X6_lengthensNumber l D ids st z hc9) yk_X6_lengthensNumber ys_X6_lengthensNumber wm_1_64 ⟨(Nat.le_of_ble_eq_true rfl), (Nat.le_of_ble_eq_true rfl)⟩ (mr_recv (ci := 4) hR hE hz hS hA rfl ho9) hl.1 rfl (Nat.le_of_ble_eq_true rfl) dX6_takes_121 ⟨(Nat.le_of_ble_eq_true rfl), (Nat.le_of_ble_eq_true rfl)⟩) hR hz hS hA (fun H locs hR hz hS => ?_)
      exact k_X6_takes_b124 hx hb hr hml hown hts hlocks hin hE hA _ _ _ _ _ hrun hR hz hS (lv_sub hl [] rfl)
    · have hrun := mt_t hrun hc
      refine lv_aload_n hx hb dX6_takes_108 rfl (lv_at hl 0 rfl) ?_
      refine lv_iconst (v := 1) hx hb dX6_takes_109 (by decide) ?_
      refine lv_iconst (v := 4) hx hb dX6_takes_110 (by decide) ?_
      obtain ⟨_, ho9, hrun⟩ := m_bind hrun
      obtain ⟨fs9, ho9⟩ := m_is_spec ho9
      obtain ⟨⟨x111, h111⟩, hc9, hrun⟩ := m_bind hrun
      refine mr_calli (mr_runV (As := [.int 1, .int 4]) (rest := []) hx hb hml hown hts (c_X6_goesOn l D ids st z hc9) yk_X6_goesOn ys_X6_goesOn wm_1_56 ⟨(Nat.le_of_ble_eq_true rfl), (Nat.le_of_ble_eq_true rfl)⟩ (mr_recv (ci := 4) hR hE hz hS hA rfl ho9) hl.1 rfl (Nat.le_of_ble_eq_true rfl) dX6_takes_111 ⟨(Nat.le_of_ble_eq_true rfl), (Nat.le_of_ble_eq_true rfl)⟩) hR hz hS hA (fun H locs hR hz hS => ?_)
      refine lv_goto (tgt := 124) hx hb dX6_takes_114 (by decide) ?_
      exact k_X6_takes_b124 hx hb hr hml hown hts hlocks hin hE hA _ _ _ _ _ hrun hR hz hS (lv_sub hl [] rfl)
  have hrun := mt_f hrun hc3
  have hn3 : ¬ (x1).toInt = 3 := lv_neT hc3 rfl
  by_cases hc4 : x1 = 4
  · have hrun := mt_t hrun hc4
    refine lv_tableIn (tgt := 125) (off := 121) hx hb dX6_takes_4 (by rw [hc4]; decide) (by rw [hc4]; decide) (by rw [hc4]; rfl) (by decide) ?_
    refine lv_aload_n hx hb dX6_takes_125 rfl (lv_at hl 0 rfl) ?_
    refine lv_iload_n hx hb dX6_takes_126 rfl (lv_at hl 1 rfl) ?_
    refine lv_iconst (v := 5) hx hb dX6_takes_127 (by decide) ?_
    obtain ⟨_, ho9, hrun⟩ := m_bind hrun
    obtain ⟨fs9, ho9⟩ := m_is_spec ho9
    obtain ⟨⟨x128, h128⟩, hc9, hrun⟩ := m_bind hrun
    refine mr_calli (mr_runV (As := [.int v1, .int 5]) (rest := []) hx hb hml hown hts (c_X6_startsNumber l D ids st z hc9) yk_X6_startsNumber ys_X6_startsNumber wm_1_60 ⟨(Nat.le_of_ble_eq_true rfl), (Nat.le_of_ble_eq_true rfl)⟩ (mr_recv (ci := 4) hR hE hz hS hA rfl ho9) hl.1 rfl (Nat.le_of_ble_eq_true rfl) dX6_takes_128 ⟨(Nat.le_of_ble_eq_true rfl), (Nat.le_of_ble_eq_true rfl)⟩) hR hz hS hA (fun H locs hR hz hS => ?_)
    obtain ⟨w9, hzr, hrun⟩ := m_bind hrun
    obtain ⟨rfl, rfl⟩ := Prod.mk.inj (Option.some.inj hrun)
    exact mr_zret hzr hx hb hr hlocks hR hz hS dX6_takes_131
  have hrun := mt_f hrun hc4
  have hn4 : ¬ (x1).toInt = 4 := lv_neT hc4 rfl
  by_cases hc5 : x1 = 5
  · have hrun := mt_t hrun hc5
    refine lv_tableIn (tgt := 132) (off := 128) hx hb dX6_takes_4 (by rw [hc5]; decide) (by rw [hc5]; decide) (by rw [hc5]; rfl) (by decide) ?_
    refine lv_aload_n hx hb dX6_takes_132 rfl (lv_at hl 0 rfl) ?_
    refine lv_aload_n hx hb dX6_takes_133 rfl (lv_at hl 0 rfl) ?_
    obtain ⟨x134, hc9, hrun⟩ := m_bind hrun
    refine mr_get (C := RX6) (T := TX6) (N := 8) (ci := 4) hx hb hts (fun w q => m_ws_in (wi_X6 w q)) hown hR rfl 3 (by decide) (hts _ (m_ws_in wm_0_168)) (fun _ h9 => h9) (m_gi_spec hc9) dX6_takes_134 ?_
    obtain ⟨h137, hc9, hrun⟩ := m_bind hrun
    refine mr_put (C := RX6) (T := TX6) (N := 8) (ci := 4) hx hb hts (fun w q => m_ws_in (wi_X6 w q)) tyX6 tyX6_ok nmX6 hown hR hz hS rfl 6 (by decide) (hts _ (m_ws_in wm_0_171)) (fun _ h9 => h9) rfl (tyX6_ok 6 (by decide)) rfl rfl hc9 dX6_takes_137 (fun H locs hR hz hS => ?_)
    refine lv_aload_n hx hb dX6_takes_140 rfl (lv_at hl 0 rfl) ?_
    refine lv_iload_n hx hb dX6_takes_141 rfl (lv_at hl 1 rfl) ?_
    refine lv_bipush (v := 43) hx hb dX6_takes_142 (by decide) ?_
    refine lv_icmp_ne (tgt := 151) hx hb dX6_takes_144 (by decide) (fun hc => ?_) (fun hc => ?_)
    · have hrun := mt_f hrun hc
      refine lv_iconst (v := 0) hx hb dX6_takes_151 (by decide) ?_
      exact k_X6_takes_b152 hx hb hr hml hown hts hlocks hin hE hA _ _ _ _ _ _ _ _ hrun hR hz hS (lv_sub hl [0, 1] rfl)
    · have hrun := mt_t hrun hc
      refine lv_iconst (v := 1) hx hb dX6_takes_147 (by decide) ?_
      refine lv_goto (tgt := 152) hx hb dX6_takes_148 (by decide) ?_
      exact k_X6_takes_b152 hx hb hr hml hown hts hlocks hin hE hA _ _ _ _ _ _ _ _ hrun hR hz hS (lv_sub hl [0, 1] rfl)
  have hrun := mt_f hrun hc5
  have hn5 : ¬ (x1).toInt = 5 := lv_neT hc5 rfl
  by_cases hc6 : x1 = 6
  · have hrun := mt_t hrun hc6
    refine lv_tableIn (tgt := 187) (off := 183) hx hb dX6_takes_4 (by rw [hc6]; decide) (by rw [hc6]; decide) (by rw [hc6]; rfl) (by decide) ?_
    refine lv_aload_n hx hb dX6_takes_187 rfl (lv_at hl 0 rfl) ?_
    refine lv_iload_n hx hb dX6_takes_188 rfl (lv_at hl 1 rfl) ?_
    refine lv_bipush (v := 48) hx hb dX6_takes_189 (by decide) ?_
    refine lv_isub hx hb dX6_takes_191 ?_
    obtain ⟨_, ho9, hrun⟩ := m_bind hrun
    obtain ⟨fs9, ho9⟩ := m_is_spec ho9
    obtain ⟨⟨x192, h192⟩, hc9, hrun⟩ := m_bind hrun
    refine mr_calli (mr_runV (As := [.int (v1 - 48)]) (rest := []) hx hb hml hown hts (c_X6_endsTap l D ids st z hc9) yk_X6_endsTap ys_X6_endsTap wm_1_68 ⟨(Nat.le_of_ble_eq_true rfl), (Nat.le_of_ble_eq_true rfl)⟩ (mr_recv (ci := 4) hR hE hz hS hA rfl ho9) hl.1 rfl (Nat.le_of_ble_eq_true rfl) dX6_takes_192 ⟨(Nat.le_of_ble_eq_true rfl), (Nat.le_of_ble_eq_true rfl)⟩) hR hz hS hA (fun H locs hR hz hS => ?_)
    obtain ⟨w9, hzr, hrun⟩ := m_bind hrun
    obtain ⟨rfl, rfl⟩ := Prod.mk.inj (Option.some.inj hrun)
    exact mr_zret hzr hx hb hr hlocks hR hz hS dX6_takes_195
  have hrun := mt_f hrun hc6
  have hn6 : ¬ (x1).toInt = 6 := lv_neT hc6 rfl
  refine lv_tableOut (tgt := 196) hx hb dX6_takes_4 (by omega) (by decide) ?_
  refine lv_aload_n hx hb dX6_takes_196 rfl (lv_at hl 0 rfl) ?_
  refine lv_iload_n hx hb dX6_takes_197 rfl (lv_at hl 1 rfl) ?_
  refine lv_bipush (v := 59) hx hb dX6_takes_198 (by decide) ?_
  refine lv_icmp_ne (tgt := 207) hx hb dX6_takes_200 (by decide) (fun hc => ?_) (fun hc => ?_)
  · have hrun := mt_f hrun hc
    refine lv_iconst (v := 0) hx hb dX6_takes_207 (by decide) ?_
    exact k_X6_takes_b208 hx hb hr hml hown hts hlocks hin hE hA _ _ _ _ _ _ hrun hR hz hS (lv_sub hl [] rfl)
  · have hrun := mt_t hrun hc
    refine lv_iconst (v := 1) hx hb dX6_takes_203 (by decide) ?_
    refine lv_goto (tgt := 208) hx hb dX6_takes_204 (by decide) ?_
    exact k_X6_takes_b208 hx hb hr hml hown hts hlocks hin hE hA _ _ _ _ _ _ hrun hR hz hS (lv_sub hl [] rfl)
/-! X6_readUpTo -/
abbrev rm_X6_readUpTo : Room := { frames := 3, cells := 0, slots := 0, locals := 66 }
theorem yk_X6_readUpTo : m_K yX6_readUpTo cX6_readUpTo 4 (some .int) 2 := ⟨wm_1_47, wm_0_7, by decide +kernel⟩
theorem ys_X6_readUpTo : Cond.instanceMethod yX6_readUpTo ∈ wT ∧ Cond.selects RX6 yX6_readUpTo yX6_readUpTo ∈ wT := ⟨wm_1_45, wm_1_46⟩
set_option maxRecDepth 100000 in
set_option maxHeartbeats 4000000 in
theorem k_X6_readUpTo_L12 {p : Program} {l : Launch} {e : Env} {s : State} {m : MethodId} {args : Array Value} {below : List Frame} {meth : Method} {c : Code} {D : va_G} {ids : m_I3} {st : m_T} {A : Nat → Prop} {z : Nat} {r : Int32} {hF : mH} (hx : p.tables.exec = Jvm.exec) (hb : c.code = cX6_readUpTo) (hr : meth.sig.returnType = some .int) (hml : c.maxLocals = 4) (hown : s.vm.findClass RX6 = some m.cls) (hts : ∀ w ∈ (m_ws yX6_readUpTo cX6_readUpTo 4 (some .int)), w.before args s = true) (hlocks : meth.locks = false) (hin : meth.name = yX6_readUpTo.name) (hE : m_EV st A s s.heap) (hA : ∀ q, s.heap.size ≤ q → A q) : ∀ (n : Nat) (h : mH) (v0 : Nat) (v1 : Nat) (v2 : Int32) (v3 : Int32) (H : Heap) (locs : List Loc) (ls : Array Slot), s_X6_readUpTo_L12 n h v0 v1 v2 v3 = some (r, hF) → Rl D ids A h s H → H.size = z → va_S A s.heap H locs → lv_has ls 4 [(0, .ref v0), (1, .ref v1), (2, .int v2), (3, .int v3)] → W p l e rm_X6_readUpTo s m args below meth c H locs 0 0 (MQ below (mQi D ids A r hF z) args s 0 0 A) (F0 m 12 ls []) := by
  intro n
  induction n with
  | zero => intro h v0 v1 v2 v3 H locs ls hrun; exact absurd hrun (by intro h9; cases h9)
  | succ n ih =>
    intro h v0 v1 v2 v3 H locs ls hrun hR hz hS hl
    rw [s_X6_readUpTo_L12] at hrun
    refine lv_iload_n hx hb dX6_readUpTo_12 rfl (lv_at hl 3 rfl) ?_
    refine lv_iload_n hx hb dX6_readUpTo_13 rfl (lv_at hl 2 rfl) ?_
    refine lv_icmp_ge (tgt := 37) hx hb dX6_readUpTo_14 (by decide) (fun hc => ?_) (fun hc => ?_)
    · have hrun := mt_t hrun hc
      refine lv_iload_n hx hb dX6_readUpTo_37 rfl (lv_at hl 2 rfl) ?_
      obtain ⟨rfl, rfl⟩ := Prod.mk.inj (Option.some.inj hrun)
      exact mr_iret hx hb hr hlocks hR hz hS dX6_readUpTo_38
    · have hrun := mt_f hrun hc
      refine lv_aload_n hx hb dX6_readUpTo_17 rfl (lv_at hl 0 rfl) ?_
      refine lv_aload_n hx hb dX6_readUpTo_18 rfl (lv_at hl 1 rfl) ?_
      refine lv_iload_n hx hb dX6_readUpTo_19 rfl (lv_at hl 3 rfl) ?_
      obtain ⟨x20, hc9, hrun⟩ := m_bind hrun
      refine mr_calli (mr_runS (As := [.ref v1, .int v3]) (rest := [.ref v0]) hx hb hml hown hts (c_X1_at l D ids st z hc9) yk_X1_at ys_X1_at wm_1_48 ⟨(Nat.le_of_ble_eq_true rfl), (Nat.le_of_ble_eq_true rfl)⟩ (mr_recvS hR hE hz hS hA) hl.1 rfl (Nat.le_of_ble_eq_true rfl) dX6_readUpTo_20 ⟨(Nat.le_of_ble_eq_true rfl), (Nat.le_of_ble_eq_true rfl)⟩) hR hz hS hA (fun H locs hR hz hS => ?_)
      obtain ⟨_, ho9, hrun⟩ := m_bind hrun
      obtain ⟨fs9, ho9⟩ := m_is_spec ho9
      obtain ⟨⟨x23, h23⟩, hc9, hrun⟩ := m_bind hrun
      refine mr_calli (mr_runV (As := [.int x20]) (rest := []) hx hb hml hown hts (c_X6_takes l D ids st z hc9) yk_X6_takes ys_X6_takes wm_1_49 ⟨(Nat.le_of_ble_eq_true rfl), (Nat.le_of_ble_eq_true rfl)⟩ (mr_recv (ci := 4) hR hE hz hS hA rfl ho9) hl.1 rfl (Nat.le_of_ble_eq_true rfl) dX6_readUpTo_23 ⟨(Nat.le_of_ble_eq_true rfl), (Nat.le_of_ble_eq_true rfl)⟩) hR hz hS hA (fun H locs hR hz hS => ?_)
      refine lv_if_ne (tgt := 31) hx hb dX6_readUpTo_26 (by decide) (fun hc => ?_) (fun hc => ?_)
      · have hrun := mt_f hrun hc
        refine lv_iinc (v := v3 + 1) (lv' := [(3, .int (v3 + 1)), (0, .ref v0), (1, .ref v1), (2, .int v2)]) hx hb dX6_readUpTo_31 hl (k := 3) rfl rfl (by decide) rfl (fun ls hl => ?_)
        refine lv_goto (tgt := 12) hx hb dX6_readUpTo_34 (by decide) ?_
        exact ih _ _ _ _ _ _ _ _ hrun hR hz hS (lv_sub hl [1, 2, 3, 0] rfl)
      · have hrun := mt_t hrun hc
        refine lv_iload_n hx hb dX6_readUpTo_29 rfl (lv_at hl 3 rfl) ?_
        obtain ⟨rfl, rfl⟩ := Prod.mk.inj (Option.some.inj hrun)
        exact mr_iret hx hb hr hlocks hR hz hS dX6_readUpTo_30
set_option maxRecDepth 100000 in
set_option maxHeartbeats 4000000 in
theorem c_X6_readUpTo (l : Launch) (D : va_G) (ids : m_I3) (st : m_T) (z : Nat) {h : mH} {v0 : Nat} {v1 : Nat} {v2 : Int32} {r : Int32} {hF : mH} (hrun : s_X6_readUpTo h v0 v1 v2 = some (r, hF)) : Met l yX6_readUpTo (m_ws yX6_readUpTo cX6_readUpTo 4 (some .int)) rm_X6_readUpTo (mPc D ids st [.ref v0, .ref v1, .int v2] h z) (mQi D ids (m_A h z) r hF z) rm_X6_readUpTo.cells rm_X6_readUpTo.slots (m_A h z) := by
  refine mr_of (cc := cX6_readUpTo) (maxL := 4) (ret := some .int) (by decide) rfl (Nat.le_of_ble_eq_true rfl) ?_
  intro p e s m below meth c ls hx hb hr hml hown hts hlocks hin hR hE hz hl
  have hA : ∀ q, s.heap.size ≤ q → m_A h z q := fun q hq => Or.inr (by rw [← hz]; exact hq)
  have hS : va_S (m_A h z) s.heap s.heap [] := va_S.rf
  have hl : lv_has ls 4 [(0, .ref v0), (1, .ref v1), (2, .int v2)] := hl
  unfold s_X6_readUpTo at hrun
  refine lv_aload_n hx hb dX6_readUpTo_0 rfl (lv_at hl 0 rfl) ?_
  refine lv_iconst (v := 0) hx hb dX6_readUpTo_1 (by decide) ?_
  obtain ⟨h2, hc9, hrun⟩ := m_bind hrun
  refine mr_put (C := RX6) (T := TX6) (N := 8) (ci := 4) hx hb hts (fun w q => m_ws_in (wi_X6 w q)) tyX6 tyX6_ok nmX6 hown hR hz hS rfl 1 (by decide) (hts _ (m_ws_in wm_0_165)) (fun _ h9 => h9) rfl (tyX6_ok 1 (by decide)) rfl rfl hc9 dX6_readUpTo_2 (fun H locs hR hz hS => ?_)
  refine lv_aload_n hx hb dX6_readUpTo_5 rfl (lv_at hl 0 rfl) ?_
  refine lv_iconst (v := 0) hx hb dX6_readUpTo_6 (by decide) ?_
  obtain ⟨h7, hc9, hrun⟩ := m_bind hrun
  refine mr_put (C := RX6) (T := TX6) (N := 8) (ci := 4) hx hb hts (fun w q => m_ws_in (wi_X6 w q)) tyX6 tyX6_ok nmX6 hown hR hz hS rfl 2 (by decide) (hts _ (m_ws_in wm_0_167)) (fun _ h9 => h9) rfl (tyX6_ok 2 (by decide)) rfl rfl hc9 dX6_readUpTo_7 (fun H locs hR hz hS => ?_)
  refine lv_iconst (v := 0) hx hb dX6_readUpTo_10 (by decide) ?_
  refine lv_istore_n (lv' := [(3, .int 0), (0, .ref v0), (1, .ref v1), (2, .int v2)]) hx hb dX6_readUpTo_11 rfl hl (by decide) rfl (fun ls hl => ?_)
  exact k_X6_readUpTo_L12 hx hb hr hml hown hts hlocks hin hE hA _ _ _ _ _ _ _ _ _ hrun hR hz hS (lv_sub hl [1, 2, 3, 0] rfl)
/-! X7_firstError -/
abbrev rm_X7_firstError : Room := { frames := 4, cells := 0, slots := 0, locals := 89 }
theorem yk_X7_firstError : m_K yX7_firstError cX7_firstError 1 (some .int) 0 := ⟨wm_1_43, wm_0_1, by decide +kernel⟩
theorem ys_X7_firstError : Cond.instanceMethod yX7_firstError ∈ wT ∧ Cond.selects RX7 yX7_firstError yX7_firstError ∈ wT := ⟨wm_1_41, wm_1_42⟩
set_option maxRecDepth 100000 in
set_option maxHeartbeats 4000000 in
theorem c_X7_firstError (l : Launch) (D : va_G) (ids : m_I3) (st : m_T) (z : Nat) {h : mH} {v0 : Nat} {r : Int32} {hF : mH} (hrun : s_X7_firstError h v0 = some (r, hF)) : Met l yX7_firstError (m_ws yX7_firstError cX7_firstError 1 (some .int)) rm_X7_firstError (mPc D ids st [.ref v0] h z) (mQi D ids (m_A h z) r hF z) rm_X7_firstError.cells rm_X7_firstError.slots (m_A h z) := by
  refine mr_of (cc := cX7_firstError) (maxL := 1) (ret := some .int) (by decide) rfl (Nat.le_of_ble_eq_true rfl) ?_
  intro p e s m below meth c ls hx hb hr hml hown hts hlocks hin hR hE hz hl
  have hA : ∀ q, s.heap.size ≤ q → m_A h z q := fun q hq => Or.inr (by rw [← hz]; exact hq)
  have hS : va_S (m_A h z) s.heap s.heap [] := va_S.rf
  have hl : lv_has ls 1 [(0, .ref v0)] := hl
  unfold s_X7_firstError at hrun
  refine lv_aload_n hx hb dX7_firstError_0 rfl (lv_at hl 0 rfl) ?_
  obtain ⟨x1, hc9, hrun⟩ := m_bind hrun
  refine mr_get (C := RX7) (T := TX7) (N := 8) (ci := 5) hx hb hts (fun w q => m_ws_in (wi_X7 w q)) hown hR rfl 7 (by decide) (hts _ (m_ws_in wm_1_18)) (fun _ h9 => h9) (m_gr_spec hc9) dX7_firstError_1 ?_
  refine lv_aload_n hx hb dX7_firstError_4 rfl (lv_at hl 0 rfl) ?_
  obtain ⟨x5, hc9, hrun⟩ := m_bind hrun
  refine mr_get (C := RX7) (T := TX7) (N := 8) (ci := 5) hx hb hts (fun w q => m_ws_in (wi_X7 w q)) hown hR rfl 5 (by decide) (hts _ (m_ws_in wm_1_16)) (fun _ h9 => h9) (m_gr_spec hc9) dX7_firstError_5 ?_
  refine lv_aload_n hx hb dX7_firstError_8 rfl (lv_at hl 0 rfl) ?_
  obtain ⟨x9, hc9, hrun⟩ := m_bind hrun
  refine mr_get (C := RX7) (T := TX7) (N := 8) (ci := 5) hx hb hts (fun w q => m_ws_in (wi_X7 w q)) hown hR rfl 6 (by decide) (hts _ (m_ws_in wm_1_17)) (fun _ h9 => h9) (m_gi_spec hc9) dX7_firstError_9 ?_
  obtain ⟨_, ho9, hrun⟩ := m_bind hrun
  obtain ⟨fs9, ho9⟩ := m_is_spec ho9
  obtain ⟨⟨x12, h12⟩, hc9, hrun⟩ := m_bind hrun
  refine mr_calli (mr_runV (As := [.ref x5, .int x9]) (rest := []) hx hb hml hown hts (c_X6_readUpTo l D ids st z hc9) yk_X6_readUpTo ys_X6_readUpTo wm_1_44 ⟨(Nat.le_of_ble_eq_true rfl), (Nat.le_of_ble_eq_true rfl)⟩ (mr_recv (ci := 4) hR hE hz hS hA rfl ho9) hl.1 rfl (Nat.le_of_ble_eq_true rfl) dX7_firstError_12 ⟨(Nat.le_of_ble_eq_true rfl), (Nat.le_of_ble_eq_true rfl)⟩) hR hz hS hA (fun H locs hR hz hS => ?_)
  obtain ⟨rfl, rfl⟩ := Prod.mk.inj (Option.some.inj hrun)
  exact mr_iret hx hb hr hlocks hR hz hS dX7_firstError_15
/-! X6_isWhole -/
abbrev rm_X6_isWhole : Room := { frames := 0, cells := 0, slots := 0, locals := 0 }
theorem yk_X6_isWhole : m_K yX6_isWhole cX6_isWhole 1 (some .boolean) 0 := ⟨wm_2_202, wm_0_7, by decide +kernel⟩
theorem ys_X6_isWhole : Cond.instanceMethod yX6_isWhole ∈ wT ∧ Cond.selects RX6 yX6_isWhole yX6_isWhole ∈ wT := ⟨wm_2_200, wm_2_201⟩
set_option maxRecDepth 100000 in
set_option maxHeartbeats 4000000 in
theorem k_X6_isWhole_b14 {p : Program} {l : Launch} {e : Env} {s : State} {m : MethodId} {args : Array Value} {below : List Frame} {meth : Method} {c : Code} {D : va_G} {ids : m_I3} {st : m_T} {A : Nat → Prop} {z : Nat} {r : Int32} (hx : p.tables.exec = Jvm.exec) (hb : c.code = cX6_isWhole) (hr : meth.sig.returnType = some .boolean) (hml : c.maxLocals = 1) (hown : s.vm.findClass RX6 = some m.cls) (hts : ∀ w ∈ (m_ws yX6_isWhole cX6_isWhole 1 (some .boolean)), w.before args s = true) (hlocks : meth.locks = false) (hin : meth.name = yX6_isWhole.name) (hE : m_EV st A s s.heap) (hA : ∀ q, s.heap.size ≤ q → A q) {h : mH} (t0 : Int32) (H : Heap) (locs : List Loc) (ls : Array Slot) (hrun : s_X6_isWhole_b14 h t0 = some r) (hR : Rl D ids A h s H) (hz : H.size = z) (hS : va_S A s.heap H locs) (hl : lv_has ls 1 []) : W p l e rm_X6_isWhole s m args below meth c H locs 0 0 (MQ below (mQi D ids A r h z) args s 0 0 A) (F0 m 14 ls [.int t0]) := by
  unfold s_X6_isWhole_b14 at hrun
  obtain ⟨w9, hzr, hrun⟩ := m_bind hrun
  obtain rfl := Option.some.inj hrun
  exact mr_zret hzr hx hb hr hlocks hR hz hS dX6_isWhole_14
set_option maxRecDepth 100000 in
set_option maxHeartbeats 4000000 in
theorem c_X6_isWhole (l : Launch) (D : va_G) (ids : m_I3) (st : m_T) (z : Nat) {h : mH} {v0 : Nat} {r : Int32} (hrun : s_X6_isWhole h v0 = some r) : Met l yX6_isWhole (m_ws yX6_isWhole cX6_isWhole 1 (some .boolean)) rm_X6_isWhole (mPc D ids st [.ref v0] h z) (mQi D ids (m_A h z) r h z) rm_X6_isWhole.cells rm_X6_isWhole.slots (m_A h z) := by
  refine mr_of (cc := cX6_isWhole) (maxL := 1) (ret := some .boolean) (by decide) rfl (Nat.le_of_ble_eq_true rfl) ?_
  intro p e s m below meth c ls hx hb hr hml hown hts hlocks hin hR hE hz hl
  have hA : ∀ q, s.heap.size ≤ q → m_A h z q := fun q hq => Or.inr (by rw [← hz]; exact hq)
  have hS : va_S (m_A h z) s.heap s.heap [] := va_S.rf
  have hl : lv_has ls 1 [(0, .ref v0)] := hl
  unfold s_X6_isWhole at hrun
  refine lv_aload_n hx hb dX6_isWhole_0 rfl (lv_at hl 0 rfl) ?_
  obtain ⟨x1, hc9, hrun⟩ := m_bind hrun
  refine mr_get (C := RX6) (T := TX6) (N := 8) (ci := 4) hx hb hts (fun w q => m_ws_in (wi_X6 w q)) hown hR rfl 2 (by decide) (hts _ (m_ws_in wm_0_167)) (fun _ h9 => h9) (m_gi_spec hc9) dX6_isWhole_1 ?_
  refine lv_bipush (v := 7) hx hb dX6_isWhole_4 (by decide) ?_
  refine lv_icmp_ne (tgt := 13) hx hb dX6_isWhole_6 (by decide) (fun hc => ?_) (fun hc => ?_)
  · have hrun := mt_f hrun hc
    refine lv_iconst (v := 0) hx hb dX6_isWhole_13 (by decide) ?_
    exact k_X6_isWhole_b14 hx hb hr hml hown hts hlocks hin hE hA _ _ _ _ hrun hR hz hS (lv_sub hl [] rfl)
  · have hrun := mt_t hrun hc
    refine lv_iconst (v := 1) hx hb dX6_isWhole_9 (by decide) ?_
    refine lv_goto (tgt := 14) hx hb dX6_isWhole_10 (by decide) ?_
    exact k_X6_isWhole_b14 hx hb hr hml hown hts hlocks hin hE hA _ _ _ _ hrun hR hz hS (lv_sub hl [] rfl)
/-! X7_load -/
abbrev rm_X7_load : Room := { frames := 6, cells := 1, slots := 6, locals := 111 }
theorem yk_X7_load : m_K yX7_load cX7_load 2 (some .int) 0 := ⟨wm_2_198, wm_0_1, by decide +kernel⟩
theorem ys_X7_load : Cond.instanceMethod yX7_load ∈ wT ∧ Cond.selects RX7 yX7_load yX7_load ∈ wT := ⟨wm_2_196, wm_2_197⟩
set_option maxRecDepth 100000 in
set_option maxHeartbeats 4000000 in
theorem k_X7_load_b32 {p : Program} {l : Launch} {e : Env} {s : State} {m : MethodId} {args : Array Value} {below : List Frame} {meth : Method} {c : Code} {D : va_G} {ids : m_I3} {st : m_T} {A : Nat → Prop} {z : Nat} {r : (String ⊕ Int32)} {hF : mH} (hx : p.tables.exec = Jvm.exec) (hb : c.code = cX7_load) (hr : meth.sig.returnType = some .int) (hml : c.maxLocals = 2) (hown : s.vm.findClass RX7 = some m.cls) (hts : ∀ w ∈ (m_ws yX7_load cX7_load 2 (some .int)), w.before args s = true) (hlocks : meth.locks = false) (hin : meth.name = yX7_load.name) (hE : m_EV st A s s.heap) (hA : ∀ q, s.heap.size ≤ q → A q) (hfl : l.stackTraces = false) (hout : ∀ x ∈ c.exceptionTable.toList, ∀ q, covers x q = false) (h : mH) (H : Heap) (locs : List Loc) (ls : Array Slot) (hrun : s_X7_load_b32 h = some (r, hF)) (hR : Rl D ids A h s H) (hz : H.size = z) (hS : va_S A s.heap H locs) (hl : lv_has ls 2 []) : W p l e rm_X7_load s m args below meth c H locs 0 0 (vx_MQ below (mQxi D ids A r hF) (mXx D ids A r hF) args s 1 6 A) (F0 m 32 ls []) := by
  unfold s_X7_load_b32 at hrun
  obtain ⟨rfl, rfl⟩ := Prod.mk.inj (Option.some.inj hrun)
  exact mr_throw (text := "the buffer does not tell taps as a text") hx hb hfl hown hts hml hE yt_72 (List.mem_of_getElem? (i := 9) rfl) hR hS hl.1 dX7_load_32 dX7_load_35 dX7_load_36 dX7_load_38 dX7_load_41 hout hlocks (Nat.le_of_ble_eq_true rfl) (Nat.le_of_ble_eq_true rfl) (Nat.le_of_ble_eq_true rfl) (Nat.le_of_ble_eq_true rfl) (Nat.le_of_ble_eq_true rfl) (Nat.le_of_ble_eq_true rfl)
set_option maxRecDepth 100000 in
set_option maxHeartbeats 4000000 in
theorem k_X7_load_b109 {p : Program} {l : Launch} {e : Env} {s : State} {m : MethodId} {args : Array Value} {below : List Frame} {meth : Method} {c : Code} {D : va_G} {ids : m_I3} {st : m_T} {A : Nat → Prop} {z : Nat} {r : (String ⊕ Int32)} {hF : mH} (hx : p.tables.exec = Jvm.exec) (hb : c.code = cX7_load) (hr : meth.sig.returnType = some .int) (hml : c.maxLocals = 2) (hown : s.vm.findClass RX7 = some m.cls) (hts : ∀ w ∈ (m_ws yX7_load cX7_load 2 (some .int)), w.before args s = true) (hlocks : meth.locks = false) (hin : meth.name = yX7_load.name) (hE : m_EV st A s s.heap) (hA : ∀ q, s.heap.size ≤ q → A q) (hfl : l.stackTraces = false) (hout : ∀ x ∈ c.exceptionTable.toList, ∀ q, covers x q = false) (h : mH) (v0 : Nat) (v1 : Int32) (H : Heap) (locs : List Loc) (ls : Array Slot) (hrun : s_X7_load_b109 h v0 v1 = some (r, hF)) (hR : Rl D ids A h s H) (hz : H.size = z) (hS : va_S A s.heap H locs) (hl : lv_has ls 2 [(0, .ref v0), (1, .int v1)]) : W p l e rm_X7_load s m args below meth c H locs 0 0 (vx_MQ below (mQxi D ids A r hF) (mXx D ids A r hF) args s 1 6 A) (F0 m 109 ls []) := by
  unfold s_X7_load_b109 at hrun
  refine lv_aload_n hx hb dX7_load_109 rfl (lv_at hl 0 rfl) ?_
  obtain ⟨_, ho9, hrun⟩ := m_bind hrun
  obtain ⟨fs9, ho9⟩ := m_is_spec ho9
  obtain ⟨h110, hc9, hrun⟩ := m_bind hrun
  refine mr_callv (mr_runV (As := []) (rest := []) hx hb hml hown hts (c_X7_readRides l D ids st z hc9) yk_X7_readRides ys_X7_readRides wm_2_87 ⟨(Nat.le_of_ble_eq_true rfl), (Nat.le_of_ble_eq_true rfl)⟩ (mr_recv (ci := 5) hR hE hz hS hA rfl ho9) hl.1 rfl (Nat.le_of_ble_eq_true rfl) dX7_load_110 ⟨(Nat.le_of_ble_eq_true rfl), (Nat.le_of_ble_eq_true rfl)⟩) hR hz hS hA (fun H locs hR hz hS => ?_)
  refine lv_aload_n hx hb dX7_load_113 rfl (lv_at hl 0 rfl) ?_
  refine lv_iconst (v := 0) hx hb dX7_load_114 (by decide) ?_
  obtain ⟨h115, hc9, hrun⟩ := m_bind hrun
  refine mr_put (C := RX7) (T := TX7) (N := 8) (ci := 5) hx hb hts (fun w q => m_ws_in (wi_X7 w q)) tyX7 tyX7_ok nmX7 hown hR hz hS rfl 6 (by decide) (hts _ (m_ws_in wm_1_17)) (fun _ h9 => h9) rfl (tyX7_ok 6 (by decide)) rfl rfl hc9 dX7_load_115 (fun H locs hR hz hS => ?_)
  refine lv_iload_n hx hb dX7_load_118 rfl (lv_at hl 1 rfl) ?_
  obtain ⟨rfl, rfl⟩ := Prod.mk.inj (Option.some.inj hrun)
  exact mrx_iret hx hb hr hlocks hR hS dX7_load_119 (Nat.le_of_ble_eq_true rfl) (Nat.le_of_ble_eq_true rfl)
set_option maxRecDepth 100000 in
set_option maxHeartbeats 4000000 in
theorem k_X7_load_L55 {p : Program} {l : Launch} {e : Env} {s : State} {m : MethodId} {args : Array Value} {below : List Frame} {meth : Method} {c : Code} {D : va_G} {ids : m_I3} {st : m_T} {A : Nat → Prop} {z : Nat} {r : (String ⊕ Int32)} {hF : mH} (hx : p.tables.exec = Jvm.exec) (hb : c.code = cX7_load) (hr : meth.sig.returnType = some .int) (hml : c.maxLocals = 2) (hown : s.vm.findClass RX7 = some m.cls) (hts : ∀ w ∈ (m_ws yX7_load cX7_load 2 (some .int)), w.before args s = true) (hlocks : meth.locks = false) (hin : meth.name = yX7_load.name) (hE : m_EV st A s s.heap) (hA : ∀ q, s.heap.size ≤ q → A q) (hfl : l.stackTraces = false) (hout : ∀ x ∈ c.exceptionTable.toList, ∀ q, covers x q = false) : ∀ (n : Nat) (h : mH) (v0 : Nat) (v1 : Int32) (H : Heap) (locs : List Loc) (ls : Array Slot), s_X7_load_L55 n h v0 v1 = some (r, hF) → Rl D ids A h s H → H.size = z → va_S A s.heap H locs → lv_has ls 2 [(0, .ref v0), (1, .int v1)] → W p l e rm_X7_load s m args below meth c H locs 0 0 (vx_MQ below (mQxi D ids A r hF) (mXx D ids A r hF) args s 1 6 A) (F0 m 55 ls []) := by
  intro n
  induction n with
  | zero => intro h v0 v1 H locs ls hrun; exact absurd hrun (by intro h9; cases h9)
  | succ n ih =>
    intro h v0 v1 H locs ls hrun hR hz hS hl
    rw [s_X7_load_L55] at hrun
    refine lv_iload_n hx hb dX7_load_55 rfl (lv_at hl 1 rfl) ?_
    refine lv_aload_n hx hb dX7_load_56 rfl (lv_at hl 0 rfl) ?_
    obtain ⟨x57, hc9, hrun⟩ := m_bind hrun
    refine mr_get (C := RX7) (T := TX7) (N := 8) (ci := 5) hx hb hts (fun w q => m_ws_in (wi_X7 w q)) hown hR rfl 7 (by decide) (hts _ (m_ws_in wm_1_18)) (fun _ h9 => h9) (m_gr_spec hc9) dX7_load_57 ?_
    obtain ⟨x60, hc9, hrun⟩ := m_bind hrun
    refine mr_getN (C := RX6) (T := TX6) (N := 8) (ci := 4) hx hb hts (fun w q => m_ws_in (wi_X6 w q)) hown hR rfl 1 (by decide) (hE.nf (i := 19) rfl) (fun _ h9 => h9) (m_gi_spec hc9) dX7_load_60 ?_
    refine lv_icmp_ge (tgt := 109) hx hb dX7_load_63 (by decide) (fun hc => ?_) (fun hc => ?_)
    · have hrun := mt_t hrun hc
      exact k_X7_load_b109 hx hb hr hml hown hts hlocks hin hE hA hfl hout _ _ _ _ _ _ hrun hR hz hS (lv_sub hl [0, 1] rfl)
    · have hrun := mt_f hrun hc
      refine lv_aload_n hx hb dX7_load_66 rfl (lv_at hl 0 rfl) ?_
      obtain ⟨x67, hc9, hrun⟩ := m_bind hrun
      refine mr_get (C := RX7) (T := TX7) (N := 8) (ci := 5) hx hb hts (fun w q => m_ws_in (wi_X7 w q)) hown hR rfl 0 (by decide) (hts _ (m_ws_in wm_1_11)) (fun _ h9 => h9) (m_gr_spec hc9) dX7_load_67 ?_
      obtain ⟨x70, hc9, hrun⟩ := m_bind hrun
      refine mr_getN (C := RX3) (T := TX3) (N := 10) (ci := 2) hx hb hts (fun w q => m_ws_in (wi_X3 w q)) hown hR rfl 0 (by decide) (hE.nf (i := 3) rfl) (fun _ h9 => h9) (m_gr_spec hc9) dX7_load_70 ?_
      obtain ⟨x73, hc9, hrun⟩ := m_bind hrun
      refine mr_getN (C := RX5) (T := TX5) (N := 2) (ci := 3) hx hb hts (fun w q => m_ws_in (wi_X5 w q)) hown hR rfl 1 (by decide) (hE.nf (i := 0) rfl) (fun _ h9 => h9) (m_gi_spec hc9) dX7_load_73 ?_
      refine lv_bipush (v := 60) hx hb dX7_load_76 (by decide) ?_
      refine lv_icmp_ge (tgt := 109) hx hb dX7_load_78 (by decide) (fun hc => ?_) (fun hc => ?_)
      · have hrun := mt_t hrun hc
        exact k_X7_load_b109 hx hb hr hml hown hts hlocks hin hE hA hfl hout _ _ _ _ _ _ hrun hR hz hS (lv_sub hl [0, 1] rfl)
      · have hrun := mt_f hrun hc
        refine lv_aload_n hx hb dX7_load_81 rfl (lv_at hl 0 rfl) ?_
        obtain ⟨x82, hc9, hrun⟩ := m_bind hrun
        refine mr_get (C := RX7) (T := TX7) (N := 8) (ci := 5) hx hb hts (fun w q => m_ws_in (wi_X7 w q)) hown hR rfl 0 (by decide) (hts _ (m_ws_in wm_1_11)) (fun _ h9 => h9) (m_gr_spec hc9) dX7_load_82 ?_
        obtain ⟨x85, hc9, hrun⟩ := m_bind hrun
        refine mr_getN (C := RX3) (T := TX3) (N := 10) (ci := 2) hx hb hts (fun w q => m_ws_in (wi_X3 w q)) hown hR rfl 0 (by decide) (hE.nf (i := 3) rfl) (fun _ h9 => h9) (m_gr_spec hc9) dX7_load_85 ?_
        refine lv_aload_n hx hb dX7_load_88 rfl (lv_at hl 0 rfl) ?_
        obtain ⟨x89, hc9, hrun⟩ := m_bind hrun
        refine mr_get (C := RX7) (T := TX7) (N := 8) (ci := 5) hx hb hts (fun w q => m_ws_in (wi_X7 w q)) hown hR rfl 7 (by decide) (hts _ (m_ws_in wm_1_18)) (fun _ h9 => h9) (m_gr_spec hc9) dX7_load_89 ?_
        obtain ⟨x92, hc9, hrun⟩ := m_bind hrun
        refine mr_getN (C := RX6) (T := TX6) (N := 8) (ci := 4) hx hb hts (fun w q => m_ws_in (wi_X6 w q)) hown hR rfl 0 (by decide) (hE.nf (i := 18) rfl) (fun _ h9 => h9) (m_gr_spec hc9) dX7_load_92 ?_
        refine lv_iload_n hx hb dX7_load_95 rfl (lv_at hl 1 rfl) ?_
        obtain ⟨x96, hc9, hrun⟩ := m_bind hrun
        refine mr_calli (mr_runS (As := [.ref x92, .int v1]) (rest := [.ref x85]) hx hb hml hown hts (c_X1_at l D ids st z hc9) yk_X1_at ys_X1_at wm_1_80 ⟨(Nat.le_of_ble_eq_true rfl), (Nat.le_of_ble_eq_true rfl)⟩ (mr_recvS hR hE hz hS hA) hl.1 rfl (Nat.le_of_ble_eq_true rfl) dX7_load_96 ⟨(Nat.le_of_ble_eq_true rfl), (Nat.le_of_ble_eq_true rfl)⟩) hR hz hS hA (fun H locs hR hz hS => ?_)
        obtain ⟨_, ho9, hrun⟩ := m_bind hrun
        obtain ⟨fs9, ho9⟩ := m_is_spec ho9
        obtain ⟨⟨x99, h99⟩, hc9, hrun⟩ := m_bind hrun
        refine mr_calli (mr_runV (As := [.int x96]) (rest := []) hx hb hml hown hts (c_X5_insert l D ids st z hc9) yk_X5_insert ys_X5_insert wm_1_190 ⟨(Nat.le_of_ble_eq_true rfl), (Nat.le_of_ble_eq_true rfl)⟩ (mr_recv (ci := 3) hR hE hz hS hA rfl ho9) hl.1 rfl (Nat.le_of_ble_eq_true rfl) dX7_load_99 ⟨(Nat.le_of_ble_eq_true rfl), (Nat.le_of_ble_eq_true rfl)⟩) hR hz hS hA (fun H locs hR hz hS => ?_)
        refine lv_pop hx hb dX7_load_102 rfl ?_
        refine lv_iinc (v := v1 + 1) (lv' := [(1, .int (v1 + 1)), (0, .ref v0)]) hx hb dX7_load_103 hl (k := 1) rfl rfl (by decide) rfl (fun ls hl => ?_)
        refine lv_goto (tgt := 55) hx hb dX7_load_106 (by decide) ?_
        exact ih _ _ _ _ _ _ hrun hR hz hS (lv_sub hl [1, 0] rfl)
set_option maxRecDepth 100000 in
set_option maxHeartbeats 4000000 in
theorem c_X7_load (l : Launch) (hfl : l.stackTraces = false) (D : va_G) (ids : m_I3) (st : m_T) (z : Nat) {h : mH} {v0 : Nat} {r : (String ⊕ Int32)} {hF : mH} (hrun : s_X7_load h v0 = some (r, hF)) : vx_Met l yX7_load (m_ws yX7_load cX7_load 2 (some .int)) rm_X7_load (mPc D ids st [.ref v0] h z) (mQxi D ids (m_A h z) r hF) (mXx D ids (m_A h z) r hF) rm_X7_load.cells rm_X7_load.slots (m_A h z) := by
  refine mrx_of (cc := cX7_load) (maxL := 2) (ret := some .int) (by decide) rfl (Nat.le_of_ble_eq_true rfl) ?_
  intro p e s m below meth c ls hx hb hr hml hown hts hlocks hin hout hR hE hz hl
  have hA : ∀ q, s.heap.size ≤ q → m_A h z q := fun q hq => Or.inr (by rw [← hz]; exact hq)
  have hS : va_S (m_A h z) s.heap s.heap [] := va_S.rf
  have hl : lv_has ls 2 [(0, .ref v0)] := hl
  unfold s_X7_load at hrun
  refine lv_aload_n hx hb dX7_load_0 rfl (lv_at hl 0 rfl) ?_
  obtain ⟨x1, hc9, hrun⟩ := m_bind hrun
  refine mr_get (C := RX7) (T := TX7) (N := 8) (ci := 5) hx hb hts (fun w q => m_ws_in (wi_X7 w q)) hown hR rfl 7 (by decide) (hts _ (m_ws_in wm_1_18)) (fun _ h9 => h9) (m_gr_spec hc9) dX7_load_1 ?_
  refine lv_aload_n hx hb dX7_load_4 rfl (lv_at hl 0 rfl) ?_
  obtain ⟨x5, hc9, hrun⟩ := m_bind hrun
  refine mr_get (C := RX7) (T := TX7) (N := 8) (ci := 5) hx hb hts (fun w q => m_ws_in (wi_X7 w q)) hown hR rfl 5 (by decide) (hts _ (m_ws_in wm_1_16)) (fun _ h9 => h9) (m_gr_spec hc9) dX7_load_5 ?_
  refine lv_aload_n hx hb dX7_load_8 rfl (lv_at hl 0 rfl) ?_
  obtain ⟨x9, hc9, hrun⟩ := m_bind hrun
  refine mr_get (C := RX7) (T := TX7) (N := 8) (ci := 5) hx hb hts (fun w q => m_ws_in (wi_X7 w q)) hown hR rfl 6 (by decide) (hts _ (m_ws_in wm_1_17)) (fun _ h9 => h9) (m_gi_spec hc9) dX7_load_9 ?_
  obtain ⟨_, ho9, hrun⟩ := m_bind hrun
  obtain ⟨fs9, ho9⟩ := m_is_spec ho9
  obtain ⟨⟨x12, h12⟩, hc9, hrun⟩ := m_bind hrun
  refine mr_calli (mr_runV (As := [.ref x5, .int x9]) (rest := []) hx hb hml hown hts (c_X6_readUpTo l D ids st z hc9) yk_X6_readUpTo ys_X6_readUpTo wm_1_44 ⟨(Nat.le_of_ble_eq_true rfl), (Nat.le_of_ble_eq_true rfl)⟩ (mr_recv (ci := 4) hR hE hz hS hA rfl ho9) hl.1 rfl (Nat.le_of_ble_eq_true rfl) dX7_load_12 ⟨(Nat.le_of_ble_eq_true rfl), (Nat.le_of_ble_eq_true rfl)⟩) hR hz hS hA (fun H locs hR hz hS => ?_)
  refine lv_aload_n hx hb dX7_load_15 rfl (lv_at hl 0 rfl) ?_
  obtain ⟨x16, hc9, hrun⟩ := m_bind hrun
  refine mr_get (C := RX7) (T := TX7) (N := 8) (ci := 5) hx hb hts (fun w q => m_ws_in (wi_X7 w q)) hown hR rfl 6 (by decide) (hts _ (m_ws_in wm_1_17)) (fun _ h9 => h9) (m_gi_spec hc9) dX7_load_16 ?_
  refine lv_icmp_lt (tgt := 32) hx hb dX7_load_19 (by decide) (fun hc => ?_) (fun hc => ?_)
  · have hrun := mt_t hrun hc
    exact k_X7_load_b32 hx hb hr hml hown hts hlocks hin hE hA hfl hout _ _ _ _ hrun hR hz hS (lv_sub hl [] rfl)
  · have hrun := mt_f hrun hc
    refine lv_aload_n hx hb dX7_load_22 rfl (lv_at hl 0 rfl) ?_
    obtain ⟨x23, hc9, hrun⟩ := m_bind hrun
    refine mr_get (C := RX7) (T := TX7) (N := 8) (ci := 5) hx hb hts (fun w q => m_ws_in (wi_X7 w q)) hown hR rfl 7 (by decide) (hts _ (m_ws_in wm_1_18)) (fun _ h9 => h9) (m_gr_spec hc9) dX7_load_23 ?_
    obtain ⟨_, ho9, hrun⟩ := m_bind hrun
    obtain ⟨fs9, ho9⟩ := m_is_spec ho9
    obtain ⟨x26, hc9, hrun⟩ := m_bind hrun
    refine mr_calli (mr_runV (As := []) (rest := []) hx hb hml hown hts (c_X6_isWhole l D ids st z hc9) yk_X6_isWhole ys_X6_isWhole wm_2_199 ⟨(Nat.le_of_ble_eq_true rfl), (Nat.le_of_ble_eq_true rfl)⟩ (mr_recv (ci := 4) hR hE hz hS hA rfl ho9) hl.1 rfl (Nat.le_of_ble_eq_true rfl) dX7_load_26 ⟨(Nat.le_of_ble_eq_true rfl), (Nat.le_of_ble_eq_true rfl)⟩) hR hz hS hA (fun H locs hR hz hS => ?_)
    refine lv_if_ne (tgt := 42) hx hb dX7_load_29 (by decide) (fun hc => ?_) (fun hc => ?_)
    · have hrun := mt_f hrun hc
      refine lv_aload_n hx hb dX7_load_42 rfl (lv_at hl 0 rfl) ?_
      obtain ⟨x43, hc9, hrun⟩ := m_bind hrun
      refine mr_get (C := RX7) (T := TX7) (N := 8) (ci := 5) hx hb hts (fun w q => m_ws_in (wi_X7 w q)) hown hR rfl 2 (by decide) (hts _ (m_ws_in wm_1_13)) (fun _ h9 => h9) (m_gr_spec hc9) dX7_load_43 ?_
      refine lv_aload_n hx hb dX7_load_46 rfl (lv_at hl 0 rfl) ?_
      obtain ⟨x47, hc9, hrun⟩ := m_bind hrun
      refine mr_get (C := RX7) (T := TX7) (N := 8) (ci := 5) hx hb hts (fun w q => m_ws_in (wi_X7 w q)) hown hR rfl 0 (by decide) (hts _ (m_ws_in wm_1_11)) (fun _ h9 => h9) (m_gr_spec hc9) dX7_load_47 ?_
      obtain ⟨_, ho9, hrun⟩ := m_bind hrun
      obtain ⟨fs9, ho9⟩ := m_is_spec ho9
      obtain ⟨h50, hc9, hrun⟩ := m_bind hrun
      refine mr_callv (mr_runV (As := [.ref x47]) (rest := []) hx hb hml hown hts (c_X2_push l D ids st z hc9) yk_X2_push ys_X2_push wm_2_73 ⟨(Nat.le_of_ble_eq_true rfl), (Nat.le_of_ble_eq_true rfl)⟩ (mr_recv (ci := 1) hR hE hz hS hA rfl ho9) hl.1 rfl (Nat.le_of_ble_eq_true rfl) dX7_load_50 ⟨(Nat.le_of_ble_eq_true rfl), (Nat.le_of_ble_eq_true rfl)⟩) hR hz hS hA (fun H locs hR hz hS => ?_)
      refine lv_iconst (v := 0) hx hb dX7_load_53 (by decide) ?_
      refine lv_istore_n (lv' := [(1, .int 0), (0, .ref v0)]) hx hb dX7_load_54 rfl hl (by decide) rfl (fun ls hl => ?_)
      exact k_X7_load_L55 hx hb hr hml hown hts hlocks hin hE hA hfl hout _ _ _ _ _ _ _ hrun hR hz hS (lv_sub hl [1, 0] rfl)
    · have hrun := mt_t hrun hc
      exact k_X7_load_b32 hx hb hr hml hown hts hlocks hin hE hA hfl hout _ _ _ _ hrun hR hz hS (lv_sub hl [] rfl)
/-! L_load -/
abbrev rm_L_load : Room := { frames := 7, cells := 1, slots := 6, locals := 132 }
theorem yk_L_load : m_KH yL_load cL_load 3 (some .int) [(0, 8, 11, 13)] 2 := ⟨wm_2_194, wm_0_0, by decide +kernel⟩
theorem ys_L_load : Cond.static yL_load ∈ wT := wm_2_193
set_option maxRecDepth 100000 in
set_option maxHeartbeats 4000000 in
theorem c_L_load (l : Launch) (hfl : l.stackTraces = false) (D : va_G) (ids : m_I3) (st : m_T) (z : Nat) {h : mH} {v0 : Nat} {v1 : Nat} {r : Int32} {hF : mH} (hrun : s_L_load h v0 v1 = some (r, hF)) : Met l yL_load (m_wsH yL_load cL_load 3 (some .int) [(0, 8, 11, 13)]) rm_L_load (mPc D ids st [.ref v0, .ref v1] h z) (mQwi D ids (m_A h z) r hF) rm_L_load.cells rm_L_load.slots (m_A h z) := by
  refine mr_ofH (cc := cL_load) (maxL := 3) (ret := some .int) (hh := [(0, 8, 11, 13)]) (by decide) rfl (Nat.le_of_ble_eq_true rfl) ?_
  intro p e s m below meth c ls hx hb hr hml hown hts hlocks hin htab hR hE hz hl
  have hA : ∀ q, s.heap.size ≤ q → m_A h z q := fun q hq => Or.inr (by rw [← hz]; exact hq)
  have hS : va_S (m_A h z) s.heap s.heap [] := va_S.rf
  have hl : lv_has ls 3 [(0, .ref v0), (1, .ref v1)] := hl
  unfold s_L_load at hrun
  refine lv_aload_n hx hb dL_load_0 rfl (lv_at hl 1 rfl) ?_
  refine lv_iconst (v := 0) hx hb dL_load_1 (by decide) ?_
  refine lv_aload_n hx hb dL_load_2 rfl (lv_at hl 0 rfl) ?_
  obtain ⟨_, ho9, hrun⟩ := m_bind hrun
  obtain ⟨fs9, ho9⟩ := m_is_spec ho9
  obtain ⟨⟨r3, h3⟩, hc9, hrun⟩ := m_bind hrun
  refine mrx_calli (mrx_runV (As := []) (rest := [.int 0, .ref v1]) hx hb hml hown hts (c_X7_load l hfl D ids st z hc9) yk_X7_load ys_X7_load wm_2_195 ⟨(Nat.le_of_ble_eq_true rfl), (Nat.le_of_ble_eq_true rfl)⟩ (mr_recv (ci := 5) hR hE hz hS hA rfl ho9) hl.1 rfl (Nat.le_of_ble_eq_true rfl) dL_load_3 ⟨(Nat.le_of_ble_eq_true rfl), (Nat.le_of_ble_eq_true rfl)⟩) hR hz hS hA (fun E9 ce9 q9 H locs hr9 hR hS hce hcv hcl => ?_) (fun x3 H locs hr9 hR hS => ?_)
  · subst hr9
    obtain ⟨z, hz⟩ : ∃ z, H.size = z := ⟨_, rfl⟩
    by_cases hc0 : E9 = "java/lang/IllegalArgumentException"
    · have hrun := mt_t hrun hc0
      rw [hc0] at hcl
      refine mr_catch0 hown htab (by decide) (by decide) (hts _ (List.mem_cons_of_mem _ wm_1_216)) hE.2.2.2.2.2.2.2 (List.mem_of_getElem? (i := 0) rfl) hce hcv hcl ?_
      refine lv_astore_n (lv' := [(2, .ref q9), (0, .ref v0), (1, .ref v1)]) hx hb dL_load_11 rfl hl (by decide) rfl (fun ls hl => ?_)
      refine lv_iconst (v := 1) hx hb dL_load_12 (by decide) ?_
      obtain ⟨rfl, rfl⟩ := Prod.mk.inj (Option.some.inj hrun)
      exact mrw_iret hx hb hr hlocks hR hS dL_load_13 (Nat.le_of_ble_eq_true rfl) (Nat.le_of_ble_eq_true rfl)
    have hrun := mt_f hrun hc0
    exact absurd hrun (fun h9 => nomatch h9)
  · subst hr9
    obtain ⟨z, hz⟩ : ∃ z, H.size = z := ⟨_, rfl⟩
    refine lv_i2l (v := x3.toInt64) hx hb dL_load_6 rfl ?_
    obtain ⟨h7, hc9, hrun⟩ := m_bind hrun
    refine mr_last hx hb hR hz hS hc9 dL_load_7 (fun H locs hR hz hS => ?_)
    refine lv_goto (tgt := 14) hx hb dL_load_8 (by decide) ?_
    refine lv_iconst (v := 0) hx hb dL_load_14 (by decide) ?_
    obtain ⟨rfl, rfl⟩ := Prod.mk.inj (Option.some.inj hrun)
    exact mrw_iret hx hb hr hlocks hR hS dL_load_15 (Nat.le_of_ble_eq_true rfl) (Nat.le_of_ble_eq_true rfl)
/-! X2_popInto -/
abbrev rm_X2_popInto : Room := { frames := 3, cells := 0, slots := 0, locals := 64 }
theorem yk_X2_popInto : m_K yX2_popInto cX2_popInto 3 (none) 1 := ⟨wm_2_215, wm_0_6, by decide +kernel⟩
theorem ys_X2_popInto : Cond.instanceMethod yX2_popInto ∈ wT ∧ Cond.selects RX2 yX2_popInto yX2_popInto ∈ wT := ⟨wm_2_213, wm_2_214⟩
set_option maxRecDepth 100000 in
set_option maxHeartbeats 4000000 in
theorem k_X2_popInto_b49 {p : Program} {l : Launch} {e : Env} {s : State} {m : MethodId} {args : Array Value} {below : List Frame} {meth : Method} {c : Code} {D : va_G} {ids : m_I3} {st : m_T} {A : Nat → Prop} {z : Nat} {hF : mH} (hx : p.tables.exec = Jvm.exec) (hb : c.code = cX2_popInto) (hr : meth.sig.returnType = none) (hml : c.maxLocals = 3) (hown : s.vm.findClass RX2 = some m.cls) (hts : ∀ w ∈ (m_ws yX2_popInto cX2_popInto 3 (none)), w.before args s = true) (hlocks : meth.locks = false) (hin : meth.name = yX2_popInto.name) (hE : m_EV st A s s.heap) (hA : ∀ q, s.heap.size ≤ q → A q) (h : mH) (H : Heap) (locs : List Loc) (ls : Array Slot) (hrun : s_X2_popInto_b49 h = some hF) (hR : Rl D ids A h s H) (hz : H.size = z) (hS : va_S A s.heap H locs) (hl : lv_has ls 3 []) : W p l e rm_X2_popInto s m args below meth c H locs 0 0 (MQ below (mQv D ids A hF z) args s 0 0 A) (F0 m 49 ls []) := by
  unfold s_X2_popInto_b49 at hrun
  obtain rfl := Option.some.inj hrun
  exact mr_vret hx hb hr hlocks hR hz hS dX2_popInto_49
set_option maxRecDepth 100000 in
set_option maxHeartbeats 4000000 in
theorem k_X2_popInto_b18 {p : Program} {l : Launch} {e : Env} {s : State} {m : MethodId} {args : Array Value} {below : List Frame} {meth : Method} {c : Code} {D : va_G} {ids : m_I3} {st : m_T} {A : Nat → Prop} {z : Nat} {hF : mH} (hx : p.tables.exec = Jvm.exec) (hb : c.code = cX2_popInto) (hr : meth.sig.returnType = none) (hml : c.maxLocals = 3) (hown : s.vm.findClass RX2 = some m.cls) (hts : ∀ w ∈ (m_ws yX2_popInto cX2_popInto 3 (none)), w.before args s = true) (hlocks : meth.locks = false) (hin : meth.name = yX2_popInto.name) (hE : m_EV st A s s.heap) (hA : ∀ q, s.heap.size ≤ q → A q) (h : mH) (v0 : Nat) (v1 : Nat) (t0 : Nat) (t1 : Int32) (H : Heap) (locs : List Loc) (ls : Array Slot) (hrun : s_X2_popInto_b18 h v0 v1 t0 t1 = some hF) (hR : Rl D ids A h s H) (hz : H.size = z) (hS : va_S A s.heap H locs) (hl : lv_has ls 3 [(0, .ref v0), (1, .ref v1)]) : W p l e rm_X2_popInto s m args below meth c H locs 0 0 (MQ below (mQv D ids A hF z) args s 0 0 A) (F0 m 18 ls [.int t1, .ref t0]) := by
  unfold s_X2_popInto_b18 at hrun
  obtain ⟨h18, hc9, hrun⟩ := m_bind hrun
  refine mr_put (C := RX2) (T := TX2) (N := 3) (ci := 1) hx hb hts (fun w q => m_ws_in (wi_X2 w q)) tyX2 tyX2_ok nmX2 hown hR hz hS rfl 1 (by decide) (hts _ (m_ws_in wm_0_145)) (fun _ h9 => h9) rfl (tyX2_ok 1 (by decide)) rfl rfl hc9 dX2_popInto_18 (fun H locs hR hz hS => ?_)
  refine lv_aload_n hx hb dX2_popInto_21 rfl (lv_at hl 0 rfl) ?_
  refine lv_dup hx hb dX2_popInto_22 rfl ?_
  obtain ⟨x23, hc9, hrun⟩ := m_bind hrun
  refine mr_get (C := RX2) (T := TX2) (N := 3) (ci := 1) hx hb hts (fun w q => m_ws_in (wi_X2 w q)) hown hR rfl 2 (by decide) (hts _ (m_ws_in wm_0_146)) (fun _ h9 => h9) (m_gi_spec hc9) dX2_popInto_23 ?_
  refine lv_iconst (v := 1) hx hb dX2_popInto_26 (by decide) ?_
  refine lv_isub hx hb dX2_popInto_27 ?_
  obtain ⟨h28, hc9, hrun⟩ := m_bind hrun
  refine mr_put (C := RX2) (T := TX2) (N := 3) (ci := 1) hx hb hts (fun w q => m_ws_in (wi_X2 w q)) tyX2 tyX2_ok nmX2 hown hR hz hS rfl 2 (by decide) (hts _ (m_ws_in wm_0_146)) (fun _ h9 => h9) rfl (tyX2_ok 2 (by decide)) rfl rfl hc9 dX2_popInto_28 (fun H locs hR hz hS => ?_)
  refine lv_aload_n hx hb dX2_popInto_31 rfl (lv_at hl 0 rfl) ?_
  refine lv_aload_n hx hb dX2_popInto_32 rfl (lv_at hl 0 rfl) ?_
  obtain ⟨x33, hc9, hrun⟩ := m_bind hrun
  refine mr_get (C := RX2) (T := TX2) (N := 3) (ci := 1) hx hb hts (fun w q => m_ws_in (wi_X2 w q)) hown hR rfl 1 (by decide) (hts _ (m_ws_in wm_0_145)) (fun _ h9 => h9) (m_gi_spec hc9) dX2_popInto_33 ?_
  obtain ⟨_, ho9, hrun⟩ := m_bind hrun
  obtain ⟨fs9, ho9⟩ := m_is_spec ho9
  obtain ⟨x36, hc9, hrun⟩ := m_bind hrun
  refine mr_callq (mr_runV (As := [.int x33]) (rest := []) hx hb hml hown hts (c_X2_slot l D ids st z hc9) yk_X2_slot ys_X2_slot wm_2_77 ⟨(Nat.le_of_ble_eq_true rfl), (Nat.le_of_ble_eq_true rfl)⟩ (mr_recv (ci := 1) hR hE hz hS hA rfl ho9) hl.1 rfl (Nat.le_of_ble_eq_true rfl) dX2_popInto_36 ⟨(Nat.le_of_ble_eq_true rfl), (Nat.le_of_ble_eq_true rfl)⟩) hR hz hS hA (fun H locs hR hz hS => ?_)
  cases x36 with
  | none =>
    refine lv_astore_nN (lv' := [(2, .null), (0, .ref v0), (1, .ref v1)]) hx hb dX2_popInto_39 rfl hl (by decide) rfl (fun ls hl => ?_)
    refine lv_aload_nN hx hb dX2_popInto_40 rfl (lv_at hl 0 rfl) ?_
    refine lv_ifnullN (tgt := 49) hx hb dX2_popInto_41 (by decide) ?_
    exact k_X2_popInto_b49 hx hb hr hml hown hts hlocks hin hE hA _ _ _ _ hrun hR hz hS (lv_sub hl [] rfl)
  | some a36 =>
    refine lv_astore_n (lv' := [(2, .ref a36), (0, .ref v0), (1, .ref v1)]) hx hb dX2_popInto_39 rfl hl (by decide) rfl (fun ls hl => ?_)
    refine lv_aload_n hx hb dX2_popInto_40 rfl (lv_at hl 0 rfl) ?_
    refine lv_ifnull hx hb dX2_popInto_41 ?_
    refine lv_aload_n hx hb dX2_popInto_44 rfl (lv_at hl 2 rfl) ?_
    refine lv_aload_n hx hb dX2_popInto_45 rfl (lv_at hl 0 rfl) ?_
    obtain ⟨_, ho9, hrun⟩ := m_bind hrun
    obtain ⟨fs9, ho9⟩ := m_is_spec ho9
    obtain ⟨h46, hc9, hrun⟩ := m_bind hrun
    refine mr_callv (mr_runV (As := [.ref a36]) (rest := []) hx hb hml hown hts (c_X3_copyFrom l D ids st z hc9) yk_X3_copyFrom ys_X3_copyFrom wm_2_81 ⟨(Nat.le_of_ble_eq_true rfl), (Nat.le_of_ble_eq_true rfl)⟩ (mr_recv (ci := 2) hR hE hz hS hA rfl ho9) hl.1 rfl (Nat.le_of_ble_eq_true rfl) dX2_popInto_46 ⟨(Nat.le_of_ble_eq_true rfl), (Nat.le_of_ble_eq_true rfl)⟩) hR hz hS hA (fun H locs hR hz hS => ?_)
    exact k_X2_popInto_b49 hx hb hr hml hown hts hlocks hin hE hA _ _ _ _ hrun hR hz hS (lv_sub hl [] rfl)
set_option maxRecDepth 100000 in
set_option maxHeartbeats 4000000 in
theorem c_X2_popInto (l : Launch) (D : va_G) (ids : m_I3) (st : m_T) (z : Nat) {h : mH} {v0 : Nat} {v1 : Nat} {hF : mH} (hrun : s_X2_popInto h v0 v1 = some hF) : Met l yX2_popInto (m_ws yX2_popInto cX2_popInto 3 (none)) rm_X2_popInto (mPc D ids st [.ref v0, .ref v1] h z) (mQv D ids (m_A h z) hF z) rm_X2_popInto.cells rm_X2_popInto.slots (m_A h z) := by
  refine mr_of (cc := cX2_popInto) (maxL := 3) (ret := none) (by decide) rfl (Nat.le_of_ble_eq_true rfl) ?_
  intro p e s m below meth c ls hx hb hr hml hown hts hlocks hin hR hE hz hl
  have hA : ∀ q, s.heap.size ≤ q → m_A h z q := fun q hq => Or.inr (by rw [← hz]; exact hq)
  have hS : va_S (m_A h z) s.heap s.heap [] := va_S.rf
  have hl : lv_has ls 3 [(0, .ref v0), (1, .ref v1)] := hl
  unfold s_X2_popInto at hrun
  refine lv_aload_n hx hb dX2_popInto_0 rfl (lv_at hl 0 rfl) ?_
  refine lv_aload_n hx hb dX2_popInto_1 rfl (lv_at hl 0 rfl) ?_
  obtain ⟨x2, hc9, hrun⟩ := m_bind hrun
  refine mr_get (C := RX2) (T := TX2) (N := 3) (ci := 1) hx hb hts (fun w q => m_ws_in (wi_X2 w q)) hown hR rfl 1 (by decide) (hts _ (m_ws_in wm_0_145)) (fun _ h9 => h9) (m_gi_spec hc9) dX2_popInto_2 ?_
  refine lv_if_le (tgt := 17) hx hb dX2_popInto_5 (by decide) (fun hc => ?_) (fun hc => ?_)
  · have hrun := mt_t hrun hc
    refine lv_iconst (v := 5) hx hb dX2_popInto_17 (by decide) ?_
    exact k_X2_popInto_b18 hx hb hr hml hown hts hlocks hin hE hA _ _ _ _ _ _ _ _ hrun hR hz hS (lv_sub hl [0, 1] rfl)
  · have hrun := mt_f hrun hc
    refine lv_aload_n hx hb dX2_popInto_8 rfl (lv_at hl 0 rfl) ?_
    obtain ⟨x9, hc9, hrun⟩ := m_bind hrun
    refine mr_get (C := RX2) (T := TX2) (N := 3) (ci := 1) hx hb hts (fun w q => m_ws_in (wi_X2 w q)) hown hR rfl 1 (by decide) (hts _ (m_ws_in wm_0_145)) (fun _ h9 => h9) (m_gi_spec hc9) dX2_popInto_9 ?_
    refine lv_iconst (v := 1) hx hb dX2_popInto_12 (by decide) ?_
    refine lv_isub hx hb dX2_popInto_13 ?_
    refine lv_goto (tgt := 18) hx hb dX2_popInto_14 (by decide) ?_
    exact k_X2_popInto_b18 hx hb hr hml hown hts hlocks hin hE hA _ _ _ _ _ _ _ _ hrun hR hz hS (lv_sub hl [0, 1] rfl)
/-! X7_undo -/
abbrev rm_X7_undo : Room := { frames := 6, cells := 1, slots := 6, locals := 111 }
theorem yk_X7_undo : m_K yX7_undo cX7_undo 1 (some .int) 0 := ⟨wm_2_210, wm_0_1, by decide +kernel⟩
theorem ys_X7_undo : Cond.instanceMethod yX7_undo ∈ wT ∧ Cond.selects RX7 yX7_undo yX7_undo ∈ wT := ⟨wm_2_208, wm_2_209⟩
set_option maxRecDepth 100000 in
set_option maxHeartbeats 4000000 in
theorem c_X7_undo (l : Launch) (hfl : l.stackTraces = false) (D : va_G) (ids : m_I3) (st : m_T) (z : Nat) {h : mH} {v0 : Nat} {r : (String ⊕ Int32)} {hF : mH} (hrun : s_X7_undo h v0 = some (r, hF)) : vx_Met l yX7_undo (m_ws yX7_undo cX7_undo 1 (some .int)) rm_X7_undo (mPc D ids st [.ref v0] h z) (mQxi D ids (m_A h z) r hF) (mXx D ids (m_A h z) r hF) rm_X7_undo.cells rm_X7_undo.slots (m_A h z) := by
  refine mrx_of (cc := cX7_undo) (maxL := 1) (ret := some .int) (by decide) rfl (Nat.le_of_ble_eq_true rfl) ?_
  intro p e s m below meth c ls hx hb hr hml hown hts hlocks hin hout hR hE hz hl
  have hA : ∀ q, s.heap.size ≤ q → m_A h z q := fun q hq => Or.inr (by rw [← hz]; exact hq)
  have hS : va_S (m_A h z) s.heap s.heap [] := va_S.rf
  have hl : lv_has ls 1 [(0, .ref v0)] := hl
  unfold s_X7_undo at hrun
  refine lv_aload_n hx hb dX7_undo_0 rfl (lv_at hl 0 rfl) ?_
  obtain ⟨x1, hc9, hrun⟩ := m_bind hrun
  refine mr_get (C := RX7) (T := TX7) (N := 8) (ci := 5) hx hb hts (fun w q => m_ws_in (wi_X7 w q)) hown hR rfl 2 (by decide) (hts _ (m_ws_in wm_1_13)) (fun _ h9 => h9) (m_gr_spec hc9) dX7_undo_1 ?_
  obtain ⟨x4, hc9, hrun⟩ := m_bind hrun
  refine mr_getN (C := RX2) (T := TX2) (N := 3) (ci := 1) hx hb hts (fun w q => m_ws_in (wi_X2 w q)) hown hR rfl 2 (by decide) (hE.nf (i := 17) rfl) (fun _ h9 => h9) (m_gi_spec hc9) dX7_undo_4 ?_
  refine lv_if_gt (tgt := 20) hx hb dX7_undo_7 (by decide) (fun hc => ?_) (fun hc => ?_)
  · have hrun := mt_t hrun hc
    refine lv_aload_n hx hb dX7_undo_20 rfl (lv_at hl 0 rfl) ?_
    obtain ⟨x21, hc9, hrun⟩ := m_bind hrun
    refine mr_get (C := RX7) (T := TX7) (N := 8) (ci := 5) hx hb hts (fun w q => m_ws_in (wi_X7 w q)) hown hR rfl 2 (by decide) (hts _ (m_ws_in wm_1_13)) (fun _ h9 => h9) (m_gr_spec hc9) dX7_undo_21 ?_
    refine lv_aload_n hx hb dX7_undo_24 rfl (lv_at hl 0 rfl) ?_
    obtain ⟨x25, hc9, hrun⟩ := m_bind hrun
    refine mr_get (C := RX7) (T := TX7) (N := 8) (ci := 5) hx hb hts (fun w q => m_ws_in (wi_X7 w q)) hown hR rfl 0 (by decide) (hts _ (m_ws_in wm_1_11)) (fun _ h9 => h9) (m_gr_spec hc9) dX7_undo_25 ?_
    obtain ⟨_, ho9, hrun⟩ := m_bind hrun
    obtain ⟨fs9, ho9⟩ := m_is_spec ho9
    obtain ⟨h28, hc9, hrun⟩ := m_bind hrun
    refine mr_callv (mr_runV (As := [.ref x25]) (rest := []) hx hb hml hown hts (c_X2_popInto l D ids st z hc9) yk_X2_popInto ys_X2_popInto wm_2_212 ⟨(Nat.le_of_ble_eq_true rfl), (Nat.le_of_ble_eq_true rfl)⟩ (mr_recv (ci := 1) hR hE hz hS hA rfl ho9) hl.1 rfl (Nat.le_of_ble_eq_true rfl) dX7_undo_28 ⟨(Nat.le_of_ble_eq_true rfl), (Nat.le_of_ble_eq_true rfl)⟩) hR hz hS hA (fun H locs hR hz hS => ?_)
    refine lv_aload_n hx hb dX7_undo_31 rfl (lv_at hl 0 rfl) ?_
    obtain ⟨_, ho9, hrun⟩ := m_bind hrun
    obtain ⟨fs9, ho9⟩ := m_is_spec ho9
    obtain ⟨h32, hc9, hrun⟩ := m_bind hrun
    refine mr_callv (mr_runV (As := []) (rest := []) hx hb hml hown hts (c_X7_readRides l D ids st z hc9) yk_X7_readRides ys_X7_readRides wm_2_87 ⟨(Nat.le_of_ble_eq_true rfl), (Nat.le_of_ble_eq_true rfl)⟩ (mr_recv (ci := 5) hR hE hz hS hA rfl ho9) hl.1 rfl (Nat.le_of_ble_eq_true rfl) dX7_undo_32 ⟨(Nat.le_of_ble_eq_true rfl), (Nat.le_of_ble_eq_true rfl)⟩) hR hz hS hA (fun H locs hR hz hS => ?_)
    refine lv_aload_n hx hb dX7_undo_35 rfl (lv_at hl 0 rfl) ?_
    obtain ⟨x36, hc9, hrun⟩ := m_bind hrun
    refine mr_get (C := RX7) (T := TX7) (N := 8) (ci := 5) hx hb hts (fun w q => m_ws_in (wi_X7 w q)) hown hR rfl 2 (by decide) (hts _ (m_ws_in wm_1_13)) (fun _ h9 => h9) (m_gr_spec hc9) dX7_undo_36 ?_
    obtain ⟨x39, hc9, hrun⟩ := m_bind hrun
    refine mr_getN (C := RX2) (T := TX2) (N := 3) (ci := 1) hx hb hts (fun w q => m_ws_in (wi_X2 w q)) hown hR rfl 2 (by decide) (hE.nf (i := 17) rfl) (fun _ h9 => h9) (m_gi_spec hc9) dX7_undo_39 ?_
    obtain ⟨rfl, rfl⟩ := Prod.mk.inj (Option.some.inj hrun)
    exact mrx_iret hx hb hr hlocks hR hS dX7_undo_42 (Nat.le_of_ble_eq_true rfl) (Nat.le_of_ble_eq_true rfl)
  · have hrun := mt_f hrun hc
    obtain ⟨rfl, rfl⟩ := Prod.mk.inj (Option.some.inj hrun)
    exact mr_throw (text := "there is no saved state") hx hb hfl hown hts hml hE yt_82 (List.mem_of_getElem? (i := 10) rfl) hR hS hl.1 dX7_undo_10 dX7_undo_13 dX7_undo_14 dX7_undo_16 dX7_undo_19 hout hlocks (Nat.le_of_ble_eq_true rfl) (Nat.le_of_ble_eq_true rfl) (Nat.le_of_ble_eq_true rfl) (Nat.le_of_ble_eq_true rfl) (Nat.le_of_ble_eq_true rfl) (Nat.le_of_ble_eq_true rfl)
/-! L_undo -/
abbrev rm_L_undo : Room := { frames := 7, cells := 1, slots := 6, locals := 131 }
theorem yk_L_undo : m_KH yL_undo cL_undo 3 (some .int) [(0, 8, 11, 15)] 2 := ⟨wm_2_206, wm_0_0, by decide +kernel⟩
theorem ys_L_undo : Cond.static yL_undo ∈ wT := wm_2_205
set_option maxRecDepth 100000 in
set_option maxHeartbeats 4000000 in
theorem c_L_undo (l : Launch) (hfl : l.stackTraces = false) (D : va_G) (ids : m_I3) (st : m_T) (z : Nat) {h : mH} {v0 : Nat} {v1 : Nat} {r : Int32} {hF : mH} (hrun : s_L_undo h v0 v1 = some (r, hF)) : Met l yL_undo (m_wsH yL_undo cL_undo 3 (some .int) [(0, 8, 11, 15)]) rm_L_undo (mPc D ids st [.ref v0, .ref v1] h z) (mQwi D ids (m_A h z) r hF) rm_L_undo.cells rm_L_undo.slots (m_A h z) := by
  refine mr_ofH (cc := cL_undo) (maxL := 3) (ret := some .int) (hh := [(0, 8, 11, 15)]) (by decide) rfl (Nat.le_of_ble_eq_true rfl) ?_
  intro p e s m below meth c ls hx hb hr hml hown hts hlocks hin htab hR hE hz hl
  have hA : ∀ q, s.heap.size ≤ q → m_A h z q := fun q hq => Or.inr (by rw [← hz]; exact hq)
  have hS : va_S (m_A h z) s.heap s.heap [] := va_S.rf
  have hl : lv_has ls 3 [(0, .ref v0), (1, .ref v1)] := hl
  unfold s_L_undo at hrun
  refine lv_aload_n hx hb dL_undo_0 rfl (lv_at hl 1 rfl) ?_
  refine lv_iconst (v := 0) hx hb dL_undo_1 (by decide) ?_
  refine lv_aload_n hx hb dL_undo_2 rfl (lv_at hl 0 rfl) ?_
  obtain ⟨_, ho9, hrun⟩ := m_bind hrun
  obtain ⟨fs9, ho9⟩ := m_is_spec ho9
  obtain ⟨⟨r3, h3⟩, hc9, hrun⟩ := m_bind hrun
  refine mrx_calli (mrx_runV (As := []) (rest := [.int 0, .ref v1]) hx hb hml hown hts (c_X7_undo l hfl D ids st z hc9) yk_X7_undo ys_X7_undo wm_2_207 ⟨(Nat.le_of_ble_eq_true rfl), (Nat.le_of_ble_eq_true rfl)⟩ (mr_recv (ci := 5) hR hE hz hS hA rfl ho9) hl.1 rfl (Nat.le_of_ble_eq_true rfl) dL_undo_3 ⟨(Nat.le_of_ble_eq_true rfl), (Nat.le_of_ble_eq_true rfl)⟩) hR hz hS hA (fun E9 ce9 q9 H locs hr9 hR hS hce hcv hcl => ?_) (fun x3 H locs hr9 hR hS => ?_)
  · subst hr9
    obtain ⟨z, hz⟩ : ∃ z, H.size = z := ⟨_, rfl⟩
    by_cases hc0 : E9 = "java/lang/IllegalStateException"
    · have hrun := mt_t hrun hc0
      rw [hc0] at hcl
      refine mr_catch0 hown htab (by decide) (by decide) (hts _ (List.mem_cons_of_mem _ wm_1_217)) hE.2.2.2.2.2.2.2 (List.mem_of_getElem? (i := 1) rfl) hce hcv hcl ?_
      refine lv_astore_n (lv' := [(2, .ref q9), (0, .ref v0), (1, .ref v1)]) hx hb dL_undo_11 rfl hl (by decide) rfl (fun ls hl => ?_)
      refine lv_iconst (v := 1) hx hb dL_undo_12 (by decide) ?_
      obtain ⟨rfl, rfl⟩ := Prod.mk.inj (Option.some.inj hrun)
      exact mrw_iret hx hb hr hlocks hR hS dL_undo_13 (Nat.le_of_ble_eq_true rfl) (Nat.le_of_ble_eq_true rfl)
    have hrun := mt_f hrun hc0
    exact absurd hrun (fun h9 => nomatch h9)
  · subst hr9
    obtain ⟨z, hz⟩ : ∃ z, H.size = z := ⟨_, rfl⟩
    refine lv_i2l (v := x3.toInt64) hx hb dL_undo_6 rfl ?_
    obtain ⟨h7, hc9, hrun⟩ := m_bind hrun
    refine mr_last hx hb hR hz hS hc9 dL_undo_7 (fun H locs hR hz hS => ?_)
    refine lv_goto (tgt := 14) hx hb dL_undo_8 (by decide) ?_
    refine lv_iconst (v := 0) hx hb dL_undo_14 (by decide) ?_
    obtain ⟨rfl, rfl⟩ := Prod.mk.inj (Option.some.inj hrun)
    exact mrw_iret hx hb hr hlocks hR hS dL_undo_15 (Nat.le_of_ble_eq_true rfl) (Nat.le_of_ble_eq_true rfl)
/-! X7_tapOf -/
abbrev rm_X7_tapOf : Room := { frames := 6, cells := 1, slots := 6, locals := 90 }
theorem yk_X7_tapOf : m_K yX7_tapOf cX7_tapOf 3 (some .int) 2 := ⟨wm_2_222, wm_0_1, by decide +kernel⟩
theorem ys_X7_tapOf : Cond.instanceMethod yX7_tapOf ∈ wT ∧ Cond.selects RX7 yX7_tapOf yX7_tapOf ∈ wT := ⟨wm_2_220, wm_2_221⟩
set_option maxRecDepth 100000 in
set_option maxHeartbeats 4000000 in
theorem c_X7_tapOf (l : Launch) (hfl : l.stackTraces = false) (D : va_G) (ids : m_I3) (st : m_T) (z : Nat) {h : mH} {v0 : Nat} {v1 : Int32} {v2 : Int32} {r : (String ⊕ Int32)} {hF : mH} (hrun : s_X7_tapOf h v0 v1 v2 = some (r, hF)) : vx_Met l yX7_tapOf (m_ws yX7_tapOf cX7_tapOf 3 (some .int)) rm_X7_tapOf (mPc D ids st [.ref v0, .int v1, .int v2] h z) (mQxi D ids (m_A h z) r hF) (mXx D ids (m_A h z) r hF) rm_X7_tapOf.cells rm_X7_tapOf.slots (m_A h z) := by
  refine mrx_of (cc := cX7_tapOf) (maxL := 3) (ret := some .int) (by decide) rfl (Nat.le_of_ble_eq_true rfl) ?_
  intro p e s m below meth c ls hx hb hr hml hown hts hlocks hin hout hR hE hz hl
  have hA : ∀ q, s.heap.size ≤ q → m_A h z q := fun q hq => Or.inr (by rw [← hz]; exact hq)
  have hS : va_S (m_A h z) s.heap s.heap [] := va_S.rf
  have hl : lv_has ls 3 [(0, .ref v0), (1, .int v1), (2, .int v2)] := hl
  unfold s_X7_tapOf at hrun
  refine lv_aload_n hx hb dX7_tapOf_0 rfl (lv_at hl 0 rfl) ?_
  refine lv_iload_n hx hb dX7_tapOf_1 rfl (lv_at hl 1 rfl) ?_
  obtain ⟨_, ho9, hrun⟩ := m_bind hrun
  obtain ⟨fs9, ho9⟩ := m_is_spec ho9
  obtain ⟨x2, hc9, hrun⟩ := m_bind hrun
  refine mr_calli (mr_runV (As := [.int v1]) (rest := []) hx hb hml hown hts (c_X7_isPlace l D ids st z hc9) yk_X7_isPlace ys_X7_isPlace wm_2_99 ⟨(Nat.le_of_ble_eq_true rfl), (Nat.le_of_ble_eq_true rfl)⟩ (mr_recv (ci := 5) hR hE hz hS hA rfl ho9) hl.1 rfl (Nat.le_of_ble_eq_true rfl) dX7_tapOf_2 ⟨(Nat.le_of_ble_eq_true rfl), (Nat.le_of_ble_eq_true rfl)⟩) hR hz hS hA (fun H locs hR hz hS => ?_)
  refine lv_if_ne (tgt := 18) hx hb dX7_tapOf_5 (by decide) (fun hc => ?_) (fun hc => ?_)
  · have hrun := mt_f hrun hc
    refine lv_iload_n hx hb dX7_tapOf_18 rfl (lv_at hl 2 rfl) ?_
    refine lv_bipush (v := 8) hx hb dX7_tapOf_19 (by decide) ?_
    obtain ⟨x21, hc9, hrun⟩ := m_bind hrun
    refine mr_calli (mr_runS (As := [.int v2, .int 8]) (rest := []) hx hb hml hown hts (c_X7_isBelow l D ids st z hc9) yk_X7_isBelow ys_X7_isBelow wm_1_225 ⟨(Nat.le_of_ble_eq_true rfl), (Nat.le_of_ble_eq_true rfl)⟩ (mr_recvS hR hE hz hS hA) hl.1 rfl (Nat.le_of_ble_eq_true rfl) dX7_tapOf_21 ⟨(Nat.le_of_ble_eq_true rfl), (Nat.le_of_ble_eq_true rfl)⟩) hR hz hS hA (fun H locs hR hz hS => ?_)
    refine lv_if_ne (tgt := 37) hx hb dX7_tapOf_24 (by decide) (fun hc => ?_) (fun hc => ?_)
    · have hrun := mt_f hrun hc
      refine lv_aload_n hx hb dX7_tapOf_37 rfl (lv_at hl 0 rfl) ?_
      refine lv_iload_n hx hb dX7_tapOf_38 rfl (lv_at hl 1 rfl) ?_
      refine lv_iload_n hx hb dX7_tapOf_39 rfl (lv_at hl 2 rfl) ?_
      obtain ⟨_, ho9, hrun⟩ := m_bind hrun
      obtain ⟨fs9, ho9⟩ := m_is_spec ho9
      obtain ⟨x40, hc9, hrun⟩ := m_bind hrun
      refine mr_calli (mr_runV (As := [.int v1, .int v2]) (rest := []) hx hb hml hown hts (c_X7_tapProperty l D ids st z hc9) yk_X7_tapProperty ys_X7_tapProperty wm_1_138 ⟨(Nat.le_of_ble_eq_true rfl), (Nat.le_of_ble_eq_true rfl)⟩ (mr_recv (ci := 5) hR hE hz hS hA rfl ho9) hl.1 rfl (Nat.le_of_ble_eq_true rfl) dX7_tapOf_40 ⟨(Nat.le_of_ble_eq_true rfl), (Nat.le_of_ble_eq_true rfl)⟩) hR hz hS hA (fun H locs hR hz hS => ?_)
      obtain ⟨rfl, rfl⟩ := Prod.mk.inj (Option.some.inj hrun)
      exact mrx_iret hx hb hr hlocks hR hS dX7_tapOf_43 (Nat.le_of_ble_eq_true rfl) (Nat.le_of_ble_eq_true rfl)
    · have hrun := mt_t hrun hc
      obtain ⟨rfl, rfl⟩ := Prod.mk.inj (Option.some.inj hrun)
      exact mr_throw (text := "what is not 0 to 7") hx hb hfl hown hts hml hE yt_72 (List.mem_of_getElem? (i := 11) rfl) hR hS hl.1 dX7_tapOf_27 dX7_tapOf_30 dX7_tapOf_31 dX7_tapOf_33 dX7_tapOf_36 hout hlocks (Nat.le_of_ble_eq_true rfl) (Nat.le_of_ble_eq_true rfl) (Nat.le_of_ble_eq_true rfl) (Nat.le_of_ble_eq_true rfl) (Nat.le_of_ble_eq_true rfl) (Nat.le_of_ble_eq_true rfl)
  · have hrun := mt_t hrun hc
    obtain ⟨rfl, rfl⟩ := Prod.mk.inj (Option.some.inj hrun)
    exact mr_throw (text := "there is no such tap") hx hb hfl hown hts hml hE yt_108 (List.mem_of_getElem? (i := 2) rfl) hR hS hl.1 dX7_tapOf_8 dX7_tapOf_11 dX7_tapOf_12 dX7_tapOf_14 dX7_tapOf_17 hout hlocks (Nat.le_of_ble_eq_true rfl) (Nat.le_of_ble_eq_true rfl) (Nat.le_of_ble_eq_true rfl) (Nat.le_of_ble_eq_true rfl) (Nat.le_of_ble_eq_true rfl) (Nat.le_of_ble_eq_true rfl)
/-! L_tapOf -/
abbrev rm_L_tapOf : Room := { frames := 7, cells := 1, slots := 6, locals := 112 }
theorem yk_L_tapOf : m_KH yL_tapOf cL_tapOf 5 (some .int) [(0, 10, 13, 21), (0, 10, 17, 13)] 4 := ⟨wm_2_218, wm_0_0, by decide +kernel⟩
theorem ys_L_tapOf : Cond.static yL_tapOf ∈ wT := wm_2_217
set_option maxRecDepth 100000 in
set_option maxHeartbeats 4000000 in
theorem c_L_tapOf (l : Launch) (hfl : l.stackTraces = false) (D : va_G) (ids : m_I3) (st : m_T) (z : Nat) {h : mH} {v0 : Nat} {v1 : Int32} {v2 : Int32} {v3 : Nat} {r : Int32} {hF : mH} (hrun : s_L_tapOf h v0 v1 v2 v3 = some (r, hF)) : Met l yL_tapOf (m_wsH yL_tapOf cL_tapOf 5 (some .int) [(0, 10, 13, 21), (0, 10, 17, 13)]) rm_L_tapOf (mPc D ids st [.ref v0, .int v1, .int v2, .ref v3] h z) (mQwi D ids (m_A h z) r hF) rm_L_tapOf.cells rm_L_tapOf.slots (m_A h z) := by
  refine mr_ofH (cc := cL_tapOf) (maxL := 5) (ret := some .int) (hh := [(0, 10, 13, 21), (0, 10, 17, 13)]) (by decide) rfl (Nat.le_of_ble_eq_true rfl) ?_
  intro p e s m below meth c ls hx hb hr hml hown hts hlocks hin htab hR hE hz hl
  have hA : ∀ q, s.heap.size ≤ q → m_A h z q := fun q hq => Or.inr (by rw [← hz]; exact hq)
  have hS : va_S (m_A h z) s.heap s.heap [] := va_S.rf
  have hl : lv_has ls 5 [(0, .ref v0), (1, .int v1), (2, .int v2), (3, .ref v3)] := hl
  unfold s_L_tapOf at hrun
  refine lv_aload_n hx hb dL_tapOf_0 rfl (lv_at hl 3 rfl) ?_
  refine lv_iconst (v := 0) hx hb dL_tapOf_1 (by decide) ?_
  refine lv_aload_n hx hb dL_tapOf_2 rfl (lv_at hl 0 rfl) ?_
  refine lv_iload_n hx hb dL_tapOf_3 rfl (lv_at hl 1 rfl) ?_
  refine lv_iload_n hx hb dL_tapOf_4 rfl (lv_at hl 2 rfl) ?_
  obtain ⟨_, ho9, hrun⟩ := m_bind hrun
  obtain ⟨fs9, ho9⟩ := m_is_spec ho9
  obtain ⟨⟨r5, h5⟩, hc9, hrun⟩ := m_bind hrun
  refine mrx_calli (mrx_runV (As := [.int v1, .int v2]) (rest := [.int 0, .ref v3]) hx hb hml hown hts (c_X7_tapOf l hfl D ids st z hc9) yk_X7_tapOf ys_X7_tapOf wm_2_219 ⟨(Nat.le_of_ble_eq_true rfl), (Nat.le_of_ble_eq_true rfl)⟩ (mr_recv (ci := 5) hR hE hz hS hA rfl ho9) hl.1 rfl (Nat.le_of_ble_eq_true rfl) dL_tapOf_5 ⟨(Nat.le_of_ble_eq_true rfl), (Nat.le_of_ble_eq_true rfl)⟩) hR hz hS hA (fun E9 ce9 q9 H locs hr9 hR hS hce hcv hcl => ?_) (fun x5 H locs hr9 hR hS => ?_)
  · subst hr9
    obtain ⟨z, hz⟩ : ∃ z, H.size = z := ⟨_, rfl⟩
    by_cases hc0 : E9 = "java/lang/IndexOutOfBoundsException"
    · have hrun := mt_t hrun hc0
      rw [hc0] at hcl
      refine mr_catch0 hown htab (by decide) (by decide) (hts _ (List.mem_cons_of_mem _ wm_2_94)) hE.2.2.2.2.2.2.2 (List.mem_of_getElem? (i := 2) rfl) hce hcv hcl ?_
      refine lv_astore (lv' := [(4, .ref q9), (0, .ref v0), (1, .int v1), (2, .int v2), (3, .ref v3)]) hx hb dL_tapOf_13 hl (by decide) rfl (fun ls hl => ?_)
      refine lv_iconst (v := 1) hx hb dL_tapOf_15 (by decide) ?_
      obtain ⟨rfl, rfl⟩ := Prod.mk.inj (Option.some.inj hrun)
      exact mrw_iret hx hb hr hlocks hR hS dL_tapOf_16 (Nat.le_of_ble_eq_true rfl) (Nat.le_of_ble_eq_true rfl)
    have hrun := mt_f hrun hc0
    by_cases hc1 : E9 = "java/lang/IllegalArgumentException"
    · have hrun := mt_t hrun hc1
      rw [hc1] at hcl
      refine mr_catch1 hown htab (by decide) (by decide) (by decide) (hts _ (List.mem_cons_of_mem _ wm_1_216)) (hts _ (List.mem_cons_of_mem _ wm_2_94)) hE.2.2.2.2.2.2.2 (List.mem_of_getElem? (i := 0) rfl) (List.mem_of_getElem? (i := 1) rfl) hce hcv hcl ?_
      refine lv_astore (lv' := [(4, .ref q9), (0, .ref v0), (1, .int v1), (2, .int v2), (3, .ref v3)]) hx hb dL_tapOf_17 hl (by decide) rfl (fun ls hl => ?_)
      refine lv_iconst (v := 2) hx hb dL_tapOf_19 (by decide) ?_
      obtain ⟨rfl, rfl⟩ := Prod.mk.inj (Option.some.inj hrun)
      exact mrw_iret hx hb hr hlocks hR hS dL_tapOf_20 (Nat.le_of_ble_eq_true rfl) (Nat.le_of_ble_eq_true rfl)
    have hrun := mt_f hrun hc1
    exact absurd hrun (fun h9 => nomatch h9)
  · subst hr9
    obtain ⟨z, hz⟩ : ∃ z, H.size = z := ⟨_, rfl⟩
    refine lv_i2l (v := x5.toInt64) hx hb dL_tapOf_8 rfl ?_
    obtain ⟨h9, hc9, hrun⟩ := m_bind hrun
    refine mr_last hx hb hR hz hS hc9 dL_tapOf_9 (fun H locs hR hz hS => ?_)
    refine lv_goto (tgt := 21) hx hb dL_tapOf_10 (by decide) ?_
    refine lv_iconst (v := 0) hx hb dL_tapOf_21 (by decide) ?_
    obtain ⟨rfl, rfl⟩ := Prod.mk.inj (Option.some.inj hrun)
    exact mrw_iret hx hb hr hlocks hR hS dL_tapOf_22 (Nat.le_of_ble_eq_true rfl) (Nat.le_of_ble_eq_true rfl)
/-! X7_day -/
abbrev rm_X7_day : Room := { frames := 6, cells := 1, slots := 6, locals := 90 }
theorem yk_X7_day : m_K yX7_day cX7_day 4 (some .int) 3 := ⟨wm_2_230, wm_0_1, by decide +kernel⟩
theorem ys_X7_day : Cond.instanceMethod yX7_day ∈ wT ∧ Cond.selects RX7 yX7_day yX7_day ∈ wT := ⟨wm_2_228, wm_2_229⟩
set_option maxRecDepth 100000 in
set_option maxHeartbeats 4000000 in
theorem k_X7_day_b16 {p : Program} {l : Launch} {e : Env} {s : State} {m : MethodId} {args : Array Value} {below : List Frame} {meth : Method} {c : Code} {D : va_G} {ids : m_I3} {st : m_T} {A : Nat → Prop} {z : Nat} {r : (String ⊕ Int32)} {hF : mH} (hx : p.tables.exec = Jvm.exec) (hb : c.code = cX7_day) (hr : meth.sig.returnType = some .int) (hml : c.maxLocals = 4) (hown : s.vm.findClass RX7 = some m.cls) (hts : ∀ w ∈ (m_ws yX7_day cX7_day 4 (some .int)), w.before args s = true) (hlocks : meth.locks = false) (hin : meth.name = yX7_day.name) (hE : m_EV st A s s.heap) (hA : ∀ q, s.heap.size ≤ q → A q) (hfl : l.stackTraces = false) (hout : ∀ x ∈ c.exceptionTable.toList, ∀ q, covers x q = false) (h : mH) (H : Heap) (locs : List Loc) (ls : Array Slot) (hrun : s_X7_day_b16 h = some (r, hF)) (hR : Rl D ids A h s H) (hz : H.size = z) (hS : va_S A s.heap H locs) (hl : lv_has ls 4 []) : W p l e rm_X7_day s m args below meth c H locs 0 0 (vx_MQ below (mQxi D ids A r hF) (mXx D ids A r hF) args s 1 6 A) (F0 m 16 ls []) := by
  unfold s_X7_day_b16 at hrun
  obtain ⟨rfl, rfl⟩ := Prod.mk.inj (Option.some.inj hrun)
  exact mr_throw (text := "an argument is out of range") hx hb hfl hown hts hml hE yt_72 (List.mem_of_getElem? (i := 0) rfl) hR hS hl.1 dX7_day_16 dX7_day_19 dX7_day_20 dX7_day_22 dX7_day_25 hout hlocks (Nat.le_of_ble_eq_true rfl) (Nat.le_of_ble_eq_true rfl) (Nat.le_of_ble_eq_true rfl) (Nat.le_of_ble_eq_true rfl) (Nat.le_of_ble_eq_true rfl) (Nat.le_of_ble_eq_true rfl)
set_option maxRecDepth 100000 in
set_option maxHeartbeats 4000000 in
theorem c_X7_day (l : Launch) (hfl : l.stackTraces = false) (D : va_G) (ids : m_I3) (st : m_T) (z : Nat) {h : mH} {v0 : Nat} {v1 : Int32} {v2 : Int32} {v3 : Int32} {r : (String ⊕ Int32)} {hF : mH} (hrun : s_X7_day h v0 v1 v2 v3 = some (r, hF)) : vx_Met l yX7_day (m_ws yX7_day cX7_day 4 (some .int)) rm_X7_day (mPc D ids st [.ref v0, .int v1, .int v2, .int v3] h z) (mQxi D ids (m_A h z) r hF) (mXx D ids (m_A h z) r hF) rm_X7_day.cells rm_X7_day.slots (m_A h z) := by
  refine mrx_of (cc := cX7_day) (maxL := 4) (ret := some .int) (by decide) rfl (Nat.le_of_ble_eq_true rfl) ?_
  intro p e s m below meth c ls hx hb hr hml hown hts hlocks hin hout hR hE hz hl
  have hA : ∀ q, s.heap.size ≤ q → m_A h z q := fun q hq => Or.inr (by rw [← hz]; exact hq)
  have hS : va_S (m_A h z) s.heap s.heap [] := va_S.rf
  have hl : lv_has ls 4 [(0, .ref v0), (1, .int v1), (2, .int v2), (3, .int v3)] := hl
  unfold s_X7_day at hrun
  refine lv_iload_n hx hb dX7_day_0 rfl (lv_at hl 1 rfl) ?_
  refine lv_iload_n hx hb dX7_day_1 rfl (lv_at hl 2 rfl) ?_
  obtain ⟨x2, hc9, hrun⟩ := m_bind hrun
  refine mr_calli (mr_runS (As := [.int v1, .int v2]) (rest := []) hx hb hml hown hts (c_X7_isWalletDay l D ids st z hc9) yk_X7_isWalletDay ys_X7_isWalletDay wm_1_222 ⟨(Nat.le_of_ble_eq_true rfl), (Nat.le_of_ble_eq_true rfl)⟩ (mr_recvS hR hE hz hS hA) hl.1 rfl (Nat.le_of_ble_eq_true rfl) dX7_day_2 ⟨(Nat.le_of_ble_eq_true rfl), (Nat.le_of_ble_eq_true rfl)⟩) hR hz hS hA (fun H locs hR hz hS => ?_)
  refine lv_if_eq (tgt := 16) hx hb dX7_day_5 (by decide) (fun hc => ?_) (fun hc => ?_)
  · have hrun := mt_t hrun hc
    exact k_X7_day_b16 hx hb hr hml hown hts hlocks hin hE hA hfl hout _ _ _ _ hrun hR hz hS (lv_sub hl [] rfl)
  · have hrun := mt_f hrun hc
    refine lv_iload_n hx hb dX7_day_8 rfl (lv_at hl 3 rfl) ?_
    refine lv_iconst (v := 4) hx hb dX7_day_9 (by decide) ?_
    obtain ⟨x10, hc9, hrun⟩ := m_bind hrun
    refine mr_calli (mr_runS (As := [.int v3, .int 4]) (rest := []) hx hb hml hown hts (c_X7_isBelow l D ids st z hc9) yk_X7_isBelow ys_X7_isBelow wm_1_225 ⟨(Nat.le_of_ble_eq_true rfl), (Nat.le_of_ble_eq_true rfl)⟩ (mr_recvS hR hE hz hS hA) hl.1 rfl (Nat.le_of_ble_eq_true rfl) dX7_day_10 ⟨(Nat.le_of_ble_eq_true rfl), (Nat.le_of_ble_eq_true rfl)⟩) hR hz hS hA (fun H locs hR hz hS => ?_)
    refine lv_if_ne (tgt := 26) hx hb dX7_day_13 (by decide) (fun hc => ?_) (fun hc => ?_)
    · have hrun := mt_f hrun hc
      refine lv_aload_n hx hb dX7_day_26 rfl (lv_at hl 0 rfl) ?_
      refine lv_iload_n hx hb dX7_day_27 rfl (lv_at hl 1 rfl) ?_
      refine lv_iload_n hx hb dX7_day_28 rfl (lv_at hl 2 rfl) ?_
      refine lv_iload_n hx hb dX7_day_29 rfl (lv_at hl 3 rfl) ?_
      obtain ⟨_, ho9, hrun⟩ := m_bind hrun
      obtain ⟨fs9, ho9⟩ := m_is_spec ho9
      obtain ⟨x30, hc9, hrun⟩ := m_bind hrun
      refine mr_calli (mr_runV (As := [.int v1, .int v2, .int v3]) (rest := []) hx hb hml hown hts (c_X7_dayNumber l D ids st z hc9) yk_X7_dayNumber ys_X7_dayNumber wm_1_157 ⟨(Nat.le_of_ble_eq_true rfl), (Nat.le_of_ble_eq_true rfl)⟩ (mr_recv (ci := 5) hR hE hz hS hA rfl ho9) hl.1 rfl (Nat.le_of_ble_eq_true rfl) dX7_day_30 ⟨(Nat.le_of_ble_eq_true rfl), (Nat.le_of_ble_eq_true rfl)⟩) hR hz hS hA (fun H locs hR hz hS => ?_)
      obtain ⟨rfl, rfl⟩ := Prod.mk.inj (Option.some.inj hrun)
      exact mrx_iret hx hb hr hlocks hR hS dX7_day_33 (Nat.le_of_ble_eq_true rfl) (Nat.le_of_ble_eq_true rfl)
    · have hrun := mt_t hrun hc
      exact k_X7_day_b16 hx hb hr hml hown hts hlocks hin hE hA hfl hout _ _ _ _ hrun hR hz hS (lv_sub hl [] rfl)
/-! L_day -/
abbrev rm_L_day : Room := { frames := 7, cells := 1, slots := 6, locals := 113 }
theorem yk_L_day : m_KH yL_day cL_day 6 (some .int) [(0, 12, 15, 13)] 5 := ⟨wm_2_226, wm_0_0, by decide +kernel⟩
theorem ys_L_day : Cond.static yL_day ∈ wT := wm_2_225
set_option maxRecDepth 100000 in
set_option maxHeartbeats 4000000 in
theorem c_L_day (l : Launch) (hfl : l.stackTraces = false) (D : va_G) (ids : m_I3) (st : m_T) (z : Nat) {h : mH} {v0 : Nat} {v1 : Int32} {v2 : Int32} {v3 : Int32} {v4 : Nat} {r : Int32} {hF : mH} (hrun : s_L_day h v0 v1 v2 v3 v4 = some (r, hF)) : Met l yL_day (m_wsH yL_day cL_day 6 (some .int) [(0, 12, 15, 13)]) rm_L_day (mPc D ids st [.ref v0, .int v1, .int v2, .int v3, .ref v4] h z) (mQwi D ids (m_A h z) r hF) rm_L_day.cells rm_L_day.slots (m_A h z) := by
  refine mr_ofH (cc := cL_day) (maxL := 6) (ret := some .int) (hh := [(0, 12, 15, 13)]) (by decide) rfl (Nat.le_of_ble_eq_true rfl) ?_
  intro p e s m below meth c ls hx hb hr hml hown hts hlocks hin htab hR hE hz hl
  have hA : ∀ q, s.heap.size ≤ q → m_A h z q := fun q hq => Or.inr (by rw [← hz]; exact hq)
  have hS : va_S (m_A h z) s.heap s.heap [] := va_S.rf
  have hl : lv_has ls 6 [(0, .ref v0), (1, .int v1), (2, .int v2), (3, .int v3), (4, .ref v4)] := hl
  unfold s_L_day at hrun
  refine lv_aload hx hb dL_day_0 (lv_at hl 4 rfl) ?_
  refine lv_iconst (v := 0) hx hb dL_day_2 (by decide) ?_
  refine lv_aload_n hx hb dL_day_3 rfl (lv_at hl 0 rfl) ?_
  refine lv_iload_n hx hb dL_day_4 rfl (lv_at hl 1 rfl) ?_
  refine lv_iload_n hx hb dL_day_5 rfl (lv_at hl 2 rfl) ?_
  refine lv_iload_n hx hb dL_day_6 rfl (lv_at hl 3 rfl) ?_
  obtain ⟨_, ho9, hrun⟩ := m_bind hrun
  obtain ⟨fs9, ho9⟩ := m_is_spec ho9
  obtain ⟨⟨r7, h7⟩, hc9, hrun⟩ := m_bind hrun
  refine mrx_calli (mrx_runV (As := [.int v1, .int v2, .int v3]) (rest := [.int 0, .ref v4]) hx hb hml hown hts (c_X7_day l hfl D ids st z hc9) yk_X7_day ys_X7_day wm_2_227 ⟨(Nat.le_of_ble_eq_true rfl), (Nat.le_of_ble_eq_true rfl)⟩ (mr_recv (ci := 5) hR hE hz hS hA rfl ho9) hl.1 rfl (Nat.le_of_ble_eq_true rfl) dL_day_7 ⟨(Nat.le_of_ble_eq_true rfl), (Nat.le_of_ble_eq_true rfl)⟩) hR hz hS hA (fun E9 ce9 q9 H locs hr9 hR hS hce hcv hcl => ?_) (fun x7 H locs hr9 hR hS => ?_)
  · subst hr9
    obtain ⟨z, hz⟩ : ∃ z, H.size = z := ⟨_, rfl⟩
    by_cases hc0 : E9 = "java/lang/IllegalArgumentException"
    · have hrun := mt_t hrun hc0
      rw [hc0] at hcl
      refine mr_catch0 hown htab (by decide) (by decide) (hts _ (List.mem_cons_of_mem _ wm_1_216)) hE.2.2.2.2.2.2.2 (List.mem_of_getElem? (i := 0) rfl) hce hcv hcl ?_
      refine lv_astore (lv' := [(5, .ref q9), (0, .ref v0), (1, .int v1), (2, .int v2), (3, .int v3), (4, .ref v4)]) hx hb dL_day_15 hl (by decide) rfl (fun ls hl => ?_)
      refine lv_iconst (v := 1) hx hb dL_day_17 (by decide) ?_
      obtain ⟨rfl, rfl⟩ := Prod.mk.inj (Option.some.inj hrun)
      exact mrw_iret hx hb hr hlocks hR hS dL_day_18 (Nat.le_of_ble_eq_true rfl) (Nat.le_of_ble_eq_true rfl)
    have hrun := mt_f hrun hc0
    exact absurd hrun (fun h9 => nomatch h9)
  · subst hr9
    obtain ⟨z, hz⟩ : ∃ z, H.size = z := ⟨_, rfl⟩
    refine lv_i2l (v := x7.toInt64) hx hb dL_day_10 rfl ?_
    obtain ⟨h11, hc9, hrun⟩ := m_bind hrun
    refine mr_last hx hb hR hz hS hc9 dL_day_11 (fun H locs hR hz hS => ?_)
    refine lv_goto (tgt := 19) hx hb dL_day_12 (by decide) ?_
    refine lv_iconst (v := 0) hx hb dL_day_19 (by decide) ?_
    obtain ⟨rfl, rfl⟩ := Prod.mk.inj (Option.some.inj hrun)
    exact mrw_iret hx hb hr hlocks hR hS dL_day_20 (Nat.le_of_ble_eq_true rfl) (Nat.le_of_ble_eq_true rfl)
