/-! the machine does it: laid by program -/
/-! X0_addUp -/
abbrev rm_X0_addUp : Room := { frames := 2, cells := 0, slots := 0, locals := 44 }
theorem yk_X0_addUp : m_K yX0_addUp cX0_addUp 6 (none) 1 := ⟨wm_1_1, wm_0_5, by decide +kernel⟩
theorem ys_X0_addUp : Cond.instanceMethod yX0_addUp ∈ wT ∧ Cond.selects RX0 yX0_addUp yX0_addUp ∈ wT := ⟨wm_1_0, wp_0_2⟩
set_option maxRecDepth 100000 in
set_option maxHeartbeats 4000000 in
theorem k_X0_addUp_b138 {p : Program} {l : Launch} {e : Env} {s : State} {m : MethodId} {args : Array Value} {below : List Frame} {meth : Method} {c : Code} {D : va_G} {ids : m_I3} {st : m_T} {A : Nat → Prop} {z : Nat} {hF : mH} (hx : p.tables.exec = Jvm.exec) (hb : c.code = cX0_addUp) (hr : meth.sig.returnType = none) (hml : c.maxLocals = 6) (hown : s.vm.findClass RX0 = some m.cls) (hts : ∀ w ∈ (m_ws yX0_addUp cX0_addUp 6 (none)), w.before args s = true) (hlocks : meth.locks = false) (hin : meth.name = yX0_addUp.name) (hE : m_EV st A s s.heap) (hA : ∀ q, s.heap.size ≤ q → A q) {k34 : mH → Nat → Nat → Int32 → Option (mH)} (hk34 : ∀ (h : mH) (v0 : Nat) (v1 : Nat) (v2 : Int32) (H : Heap) (locs : List Loc) (ls : Array Slot), k34 h v0 v1 v2 = some hF → Rl D ids A h s H → H.size = z → va_S A s.heap H locs → lv_has ls 6 [(0, .ref v0), (1, .ref v1), (2, .int v2)] → W p l e rm_X0_addUp s m args below meth c H locs 0 0 (MQ below (mQv D ids A hF z) args s 0 0 A) (F0 m 34 ls [])) (h : mH) (v0 : Nat) (v1 : Nat) (v2 : Int32) (H : Heap) (locs : List Loc) (ls : Array Slot) (hrun : s_X0_addUp_b138 k34 h v0 v1 v2 = some hF) (hR : Rl D ids A h s H) (hz : H.size = z) (hS : va_S A s.heap H locs) (hl : lv_has ls 6 [(0, .ref v0), (1, .ref v1), (2, .int v2)]) : W p l e rm_X0_addUp s m args below meth c H locs 0 0 (MQ below (mQv D ids A hF z) args s 0 0 A) (F0 m 138 ls []) := by
  unfold s_X0_addUp_b138 at hrun
  refine lv_iinc (v := v2 + 1) (lv' := [(2, .int (v2 + 1)), (0, .ref v0), (1, .ref v1)]) hx hb dX0_addUp_138 hl (k := 2) rfl rfl (by decide) rfl (fun ls hl => ?_)
  refine lv_goto (tgt := 34) hx hb dX0_addUp_141 (by decide) ?_
  exact hk34 _ _ _ _ _ _ _ hrun hR hz hS (lv_sub hl [1, 2, 0] rfl)
set_option maxRecDepth 100000 in
set_option maxHeartbeats 4000000 in
theorem k_X0_addUp_b110 {p : Program} {l : Launch} {e : Env} {s : State} {m : MethodId} {args : Array Value} {below : List Frame} {meth : Method} {c : Code} {D : va_G} {ids : m_I3} {st : m_T} {A : Nat → Prop} {z : Nat} {hF : mH} (hx : p.tables.exec = Jvm.exec) (hb : c.code = cX0_addUp) (hr : meth.sig.returnType = none) (hml : c.maxLocals = 6) (hown : s.vm.findClass RX0 = some m.cls) (hts : ∀ w ∈ (m_ws yX0_addUp cX0_addUp 6 (none)), w.before args s = true) (hlocks : meth.locks = false) (hin : meth.name = yX0_addUp.name) (hE : m_EV st A s s.heap) (hA : ∀ q, s.heap.size ≤ q → A q) {k34 : mH → Nat → Nat → Int32 → Option (mH)} (hk34 : ∀ (h : mH) (v0 : Nat) (v1 : Nat) (v2 : Int32) (H : Heap) (locs : List Loc) (ls : Array Slot), k34 h v0 v1 v2 = some hF → Rl D ids A h s H → H.size = z → va_S A s.heap H locs → lv_has ls 6 [(0, .ref v0), (1, .ref v1), (2, .int v2)] → W p l e rm_X0_addUp s m args below meth c H locs 0 0 (MQ below (mQv D ids A hF z) args s 0 0 A) (F0 m 34 ls [])) (h : mH) (v0 : Nat) (v1 : Nat) (v2 : Int32) (v3 : Int32) (v4 : Int32) (v5 : Int32) (H : Heap) (locs : List Loc) (ls : Array Slot) (hrun : s_X0_addUp_b110 k34 h v0 v1 v2 v3 v4 v5 = some hF) (hR : Rl D ids A h s H) (hz : H.size = z) (hS : va_S A s.heap H locs) (hl : lv_has ls 6 [(0, .ref v0), (1, .ref v1), (2, .int v2), (3, .int v3), (4, .int v4), (5, .int v5)]) : W p l e rm_X0_addUp s m args below meth c H locs 0 0 (MQ below (mQv D ids A hF z) args s 0 0 A) (F0 m 110 ls []) := by
  unfold s_X0_addUp_b110 at hrun
  refine lv_iload hx hb dX0_addUp_110 (lv_at hl 4 rfl) ?_
  refine lv_iconst (v := (-1)) hx hb dX0_addUp_112 (by decide) ?_
  refine lv_icmp_ne (tgt := 138) hx hb dX0_addUp_113 (by decide) (fun hc => ?_) (fun hc => ?_)
  · have hrun := mt_f hrun hc
    exact k_X0_addUp_b138 hx hb hr hml hown hts hlocks hin hE hA hk34 _ _ _ _ _ _ _ hrun hR hz hS (lv_sub hl [0, 1, 2] rfl)
  · have hrun := mt_t hrun hc
    refine lv_aload_n hx hb dX0_addUp_116 rfl (lv_at hl 0 rfl) ?_
    obtain ⟨x117, hc9, hrun⟩ := m_bind hrun
    refine mr_get (C := RX0) (T := TX0) (N := 9) (ci := 0) hx hb hts (fun w q => m_ws_in (wi_X0 w q)) hown hR rfl 3 (by decide) (hts _ (m_ws_in wm_0_107)) (fun _ h9 => h9) (m_gr_spec hc9) dX0_addUp_117 ?_
    refine lv_iload hx hb dX0_addUp_120 (lv_at hl 5 rfl) ?_
    refine lv_iconst (v := 1) hx hb dX0_addUp_122 (by decide) ?_
    obtain ⟨h123, hc9, hrun⟩ := m_bind hrun
    refine mr_callv (mr_runS (As := [.ref x117, .int v5, .int 1]) (rest := []) hx hb hml hown hts (c_X1_raise l D ids st z hc9) yk_X1_raise ys_X1_raise wm_1_5 ⟨(Nat.le_of_ble_eq_true rfl), (Nat.le_of_ble_eq_true rfl)⟩ (mr_recvS hR hE hz hS hA) hl.1 rfl (Nat.le_of_ble_eq_true rfl) dX0_addUp_123 ⟨(Nat.le_of_ble_eq_true rfl), (Nat.le_of_ble_eq_true rfl)⟩) hR hz hS hA (fun H locs hR hz hS => ?_)
    refine lv_aload_n hx hb dX0_addUp_126 rfl (lv_at hl 0 rfl) ?_
    obtain ⟨x127, hc9, hrun⟩ := m_bind hrun
    refine mr_get (C := RX0) (T := TX0) (N := 9) (ci := 0) hx hb hts (fun w q => m_ws_in (wi_X0 w q)) hown hR rfl 5 (by decide) (hts _ (m_ws_in wm_0_111)) (fun _ h9 => h9) (m_gr_spec hc9) dX0_addUp_127 ?_
    refine lv_iload_n hx hb dX0_addUp_130 rfl (lv_at hl 3 rfl) ?_
    obtain ⟨x131, hc9, hrun⟩ := m_bind hrun
    refine mr_calli (mr_runS (As := [.int v3]) (rest := [.ref x127]) hx hb hml hown hts (c_X4_stationOf l D ids st z hc9) yk_X4_stationOf ys_X4_stationOf wm_1_10 ⟨(Nat.le_of_ble_eq_true rfl), (Nat.le_of_ble_eq_true rfl)⟩ (mr_recvS hR hE hz hS hA) hl.1 rfl (Nat.le_of_ble_eq_true rfl) dX0_addUp_131 ⟨(Nat.le_of_ble_eq_true rfl), (Nat.le_of_ble_eq_true rfl)⟩) hR hz hS hA (fun H locs hR hz hS => ?_)
    refine lv_iconst (v := 1) hx hb dX0_addUp_134 (by decide) ?_
    obtain ⟨h135, hc9, hrun⟩ := m_bind hrun
    refine mr_callv (mr_runS (As := [.ref x127, .int x131, .int 1]) (rest := []) hx hb hml hown hts (c_X1_raise l D ids st z hc9) yk_X1_raise ys_X1_raise wm_1_5 ⟨(Nat.le_of_ble_eq_true rfl), (Nat.le_of_ble_eq_true rfl)⟩ (mr_recvS hR hE hz hS hA) hl.1 rfl (Nat.le_of_ble_eq_true rfl) dX0_addUp_135 ⟨(Nat.le_of_ble_eq_true rfl), (Nat.le_of_ble_eq_true rfl)⟩) hR hz hS hA (fun H locs hR hz hS => ?_)
    exact k_X0_addUp_b138 hx hb hr hml hown hts hlocks hin hE hA hk34 _ _ _ _ _ _ _ hrun hR hz hS (lv_sub hl [0, 1, 2] rfl)
set_option maxRecDepth 100000 in
set_option maxHeartbeats 4000000 in
theorem k_X0_addUp_b83 {p : Program} {l : Launch} {e : Env} {s : State} {m : MethodId} {args : Array Value} {below : List Frame} {meth : Method} {c : Code} {D : va_G} {ids : m_I3} {st : m_T} {A : Nat → Prop} {z : Nat} {hF : mH} (hx : p.tables.exec = Jvm.exec) (hb : c.code = cX0_addUp) (hr : meth.sig.returnType = none) (hml : c.maxLocals = 6) (hown : s.vm.findClass RX0 = some m.cls) (hts : ∀ w ∈ (m_ws yX0_addUp cX0_addUp 6 (none)), w.before args s = true) (hlocks : meth.locks = false) (hin : meth.name = yX0_addUp.name) (hE : m_EV st A s s.heap) (hA : ∀ q, s.heap.size ≤ q → A q) {k34 : mH → Nat → Nat → Int32 → Option (mH)} (hk34 : ∀ (h : mH) (v0 : Nat) (v1 : Nat) (v2 : Int32) (H : Heap) (locs : List Loc) (ls : Array Slot), k34 h v0 v1 v2 = some hF → Rl D ids A h s H → H.size = z → va_S A s.heap H locs → lv_has ls 6 [(0, .ref v0), (1, .ref v1), (2, .int v2)] → W p l e rm_X0_addUp s m args below meth c H locs 0 0 (MQ below (mQv D ids A hF z) args s 0 0 A) (F0 m 34 ls [])) (h : mH) (v0 : Nat) (v1 : Nat) (v2 : Int32) (v3 : Int32) (v4 : Int32) (v5 : Int32) (H : Heap) (locs : List Loc) (ls : Array Slot) (hrun : s_X0_addUp_b83 k34 h v0 v1 v2 v3 v4 v5 = some hF) (hR : Rl D ids A h s H) (hz : H.size = z) (hS : va_S A s.heap H locs) (hl : lv_has ls 6 [(0, .ref v0), (1, .ref v1), (2, .int v2), (3, .int v3), (4, .int v4), (5, .int v5)]) : W p l e rm_X0_addUp s m args below meth c H locs 0 0 (MQ below (mQv D ids A hF z) args s 0 0 A) (F0 m 83 ls []) := by
  unfold s_X0_addUp_b83 at hrun
  refine lv_aload_n hx hb dX0_addUp_83 rfl (lv_at hl 0 rfl) ?_
  obtain ⟨x84, hc9, hrun⟩ := m_bind hrun
  refine mr_get (C := RX0) (T := TX0) (N := 9) (ci := 0) hx hb hts (fun w q => m_ws_in (wi_X0 w q)) hown hR rfl 2 (by decide) (hts _ (m_ws_in wm_0_105)) (fun _ h9 => h9) (m_gr_spec hc9) dX0_addUp_84 ?_
  refine lv_iload hx hb dX0_addUp_87 (lv_at hl 5 rfl) ?_
  refine lv_iconst (v := 1) hx hb dX0_addUp_89 (by decide) ?_
  obtain ⟨h90, hc9, hrun⟩ := m_bind hrun
  refine mr_callv (mr_runS (As := [.ref x84, .int v5, .int 1]) (rest := []) hx hb hml hown hts (c_X1_raise l D ids st z hc9) yk_X1_raise ys_X1_raise wm_1_5 ⟨(Nat.le_of_ble_eq_true rfl), (Nat.le_of_ble_eq_true rfl)⟩ (mr_recvS hR hE hz hS hA) hl.1 rfl (Nat.le_of_ble_eq_true rfl) dX0_addUp_90 ⟨(Nat.le_of_ble_eq_true rfl), (Nat.le_of_ble_eq_true rfl)⟩) hR hz hS hA (fun H locs hR hz hS => ?_)
  refine lv_aload_n hx hb dX0_addUp_93 rfl (lv_at hl 0 rfl) ?_
  obtain ⟨x94, hc9, hrun⟩ := m_bind hrun
  refine mr_get (C := RX0) (T := TX0) (N := 9) (ci := 0) hx hb hts (fun w q => m_ws_in (wi_X0 w q)) hown hR rfl 4 (by decide) (hts _ (m_ws_in wm_0_109)) (fun _ h9 => h9) (m_gr_spec hc9) dX0_addUp_94 ?_
  refine lv_iload hx hb dX0_addUp_97 (lv_at hl 5 rfl) ?_
  refine lv_aload_n hx hb dX0_addUp_99 rfl (lv_at hl 0 rfl) ?_
  obtain ⟨x100, hc9, hrun⟩ := m_bind hrun
  refine mr_get (C := RX0) (T := TX0) (N := 9) (ci := 0) hx hb hts (fun w q => m_ws_in (wi_X0 w q)) hown hR rfl 1 (by decide) (hts _ (m_ws_in wm_0_103)) (fun _ h9 => h9) (m_gr_spec hc9) dX0_addUp_100 ?_
  refine lv_iload_n hx hb dX0_addUp_103 rfl (lv_at hl 2 rfl) ?_
  obtain ⟨x104, hc9, hrun⟩ := m_bind hrun
  refine mr_calli (mr_runS (As := [.ref x100, .int v2]) (rest := [.int v5, .ref x94]) hx hb hml hown hts (c_X1_at l D ids st z hc9) yk_X1_at ys_X1_at wm_0_194 ⟨(Nat.le_of_ble_eq_true rfl), (Nat.le_of_ble_eq_true rfl)⟩ (mr_recvS hR hE hz hS hA) hl.1 rfl (Nat.le_of_ble_eq_true rfl) dX0_addUp_104 ⟨(Nat.le_of_ble_eq_true rfl), (Nat.le_of_ble_eq_true rfl)⟩) hR hz hS hA (fun H locs hR hz hS => ?_)
  obtain ⟨h107, hc9, hrun⟩ := m_bind hrun
  refine mr_callv (mr_runS (As := [.ref x94, .int v5, .int x104]) (rest := []) hx hb hml hown hts (c_X1_raise l D ids st z hc9) yk_X1_raise ys_X1_raise wm_1_5 ⟨(Nat.le_of_ble_eq_true rfl), (Nat.le_of_ble_eq_true rfl)⟩ (mr_recvS hR hE hz hS hA) hl.1 rfl (Nat.le_of_ble_eq_true rfl) dX0_addUp_107 ⟨(Nat.le_of_ble_eq_true rfl), (Nat.le_of_ble_eq_true rfl)⟩) hR hz hS hA (fun H locs hR hz hS => ?_)
  exact k_X0_addUp_b110 hx hb hr hml hown hts hlocks hin hE hA hk34 _ _ _ _ _ _ _ _ _ _ hrun hR hz hS (lv_sub hl [0, 1, 2, 3, 4, 5] rfl)
set_option maxRecDepth 100000 in
set_option maxHeartbeats 4000000 in
theorem k_X0_addUp_L34 {p : Program} {l : Launch} {e : Env} {s : State} {m : MethodId} {args : Array Value} {below : List Frame} {meth : Method} {c : Code} {D : va_G} {ids : m_I3} {st : m_T} {A : Nat → Prop} {z : Nat} {hF : mH} (hx : p.tables.exec = Jvm.exec) (hb : c.code = cX0_addUp) (hr : meth.sig.returnType = none) (hml : c.maxLocals = 6) (hown : s.vm.findClass RX0 = some m.cls) (hts : ∀ w ∈ (m_ws yX0_addUp cX0_addUp 6 (none)), w.before args s = true) (hlocks : meth.locks = false) (hin : meth.name = yX0_addUp.name) (hE : m_EV st A s s.heap) (hA : ∀ q, s.heap.size ≤ q → A q) : ∀ (n : Nat) (h : mH) (v0 : Nat) (v1 : Nat) (v2 : Int32) (H : Heap) (locs : List Loc) (ls : Array Slot), s_X0_addUp_L34 n h v0 v1 v2 = some hF → Rl D ids A h s H → H.size = z → va_S A s.heap H locs → lv_has ls 6 [(0, .ref v0), (1, .ref v1), (2, .int v2)] → W p l e rm_X0_addUp s m args below meth c H locs 0 0 (MQ below (mQv D ids A hF z) args s 0 0 A) (F0 m 34 ls []) := by
  intro n
  induction n with
  | zero => intro h v0 v1 v2 H locs ls hrun; exact absurd hrun (by intro h9; cases h9)
  | succ n ih =>
    intro h v0 v1 v2 H locs ls hrun hR hz hS hl
    rw [s_X0_addUp_L34] at hrun
    refine lv_iload_n hx hb dX0_addUp_34 rfl (lv_at hl 2 rfl) ?_
    refine lv_aload_n hx hb dX0_addUp_35 rfl (lv_at hl 1 rfl) ?_
    obtain ⟨x36, hc9, hrun⟩ := m_bind hrun
    refine mr_getN (C := RX5) (T := TX5) (N := 2) (ci := 3) hx hb hts (fun w q => m_ws_in (wi_X5 w q)) hown hR rfl 1 (by decide) (hE.nf (i := 1) rfl) (fun _ h9 => h9) (m_gi_spec hc9) dX0_addUp_36 ?_
    refine lv_icmp_ge (tgt := 144) hx hb dX0_addUp_39 (by decide) (fun hc => ?_) (fun hc => ?_)
    · have hrun := mt_t hrun hc
      obtain rfl := Option.some.inj hrun
      exact mr_vret hx hb hr hlocks hR hz hS dX0_addUp_144
    · have hrun := mt_f hrun hc
      refine lv_aload_n hx hb dX0_addUp_42 rfl (lv_at hl 1 rfl) ?_
      refine lv_iload_n hx hb dX0_addUp_43 rfl (lv_at hl 2 rfl) ?_
      obtain ⟨_, ho9, hrun⟩ := m_bind hrun
      obtain ⟨fs9, ho9⟩ := m_is_spec ho9
      obtain ⟨x44, hc9, hrun⟩ := m_bind hrun
      refine mr_calli (mr_runV (As := [.int v2]) (rest := []) hx hb hml hown hts (c_X5_tapAt l D ids st z hc9) yk_X5_tapAt ys_X5_tapAt wm_0_202 ⟨(Nat.le_of_ble_eq_true rfl), (Nat.le_of_ble_eq_true rfl)⟩ (mr_recv (ci := 3) hR hE hz hS hA rfl ho9) hl.1 rfl (Nat.le_of_ble_eq_true rfl) dX0_addUp_44 ⟨(Nat.le_of_ble_eq_true rfl), (Nat.le_of_ble_eq_true rfl)⟩) hR hz hS hA (fun H locs hR hz hS => ?_)
      refine lv_istore_n (lv' := [(3, .int x44), (0, .ref v0), (1, .ref v1), (2, .int v2)]) hx hb dX0_addUp_47 rfl hl (by decide) rfl (fun ls hl => ?_)
      refine lv_aload_n hx hb dX0_addUp_48 rfl (lv_at hl 1 rfl) ?_
      obtain ⟨x49, hc9, hrun⟩ := m_bind hrun
      refine mr_get (C := RX0) (T := TX0) (N := 9) (ci := 0) hx hb hts (fun w q => m_ws_in (wi_X0 w q)) hown hR rfl 0 (by decide) (hts _ (m_ws_in wm_0_101)) (fun _ h9 => h9) (m_gr_spec hc9) dX0_addUp_49 ?_
      refine lv_iload_n hx hb dX0_addUp_52 rfl (lv_at hl 3 rfl) ?_
      obtain ⟨x53, hc9, hrun⟩ := m_bind hrun
      refine mr_calli (mr_runS (As := [.ref x49, .int v2]) (rest := []) hx hb hml hown hts (c_X1_at l D ids st z hc9) yk_X1_at ys_X1_at wm_0_194 ⟨(Nat.le_of_ble_eq_true rfl), (Nat.le_of_ble_eq_true rfl)⟩ (mr_recvS hR hE hz hS hA) hl.1 rfl (Nat.le_of_ble_eq_true rfl) dX0_addUp_53 ⟨(Nat.le_of_ble_eq_true rfl), (Nat.le_of_ble_eq_true rfl)⟩) hR hz hS hA (fun H locs hR hz hS => ?_)
      refine lv_istore (lv' := [(4, .int x53), (3, .int x44), (0, .ref v0), (1, .ref v1), (2, .int v2)]) hx hb dX0_addUp_56 hl (by decide) rfl (fun ls hl => ?_)
      refine lv_iload_n hx hb dX0_addUp_58 rfl (lv_at hl 1 rfl) ?_
      obtain ⟨x59, hc9, hrun⟩ := m_bind hrun
      refine mr_calli (mr_runS (As := [.int x44]) (rest := []) hx hb hml hown hts (c_X4_walletOf l D ids st z hc9) yk_X4_walletOf ys_X4_walletOf wm_0_207 ⟨(Nat.le_of_ble_eq_true rfl), (Nat.le_of_ble_eq_true rfl)⟩ (mr_recvS hR hE hz hS hA) hl.1 rfl (Nat.le_of_ble_eq_true rfl) dX0_addUp_59 ⟨(Nat.le_of_ble_eq_true rfl), (Nat.le_of_ble_eq_true rfl)⟩) hR hz hS hA (fun H locs hR hz hS => ?_)
      refine lv_iload_n hx hb dX0_addUp_62 rfl (lv_at hl 1 rfl) ?_
      obtain ⟨x63, hc9, hrun⟩ := m_bind hrun
      refine mr_calli (mr_runS (As := [.int x44]) (rest := [.int x59]) hx hb hml hown hts (c_X4_dayOf l D ids st z hc9) yk_X4_dayOf ys_X4_dayOf wm_0_216 ⟨(Nat.le_of_ble_eq_true rfl), (Nat.le_of_ble_eq_true rfl)⟩ (mr_recvS hR hE hz hS hA) hl.1 rfl (Nat.le_of_ble_eq_true rfl) dX0_addUp_63 ⟨(Nat.le_of_ble_eq_true rfl), (Nat.le_of_ble_eq_true rfl)⟩) hR hz hS hA (fun H locs hR hz hS => ?_)
      obtain ⟨x66, hc9, hrun⟩ := m_bind hrun
      refine mr_calli (mr_runSN (As := [.int x59, .int x63]) (rest := []) hx hb hml hown hts (c_X7_dayCell l D ids st z hc9) yk_X7_dayCell ys_X7_dayCell (hE.nm (i := 0) rfl) ⟨(Nat.le_of_ble_eq_true rfl), (Nat.le_of_ble_eq_true rfl)⟩ (mr_recvS hR hE hz hS hA) hl.1 rfl (Nat.le_of_ble_eq_true rfl) dX0_addUp_66 ⟨(Nat.le_of_ble_eq_true rfl), (Nat.le_of_ble_eq_true rfl)⟩) hR hz hS hA (fun H locs hR hz hS => ?_)
      refine lv_istore (lv' := [(5, .int x66), (4, .int x53), (3, .int x44), (0, .ref v0), (1, .ref v1), (2, .int v2)]) hx hb dX0_addUp_69 hl (by decide) rfl (fun ls hl => ?_)
      refine lv_iload hx hb dX0_addUp_71 (lv_at hl 1 rfl) ?_
      refine lv_iconst (v := (-1)) hx hb dX0_addUp_73 (by decide) ?_
      refine lv_icmp_eq (tgt := 83) hx hb dX0_addUp_74 (by decide) (fun hc => ?_) (fun hc => ?_)
      · have hrun := mt_t hrun hc
        exact k_X0_addUp_b83 hx hb hr hml hown hts hlocks hin hE hA ih _ _ _ _ _ _ _ _ _ _ hrun hR hz hS (lv_sub hl [3, 4, 5, 2, 1, 0] rfl)
      · have hrun := mt_f hrun hc
        refine lv_iload hx hb dX0_addUp_77 (lv_at hl 1 rfl) ?_
        refine lv_iload_n hx hb dX0_addUp_79 rfl (lv_at hl 5 rfl) ?_
        refine lv_icmp_le (tgt := 110) hx hb dX0_addUp_80 (by decide) (fun hc => ?_) (fun hc => ?_)
        · have hrun := mt_t hrun hc
          exact k_X0_addUp_b110 hx hb hr hml hown hts hlocks hin hE hA ih _ _ _ _ _ _ _ _ _ _ hrun hR hz hS (lv_sub hl [3, 4, 5, 2, 1, 0] rfl)
        · have hrun := mt_f hrun hc
          exact k_X0_addUp_b83 hx hb hr hml hown hts hlocks hin hE hA ih _ _ _ _ _ _ _ _ _ _ hrun hR hz hS (lv_sub hl [3, 4, 5, 2, 1, 0] rfl)
set_option maxRecDepth 100000 in
set_option maxHeartbeats 4000000 in
theorem c_X0_addUp (l : Launch) (D : va_G) (ids : m_I3) (st : m_T) (z : Nat) {h : mH} {v0 : Nat} {v1 : Nat} {hF : mH} (hrun : s_X0_addUp h v0 v1 = some hF) : Met l yX0_addUp (m_ws yX0_addUp cX0_addUp 6 (none)) rm_X0_addUp (mPc D ids st [.ref v0, .ref v1] h z) (mQv D ids (m_A h z) hF z) rm_X0_addUp.cells rm_X0_addUp.slots (m_A h z) := by
  refine mr_of (cc := cX0_addUp) (maxL := 6) (ret := none) (by decide) rfl (Nat.le_of_ble_eq_true rfl) ?_
  intro p e s m below meth c ls hx hb hr hml hown hts hlocks hin hR hE hz hl
  have hA : ∀ q, s.heap.size ≤ q → m_A h z q := fun q hq => Or.inr (by rw [← hz]; exact hq)
  have hS : va_S (m_A h z) s.heap s.heap [] := va_S.rf
  have hl : lv_has ls 6 [(0, .ref v0), (1, .ref v1)] := hl
  unfold s_X0_addUp at hrun
  refine lv_aload_n hx hb dX0_addUp_0 rfl (lv_at hl 0 rfl) ?_
  obtain ⟨x1, hc9, hrun⟩ := m_bind hrun
  refine mr_get (C := RX0) (T := TX0) (N := 9) (ci := 0) hx hb hts (fun w q => m_ws_in (wi_X0 w q)) hown hR rfl 2 (by decide) (hts _ (m_ws_in wm_0_105)) (fun _ h9 => h9) (m_gr_spec hc9) dX0_addUp_1 ?_
  refine lv_iconst (v := 0) hx hb dX0_addUp_4 (by decide) ?_
  obtain ⟨h5, hc9, hrun⟩ := m_bind hrun
  refine mr_callv (mr_runS (As := [.ref x1, .int 0]) (rest := []) hx hb hml hown hts (c_X1_fill l D ids st z hc9) yk_X1_fill ys_X1_fill wm_0_201 ⟨(Nat.le_of_ble_eq_true rfl), (Nat.le_of_ble_eq_true rfl)⟩ (mr_recvS hR hE hz hS hA) hl.1 rfl (Nat.le_of_ble_eq_true rfl) dX0_addUp_5 ⟨(Nat.le_of_ble_eq_true rfl), (Nat.le_of_ble_eq_true rfl)⟩) hR hz hS hA (fun H locs hR hz hS => ?_)
  refine lv_aload_n hx hb dX0_addUp_8 rfl (lv_at hl 0 rfl) ?_
  obtain ⟨x9, hc9, hrun⟩ := m_bind hrun
  refine mr_get (C := RX0) (T := TX0) (N := 9) (ci := 0) hx hb hts (fun w q => m_ws_in (wi_X0 w q)) hown hR rfl 3 (by decide) (hts _ (m_ws_in wm_0_107)) (fun _ h9 => h9) (m_gr_spec hc9) dX0_addUp_9 ?_
  refine lv_iconst (v := 0) hx hb dX0_addUp_12 (by decide) ?_
  obtain ⟨h13, hc9, hrun⟩ := m_bind hrun
  refine mr_callv (mr_runS (As := [.ref x9, .int 0]) (rest := []) hx hb hml hown hts (c_X1_fill l D ids st z hc9) yk_X1_fill ys_X1_fill wm_0_201 ⟨(Nat.le_of_ble_eq_true rfl), (Nat.le_of_ble_eq_true rfl)⟩ (mr_recvS hR hE hz hS hA) hl.1 rfl (Nat.le_of_ble_eq_true rfl) dX0_addUp_13 ⟨(Nat.le_of_ble_eq_true rfl), (Nat.le_of_ble_eq_true rfl)⟩) hR hz hS hA (fun H locs hR hz hS => ?_)
  refine lv_aload_n hx hb dX0_addUp_16 rfl (lv_at hl 0 rfl) ?_
  obtain ⟨x17, hc9, hrun⟩ := m_bind hrun
  refine mr_get (C := RX0) (T := TX0) (N := 9) (ci := 0) hx hb hts (fun w q => m_ws_in (wi_X0 w q)) hown hR rfl 4 (by decide) (hts _ (m_ws_in wm_0_109)) (fun _ h9 => h9) (m_gr_spec hc9) dX0_addUp_17 ?_
  refine lv_iconst (v := 0) hx hb dX0_addUp_20 (by decide) ?_
  obtain ⟨h21, hc9, hrun⟩ := m_bind hrun
  refine mr_callv (mr_runS (As := [.ref x17, .int 0]) (rest := []) hx hb hml hown hts (c_X1_fill l D ids st z hc9) yk_X1_fill ys_X1_fill wm_0_201 ⟨(Nat.le_of_ble_eq_true rfl), (Nat.le_of_ble_eq_true rfl)⟩ (mr_recvS hR hE hz hS hA) hl.1 rfl (Nat.le_of_ble_eq_true rfl) dX0_addUp_21 ⟨(Nat.le_of_ble_eq_true rfl), (Nat.le_of_ble_eq_true rfl)⟩) hR hz hS hA (fun H locs hR hz hS => ?_)
  refine lv_aload_n hx hb dX0_addUp_24 rfl (lv_at hl 0 rfl) ?_
  obtain ⟨x25, hc9, hrun⟩ := m_bind hrun
  refine mr_get (C := RX0) (T := TX0) (N := 9) (ci := 0) hx hb hts (fun w q => m_ws_in (wi_X0 w q)) hown hR rfl 5 (by decide) (hts _ (m_ws_in wm_0_111)) (fun _ h9 => h9) (m_gr_spec hc9) dX0_addUp_25 ?_
  refine lv_iconst (v := 0) hx hb dX0_addUp_28 (by decide) ?_
  obtain ⟨h29, hc9, hrun⟩ := m_bind hrun
  refine mr_callv (mr_runS (As := [.ref x25, .int 0]) (rest := []) hx hb hml hown hts (c_X1_fill l D ids st z hc9) yk_X1_fill ys_X1_fill wm_0_201 ⟨(Nat.le_of_ble_eq_true rfl), (Nat.le_of_ble_eq_true rfl)⟩ (mr_recvS hR hE hz hS hA) hl.1 rfl (Nat.le_of_ble_eq_true rfl) dX0_addUp_29 ⟨(Nat.le_of_ble_eq_true rfl), (Nat.le_of_ble_eq_true rfl)⟩) hR hz hS hA (fun H locs hR hz hS => ?_)
  refine lv_iconst (v := 0) hx hb dX0_addUp_32 (by decide) ?_
  refine lv_istore_n (lv' := [(2, .int 0), (0, .ref v0), (1, .ref v1)]) hx hb dX0_addUp_33 rfl hl (by decide) rfl (fun ls hl => ?_)
  exact k_X0_addUp_L34 hx hb hr hml hown hts hlocks hin hE hA _ _ _ _ _ _ _ _ hrun hR hz hS (lv_sub hl [1, 2, 0] rfl)
/-! X0_readFrom -/
abbrev rm_X0_readFrom : Room := { frames := 3, cells := 0, slots := 0, locals := 69 }
theorem yk_X0_readFrom : m_K yX0_readFrom cX0_readFrom 3 (none) 2 := ⟨wm_0_193, wm_0_5, by decide +kernel⟩
theorem ys_X0_readFrom : Cond.instanceMethod yX0_readFrom ∈ wT ∧ Cond.selects RX0 yX0_readFrom yX0_readFrom ∈ wT := ⟨wm_0_191, wm_0_192⟩
set_option maxRecDepth 100000 in
set_option maxHeartbeats 4000000 in
theorem c_X0_readFrom (l : Launch) (D : va_G) (ids : m_I3) (st : m_T) (z : Nat) {h : mH} {v0 : Nat} {v1 : Nat} {v2 : Nat} {hF : mH} (hrun : s_X0_readFrom h v0 v1 v2 = some hF) : Met l yX0_readFrom (m_ws yX0_readFrom cX0_readFrom 3 (none)) rm_X0_readFrom (mPc D ids st [.ref v0, .ref v1, .ref v2] h z) (mQv D ids (m_A h z) hF z) rm_X0_readFrom.cells rm_X0_readFrom.slots (m_A h z) := by
  refine mr_of (cc := cX0_readFrom) (maxL := 3) (ret := none) (by decide) rfl (Nat.le_of_ble_eq_true rfl) ?_
  intro p e s m below meth c ls hx hb hr hml hown hts hlocks hin hR hE hz hl
  have hA : ∀ q, s.heap.size ≤ q → m_A h z q := fun q hq => Or.inr (by rw [← hz]; exact hq)
  have hS : va_S (m_A h z) s.heap s.heap [] := va_S.rf
  have hl : lv_has ls 3 [(0, .ref v0), (1, .ref v1), (2, .ref v2)] := hl
  unfold s_X0_readFrom at hrun
  refine lv_aload_n hx hb dX0_readFrom_0 rfl (lv_at hl 0 rfl) ?_
  refine lv_aload_n hx hb dX0_readFrom_1 rfl (lv_at hl 2 rfl) ?_
  refine lv_iconst (v := 4) hx hb dX0_readFrom_2 (by decide) ?_
  obtain ⟨x3, hc9, hrun⟩ := m_bind hrun
  refine mr_calli (mr_runS (As := [.ref v2, .int 4]) (rest := [.ref v0]) hx hb hml hown hts (c_X1_at l D ids st z hc9) yk_X1_at ys_X1_at wm_0_194 ⟨(Nat.le_of_ble_eq_true rfl), (Nat.le_of_ble_eq_true rfl)⟩ (mr_recvS hR hE hz hS hA) hl.1 rfl (Nat.le_of_ble_eq_true rfl) dX0_readFrom_3 ⟨(Nat.le_of_ble_eq_true rfl), (Nat.le_of_ble_eq_true rfl)⟩) hR hz hS hA (fun H locs hR hz hS => ?_)
  obtain ⟨h6, hc9, hrun⟩ := m_bind hrun
  refine mr_put (C := RX0) (T := TX0) (N := 9) (ci := 0) hx hb hts (fun w q => m_ws_in (wi_X0 w q)) tyX0 tyX0_ok nmX0 hown hR hz hS rfl 7 (by decide) (hts _ (m_ws_in wm_0_114)) (fun _ h9 => h9) rfl (tyX0_ok 7 (by decide)) rfl rfl hc9 dX0_readFrom_6 (fun H locs hR hz hS => ?_)
  refine lv_aload_n hx hb dX0_readFrom_9 rfl (lv_at hl 0 rfl) ?_
  refine lv_aload_n hx hb dX0_readFrom_10 rfl (lv_at hl 2 rfl) ?_
  refine lv_iconst (v := 5) hx hb dX0_readFrom_11 (by decide) ?_
  obtain ⟨x12, hc9, hrun⟩ := m_bind hrun
  refine mr_calli (mr_runS (As := [.ref v2, .int 5]) (rest := [.ref v0]) hx hb hml hown hts (c_X1_at l D ids st z hc9) yk_X1_at ys_X1_at wm_0_194 ⟨(Nat.le_of_ble_eq_true rfl), (Nat.le_of_ble_eq_true rfl)⟩ (mr_recvS hR hE hz hS hA) hl.1 rfl (Nat.le_of_ble_eq_true rfl) dX0_readFrom_12 ⟨(Nat.le_of_ble_eq_true rfl), (Nat.le_of_ble_eq_true rfl)⟩) hR hz hS hA (fun H locs hR hz hS => ?_)
  obtain ⟨h15, hc9, hrun⟩ := m_bind hrun
  refine mr_put (C := RX0) (T := TX0) (N := 9) (ci := 0) hx hb hts (fun w q => m_ws_in (wi_X0 w q)) tyX0 tyX0_ok nmX0 hown hR hz hS rfl 8 (by decide) (hts _ (m_ws_in wm_0_115)) (fun _ h9 => h9) rfl (tyX0_ok 8 (by decide)) rfl rfl hc9 dX0_readFrom_15 (fun H locs hR hz hS => ?_)
  refine lv_aload_n hx hb dX0_readFrom_18 rfl (lv_at hl 0 rfl) ?_
  refine lv_aload_n hx hb dX0_readFrom_19 rfl (lv_at hl 1 rfl) ?_
  refine lv_aload_n hx hb dX0_readFrom_20 rfl (lv_at hl 2 rfl) ?_
  refine lv_iconst (v := 3) hx hb dX0_readFrom_21 (by decide) ?_
  obtain ⟨x22, hc9, hrun⟩ := m_bind hrun
  refine mr_calli (mr_runS (As := [.ref v2, .int 3]) (rest := [.ref v1, .ref v0]) hx hb hml hown hts (c_X1_at l D ids st z hc9) yk_X1_at ys_X1_at wm_0_194 ⟨(Nat.le_of_ble_eq_true rfl), (Nat.le_of_ble_eq_true rfl)⟩ (mr_recvS hR hE hz hS hA) hl.1 rfl (Nat.le_of_ble_eq_true rfl) dX0_readFrom_22 ⟨(Nat.le_of_ble_eq_true rfl), (Nat.le_of_ble_eq_true rfl)⟩) hR hz hS hA (fun H locs hR hz hS => ?_)
  obtain ⟨_, ho9, hrun⟩ := m_bind hrun
  obtain ⟨fs9, ho9⟩ := m_is_spec ho9
  obtain ⟨h25, hc9, hrun⟩ := m_bind hrun
  refine mr_callv (mr_runV (As := [.ref v1, .int x22]) (rest := []) hx hb hml hown hts (c_X0_findMates l D ids st z hc9) yk_X0_findMates ys_X0_findMates wm_0_197 ⟨(Nat.le_of_ble_eq_true rfl), (Nat.le_of_ble_eq_true rfl)⟩ (mr_recv (ci := 0) hR hE hz hS hA rfl ho9) hl.1 rfl (Nat.le_of_ble_eq_true rfl) dX0_readFrom_25 ⟨(Nat.le_of_ble_eq_true rfl), (Nat.le_of_ble_eq_true rfl)⟩) hR hz hS hA (fun H locs hR hz hS => ?_)
  refine lv_aload_n hx hb dX0_readFrom_28 rfl (lv_at hl 0 rfl) ?_
  refine lv_aload_n hx hb dX0_readFrom_29 rfl (lv_at hl 1 rfl) ?_
  refine lv_aload_n hx hb dX0_readFrom_30 rfl (lv_at hl 2 rfl) ?_
  obtain ⟨_, ho9, hrun⟩ := m_bind hrun
  obtain ⟨fs9, ho9⟩ := m_is_spec ho9
  obtain ⟨h31, hc9, hrun⟩ := m_bind hrun
  refine mr_callv (mr_runV (As := [.ref v1, .ref v2]) (rest := []) hx hb hml hown hts (c_X0_findFares l D ids st z hc9) yk_X0_findFares ys_X0_findFares wm_0_225 ⟨(Nat.le_of_ble_eq_true rfl), (Nat.le_of_ble_eq_true rfl)⟩ (mr_recv (ci := 0) hR hE hz hS hA rfl ho9) hl.1 rfl (Nat.le_of_ble_eq_true rfl) dX0_readFrom_31 ⟨(Nat.le_of_ble_eq_true rfl), (Nat.le_of_ble_eq_true rfl)⟩) hR hz hS hA (fun H locs hR hz hS => ?_)
  refine lv_aload_n hx hb dX0_readFrom_34 rfl (lv_at hl 0 rfl) ?_
  refine lv_aload_n hx hb dX0_readFrom_35 rfl (lv_at hl 1 rfl) ?_
  obtain ⟨_, ho9, hrun⟩ := m_bind hrun
  obtain ⟨fs9, ho9⟩ := m_is_spec ho9
  obtain ⟨h36, hc9, hrun⟩ := m_bind hrun
  refine mr_callv (mr_runV (As := [.ref v1]) (rest := []) hx hb hml hown hts (c_X0_addUp l D ids st z hc9) yk_X0_addUp ys_X0_addUp wm_0_238 ⟨(Nat.le_of_ble_eq_true rfl), (Nat.le_of_ble_eq_true rfl)⟩ (mr_recv (ci := 0) hR hE hz hS hA rfl ho9) hl.1 rfl (Nat.le_of_ble_eq_true rfl) dX0_readFrom_36 ⟨(Nat.le_of_ble_eq_true rfl), (Nat.le_of_ble_eq_true rfl)⟩) hR hz hS hA (fun H locs hR hz hS => ?_)
  obtain rfl := Option.some.inj hrun
  exact mr_vret hx hb hr hlocks hR hz hS dX0_readFrom_39
/-! X7_tryTap -/
abbrev rm_X7_tryTap : Room := { frames := 4, cells := 0, slots := 0, locals := 91 }
theorem yk_X7_tryTap : m_K yX7_tryTap cX7_tryTap 3 (some .int) 1 := ⟨wm_1_184, wm_0_1, by decide +kernel⟩
theorem ys_X7_tryTap : Cond.instanceMethod yX7_tryTap ∈ wT ∧ Cond.selects RX7 yX7_tryTap yX7_tryTap ∈ wT := ⟨wm_1_183, wp_1_0⟩
set_option maxRecDepth 100000 in
set_option maxHeartbeats 4000000 in
theorem c_X7_tryTap (l : Launch) (D : va_G) (ids : m_I3) (st : m_T) (z : Nat) {h : mH} {v0 : Nat} {v1 : Int32} {r : Int32} {hF : mH} (hrun : s_X7_tryTap h v0 v1 = some (r, hF)) : Met l yX7_tryTap (m_ws yX7_tryTap cX7_tryTap 3 (some .int)) rm_X7_tryTap (mPc D ids st [.ref v0, .int v1] h z) (mQi D ids (m_A h z) r hF z) rm_X7_tryTap.cells rm_X7_tryTap.slots (m_A h z) := by
  refine mr_of (cc := cX7_tryTap) (maxL := 3) (ret := some .int) (by decide) rfl (Nat.le_of_ble_eq_true rfl) ?_
  intro p e s m below meth c ls hx hb hr hml hown hts hlocks hin hR hE hz hl
  have hA : ∀ q, s.heap.size ≤ q → m_A h z q := fun q hq => Or.inr (by rw [← hz]; exact hq)
  have hS : va_S (m_A h z) s.heap s.heap [] := va_S.rf
  have hl : lv_has ls 3 [(0, .ref v0), (1, .int v1)] := hl
  unfold s_X7_tryTap at hrun
  refine lv_aload_n hx hb dX7_tryTap_0 rfl (lv_at hl 0 rfl) ?_
  obtain ⟨x1, hc9, hrun⟩ := m_bind hrun
  refine mr_get (C := RX7) (T := TX7) (N := 8) (ci := 5) hx hb hts (fun w q => m_ws_in (wi_X7 w q)) hown hR rfl 3 (by decide) (hts _ (m_ws_in wm_1_14)) (fun _ h9 => h9) (m_gr_spec hc9) dX7_tryTap_1 ?_
  refine lv_aload_n hx hb dX7_tryTap_4 rfl (lv_at hl 0 rfl) ?_
  obtain ⟨x5, hc9, hrun⟩ := m_bind hrun
  refine mr_get (C := RX7) (T := TX7) (N := 8) (ci := 5) hx hb hts (fun w q => m_ws_in (wi_X7 w q)) hown hR rfl 0 (by decide) (hts _ (m_ws_in wm_1_11)) (fun _ h9 => h9) (m_gr_spec hc9) dX7_tryTap_5 ?_
  obtain ⟨x8, hc9, hrun⟩ := m_bind hrun
  refine mr_getN (C := RX3) (T := TX3) (N := 10) (ci := 2) hx hb hts (fun w q => m_ws_in (wi_X3 w q)) hown hR rfl 0 (by decide) (hE.nf (i := 3) rfl) (fun _ h9 => h9) (m_gr_spec hc9) dX7_tryTap_8 ?_
  obtain ⟨_, ho9, hrun⟩ := m_bind hrun
  obtain ⟨fs9, ho9⟩ := m_is_spec ho9
  obtain ⟨h11, hc9, hrun⟩ := m_bind hrun
  refine mr_callv (mr_runV (As := [.ref x8]) (rest := []) hx hb hml hown hts (c_X5_copyFrom l D ids st z hc9) yk_X5_copyFrom ys_X5_copyFrom wm_1_185 ⟨(Nat.le_of_ble_eq_true rfl), (Nat.le_of_ble_eq_true rfl)⟩ (mr_recv (ci := 3) hR hE hz hS hA rfl ho9) hl.1 rfl (Nat.le_of_ble_eq_true rfl) dX7_tryTap_11 ⟨(Nat.le_of_ble_eq_true rfl), (Nat.le_of_ble_eq_true rfl)⟩) hR hz hS hA (fun H locs hR hz hS => ?_)
  refine lv_aload_n hx hb dX7_tryTap_14 rfl (lv_at hl 0 rfl) ?_
  obtain ⟨x15, hc9, hrun⟩ := m_bind hrun
  refine mr_get (C := RX7) (T := TX7) (N := 8) (ci := 5) hx hb hts (fun w q => m_ws_in (wi_X7 w q)) hown hR rfl 3 (by decide) (hts _ (m_ws_in wm_1_14)) (fun _ h9 => h9) (m_gr_spec hc9) dX7_tryTap_15 ?_
  refine lv_iload_n hx hb dX7_tryTap_18 rfl (lv_at hl 1 rfl) ?_
  obtain ⟨_, ho9, hrun⟩ := m_bind hrun
  obtain ⟨fs9, ho9⟩ := m_is_spec ho9
  obtain ⟨⟨x19, h19⟩, hc9, hrun⟩ := m_bind hrun
  refine mr_calli (mr_runV (As := [.int v1]) (rest := []) hx hb hml hown hts (c_X5_insert l D ids st z hc9) yk_X5_insert ys_X5_insert wm_1_190 ⟨(Nat.le_of_ble_eq_true rfl), (Nat.le_of_ble_eq_true rfl)⟩ (mr_recv (ci := 3) hR hE hz hS hA rfl ho9) hl.1 rfl (Nat.le_of_ble_eq_true rfl) dX7_tryTap_19 ⟨(Nat.le_of_ble_eq_true rfl), (Nat.le_of_ble_eq_true rfl)⟩) hR hz hS hA (fun H locs hR hz hS => ?_)
  refine lv_istore_n (lv' := [(2, .int x19), (0, .ref v0), (1, .int v1)]) hx hb dX7_tryTap_22 rfl hl (by decide) rfl (fun ls hl => ?_)
  refine lv_aload_n hx hb dX7_tryTap_23 rfl (lv_at hl 1 rfl) ?_
  obtain ⟨x24, hc9, hrun⟩ := m_bind hrun
  refine mr_get (C := RX7) (T := TX7) (N := 8) (ci := 5) hx hb hts (fun w q => m_ws_in (wi_X7 w q)) hown hR rfl 4 (by decide) (hts _ (m_ws_in wm_1_15)) (fun _ h9 => h9) (m_gr_spec hc9) dX7_tryTap_24 ?_
  refine lv_aload_n hx hb dX7_tryTap_27 rfl (lv_at hl 1 rfl) ?_
  obtain ⟨x28, hc9, hrun⟩ := m_bind hrun
  refine mr_get (C := RX7) (T := TX7) (N := 8) (ci := 5) hx hb hts (fun w q => m_ws_in (wi_X7 w q)) hown hR rfl 3 (by decide) (hts _ (m_ws_in wm_1_14)) (fun _ h9 => h9) (m_gr_spec hc9) dX7_tryTap_28 ?_
  refine lv_aload_n hx hb dX7_tryTap_31 rfl (lv_at hl 1 rfl) ?_
  obtain ⟨x32, hc9, hrun⟩ := m_bind hrun
  refine mr_get (C := RX7) (T := TX7) (N := 8) (ci := 5) hx hb hts (fun w q => m_ws_in (wi_X7 w q)) hown hR rfl 0 (by decide) (hts _ (m_ws_in wm_1_11)) (fun _ h9 => h9) (m_gr_spec hc9) dX7_tryTap_32 ?_
  obtain ⟨x35, hc9, hrun⟩ := m_bind hrun
  refine mr_getN (C := RX3) (T := TX3) (N := 10) (ci := 2) hx hb hts (fun w q => m_ws_in (wi_X3 w q)) hown hR rfl 1 (by decide) (hE.nf (i := 4) rfl) (fun _ h9 => h9) (m_gr_spec hc9) dX7_tryTap_35 ?_
  obtain ⟨_, ho9, hrun⟩ := m_bind hrun
  obtain ⟨fs9, ho9⟩ := m_is_spec ho9
  obtain ⟨h38, hc9, hrun⟩ := m_bind hrun
  refine mr_callv (mr_runV (As := [.ref x28, .ref x35]) (rest := []) hx hb hml hown hts (c_X0_readFrom l D ids st z hc9) yk_X0_readFrom ys_X0_readFrom wm_0_190 ⟨(Nat.le_of_ble_eq_true rfl), (Nat.le_of_ble_eq_true rfl)⟩ (mr_recv (ci := 0) hR hE hz hS hA rfl ho9) hl.1 rfl (Nat.le_of_ble_eq_true rfl) dX7_tryTap_38 ⟨(Nat.le_of_ble_eq_true rfl), (Nat.le_of_ble_eq_true rfl)⟩) hR hz hS hA (fun H locs hR hz hS => ?_)
  refine lv_iload_n hx hb dX7_tryTap_41 rfl (lv_at hl 0 rfl) ?_
  obtain ⟨rfl, rfl⟩ := Prod.mk.inj (Option.some.inj hrun)
  exact mr_iret hx hb hr hlocks hR hz hS dX7_tryTap_42
/-! X4_weekOf -/
abbrev rm_X4_weekOf : Room := { frames := 1, cells := 0, slots := 0, locals := 20 }
theorem yk_X4_weekOf : m_K yX4_weekOf cX4_weekOf 1 (some .int) 1 := ⟨wm_1_201, wm_0_8, by decide +kernel⟩
theorem ys_X4_weekOf : Cond.static yX4_weekOf ∈ wT := wm_1_200
set_option maxRecDepth 100000 in
set_option maxHeartbeats 4000000 in
theorem c_X4_weekOf (l : Launch) (D : va_G) (ids : m_I3) (st : m_T) (z : Nat) {h : mH} {v0 : Int32} {r : Int32} (hrun : s_X4_weekOf h v0 = some r) : Met l yX4_weekOf (m_ws yX4_weekOf cX4_weekOf 1 (some .int)) rm_X4_weekOf (mPc D ids st [.int v0] h z) (mQi D ids (m_A h z) r h z) rm_X4_weekOf.cells rm_X4_weekOf.slots (m_A h z) := by
  refine mr_of (cc := cX4_weekOf) (maxL := 1) (ret := some .int) (by decide) rfl (Nat.le_of_ble_eq_true rfl) ?_
  intro p e s m below meth c ls hx hb hr hml hown hts hlocks hin hR hE hz hl
  have hA : ∀ q, s.heap.size ≤ q → m_A h z q := fun q hq => Or.inr (by rw [← hz]; exact hq)
  have hS : va_S (m_A h z) s.heap s.heap [] := va_S.rf
  have hl : lv_has ls 1 [(0, .int v0)] := hl
  unfold s_X4_weekOf at hrun
  refine lv_iload_n hx hb dX4_weekOf_0 rfl (lv_at hl 0 rfl) ?_
  obtain ⟨x1, hc9, hrun⟩ := m_bind hrun
  refine mr_calli (mr_runS (As := [.int v0]) (rest := []) hx hb hml hown hts (c_X4_dayOf l D ids st z hc9) yk_X4_dayOf ys_X4_dayOf wm_1_202 ⟨(Nat.le_of_ble_eq_true rfl), (Nat.le_of_ble_eq_true rfl)⟩ (mr_recvS hR hE hz hS hA) hl.1 rfl (Nat.le_of_ble_eq_true rfl) dX4_weekOf_1 ⟨(Nat.le_of_ble_eq_true rfl), (Nat.le_of_ble_eq_true rfl)⟩) hR hz hS hA (fun H locs hR hz hS => ?_)
  refine lv_bipush (v := 7) hx hb dX4_weekOf_4 (by decide) ?_
  obtain ⟨x6, hc9, hrun⟩ := m_bind hrun
  obtain ⟨hn9, rfl⟩ := m_div_spec hc9
  refine lv_idiv hx hb dX4_weekOf_6 hn9 ?_
  refine lv_topi (fun x6 ex6 => ?_)
  try rw [← ex6] at hrun
  obtain rfl := Option.some.inj hrun
  exact mr_iret hx hb hr hlocks hR hz hS dX4_weekOf_7
/-! X7_raisedChange -/
abbrev rm_X7_raisedChange : Room := { frames := 5, cells := 0, slots := 0, locals := 113 }
theorem yk_X7_raisedChange : m_K yX7_raisedChange cX7_raisedChange 4 (some .int) 1 := ⟨wm_1_180, wm_0_1, by decide +kernel⟩
theorem ys_X7_raisedChange : Cond.instanceMethod yX7_raisedChange ∈ wT ∧ Cond.selects RX7 yX7_raisedChange yX7_raisedChange ∈ wT := ⟨wm_1_179, wp_0_15⟩
set_option maxRecDepth 100000 in
set_option maxHeartbeats 4000000 in
theorem c_X7_raisedChange (l : Launch) (D : va_G) (ids : m_I3) (st : m_T) (z : Nat) {h : mH} {v0 : Nat} {v1 : Int32} {r : Int32} {hF : mH} (hrun : s_X7_raisedChange h v0 v1 = some (r, hF)) : Met l yX7_raisedChange (m_ws yX7_raisedChange cX7_raisedChange 4 (some .int)) rm_X7_raisedChange (mPc D ids st [.ref v0, .int v1] h z) (mQi D ids (m_A h z) r hF z) rm_X7_raisedChange.cells rm_X7_raisedChange.slots (m_A h z) := by
  refine mr_of (cc := cX7_raisedChange) (maxL := 4) (ret := some .int) (by decide) rfl (Nat.le_of_ble_eq_true rfl) ?_
  intro p e s m below meth c ls hx hb hr hml hown hts hlocks hin hR hE hz hl
  have hA : ∀ q, s.heap.size ≤ q → m_A h z q := fun q hq => Or.inr (by rw [← hz]; exact hq)
  have hS : va_S (m_A h z) s.heap s.heap [] := va_S.rf
  have hl : lv_has ls 4 [(0, .ref v0), (1, .int v1)] := hl
  unfold s_X7_raisedChange at hrun
  refine lv_aload_n hx hb dX7_raisedChange_0 rfl (lv_at hl 0 rfl) ?_
  refine lv_iload_n hx hb dX7_raisedChange_1 rfl (lv_at hl 1 rfl) ?_
  obtain ⟨_, ho9, hrun⟩ := m_bind hrun
  obtain ⟨fs9, ho9⟩ := m_is_spec ho9
  obtain ⟨⟨x2, h2⟩, hc9, hrun⟩ := m_bind hrun
  refine mr_calli (mr_runV (As := [.int v1]) (rest := []) hx hb hml hown hts (c_X7_tryTap l D ids st z hc9) yk_X7_tryTap ys_X7_tryTap wm_1_181 ⟨(Nat.le_of_ble_eq_true rfl), (Nat.le_of_ble_eq_true rfl)⟩ (mr_recv (ci := 5) hR hE hz hS hA rfl ho9) hl.1 rfl (Nat.le_of_ble_eq_true rfl) dX7_raisedChange_2 ⟨(Nat.le_of_ble_eq_true rfl), (Nat.le_of_ble_eq_true rfl)⟩) hR hz hS hA (fun H locs hR hz hS => ?_)
  refine lv_pop hx hb dX7_raisedChange_5 rfl ?_
  refine lv_iload_n hx hb dX7_raisedChange_6 rfl (lv_at hl 1 rfl) ?_
  obtain ⟨x7, hc9, hrun⟩ := m_bind hrun
  refine mr_calli (mr_runS (As := [.int v1]) (rest := []) hx hb hml hown hts (c_X4_walletOf l D ids st z hc9) yk_X4_walletOf ys_X4_walletOf wm_1_143 ⟨(Nat.le_of_ble_eq_true rfl), (Nat.le_of_ble_eq_true rfl)⟩ (mr_recvS hR hE hz hS hA) hl.1 rfl (Nat.le_of_ble_eq_true rfl) dX7_raisedChange_7 ⟨(Nat.le_of_ble_eq_true rfl), (Nat.le_of_ble_eq_true rfl)⟩) hR hz hS hA (fun H locs hR hz hS => ?_)
  refine lv_istore_n (lv' := [(2, .int x7), (0, .ref v0), (1, .int v1)]) hx hb dX7_raisedChange_10 rfl hl (by decide) rfl (fun ls hl => ?_)
  refine lv_iload_n hx hb dX7_raisedChange_11 rfl (lv_at hl 2 rfl) ?_
  obtain ⟨x12, hc9, hrun⟩ := m_bind hrun
  refine mr_calli (mr_runS (As := [.int v1]) (rest := []) hx hb hml hown hts (c_X4_weekOf l D ids st z hc9) yk_X4_weekOf ys_X4_weekOf wm_1_199 ⟨(Nat.le_of_ble_eq_true rfl), (Nat.le_of_ble_eq_true rfl)⟩ (mr_recvS hR hE hz hS hA) hl.1 rfl (Nat.le_of_ble_eq_true rfl) dX7_raisedChange_12 ⟨(Nat.le_of_ble_eq_true rfl), (Nat.le_of_ble_eq_true rfl)⟩) hR hz hS hA (fun H locs hR hz hS => ?_)
  refine lv_istore_n (lv' := [(3, .int x12), (2, .int x7), (0, .ref v0), (1, .int v1)]) hx hb dX7_raisedChange_15 rfl hl (by decide) rfl (fun ls hl => ?_)
  refine lv_aload_n hx hb dX7_raisedChange_16 rfl (lv_at hl 2 rfl) ?_
  obtain ⟨x17, hc9, hrun⟩ := m_bind hrun
  refine mr_get (C := RX7) (T := TX7) (N := 8) (ci := 5) hx hb hts (fun w q => m_ws_in (wi_X7 w q)) hown hR rfl 4 (by decide) (hts _ (m_ws_in wm_1_15)) (fun _ h9 => h9) (m_gr_spec hc9) dX7_raisedChange_17 ?_
  refine lv_iload_n hx hb dX7_raisedChange_20 rfl (lv_at hl 1 rfl) ?_
  refine lv_iload_n hx hb dX7_raisedChange_21 rfl (lv_at hl 0 rfl) ?_
  obtain ⟨_, ho9, hrun⟩ := m_bind hrun
  obtain ⟨fs9, ho9⟩ := m_is_spec ho9
  obtain ⟨x22, hc9, hrun⟩ := m_bind hrun
  refine mr_calli (mr_runV (As := [.int x7, .int x12]) (rest := []) hx hb hml hown hts (c_X0_weekCost l D ids st z hc9) yk_X0_weekCost ys_X0_weekCost wm_1_85 ⟨(Nat.le_of_ble_eq_true rfl), (Nat.le_of_ble_eq_true rfl)⟩ (mr_recv (ci := 0) hR hE hz hS hA rfl ho9) hl.1 rfl (Nat.le_of_ble_eq_true rfl) dX7_raisedChange_22 ⟨(Nat.le_of_ble_eq_true rfl), (Nat.le_of_ble_eq_true rfl)⟩) hR hz hS hA (fun H locs hR hz hS => ?_)
  refine lv_aload_n hx hb dX7_raisedChange_25 rfl (lv_at hl 2 rfl) ?_
  obtain ⟨x26, hc9, hrun⟩ := m_bind hrun
  refine mr_get (C := RX7) (T := TX7) (N := 8) (ci := 5) hx hb hts (fun w q => m_ws_in (wi_X7 w q)) hown hR rfl 1 (by decide) (hts _ (m_ws_in wm_1_12)) (fun _ h9 => h9) (m_gr_spec hc9) dX7_raisedChange_26 ?_
  refine lv_iload_n hx hb dX7_raisedChange_29 rfl (lv_at hl 1 rfl) ?_
  refine lv_iload_n hx hb dX7_raisedChange_30 rfl (lv_at hl 0 rfl) ?_
  obtain ⟨_, ho9, hrun⟩ := m_bind hrun
  obtain ⟨fs9, ho9⟩ := m_is_spec ho9
  obtain ⟨x31, hc9, hrun⟩ := m_bind hrun
  refine mr_calli (mr_runV (As := [.int x7, .int x12]) (rest := [.int x22]) hx hb hml hown hts (c_X0_weekCost l D ids st z hc9) yk_X0_weekCost ys_X0_weekCost wm_1_85 ⟨(Nat.le_of_ble_eq_true rfl), (Nat.le_of_ble_eq_true rfl)⟩ (mr_recv (ci := 0) hR hE hz hS hA rfl ho9) hl.1 rfl (Nat.le_of_ble_eq_true rfl) dX7_raisedChange_31 ⟨(Nat.le_of_ble_eq_true rfl), (Nat.le_of_ble_eq_true rfl)⟩) hR hz hS hA (fun H locs hR hz hS => ?_)
  refine lv_isub hx hb dX7_raisedChange_34 ?_
  refine lv_ldc (v := 100000) hx hb hown (hts _ (m_ws_in wm_1_203)) dX7_raisedChange_35 ?_
  refine lv_iadd hx hb dX7_raisedChange_37 ?_
  obtain ⟨rfl, rfl⟩ := Prod.mk.inj (Option.some.inj hrun)
  exact mr_iret hx hb hr hlocks hR hz hS dX7_raisedChange_38
/-! X7_ifTapped -/
abbrev rm_X7_ifTapped : Room := { frames := 6, cells := 1, slots := 6, locals := 136 }
theorem yk_X7_ifTapped : m_K yX7_ifTapped cX7_ifTapped 6 (some .int) 5 := ⟨wm_3_19, wm_0_1, by decide +kernel⟩
theorem ys_X7_ifTapped : Cond.instanceMethod yX7_ifTapped ∈ wT ∧ Cond.selects RX7 yX7_ifTapped yX7_ifTapped ∈ wT := ⟨wm_3_17, wm_3_18⟩
set_option maxRecDepth 100000 in
set_option maxHeartbeats 4000000 in
theorem k_X7_ifTapped_b17 {p : Program} {l : Launch} {e : Env} {s : State} {m : MethodId} {args : Array Value} {below : List Frame} {meth : Method} {c : Code} {D : va_G} {ids : m_I3} {st : m_T} {A : Nat → Prop} {z : Nat} {r : (String ⊕ Int32)} {hF : mH} (hx : p.tables.exec = Jvm.exec) (hb : c.code = cX7_ifTapped) (hr : meth.sig.returnType = some .int) (hml : c.maxLocals = 6) (hown : s.vm.findClass RX7 = some m.cls) (hts : ∀ w ∈ (m_ws yX7_ifTapped cX7_ifTapped 6 (some .int)), w.before args s = true) (hlocks : meth.locks = false) (hin : meth.name = yX7_ifTapped.name) (hE : m_EV st A s s.heap) (hA : ∀ q, s.heap.size ≤ q → A q) (hfl : l.stackTraces = false) (hout : ∀ x ∈ c.exceptionTable.toList, ∀ q, covers x q = false) (h : mH) (H : Heap) (locs : List Loc) (ls : Array Slot) (hrun : s_X7_ifTapped_b17 h = some (r, hF)) (hR : Rl D ids A h s H) (hz : H.size = z) (hS : va_S A s.heap H locs) (hl : lv_has ls 6 []) : W p l e rm_X7_ifTapped s m args below meth c H locs 0 0 (vx_MQ below (mQxi D ids A r hF) (mXx D ids A r hF) args s 1 6 A) (F0 m 17 ls []) := by
  unfold s_X7_ifTapped_b17 at hrun
  obtain ⟨rfl, rfl⟩ := Prod.mk.inj (Option.some.inj hrun)
  exact mr_throw (text := "an argument is out of range") hx hb hfl hown hts hml hE yt_72 (List.mem_of_getElem? (i := 0) rfl) hR hS hl.1 dX7_ifTapped_17 dX7_ifTapped_20 dX7_ifTapped_21 dX7_ifTapped_23 dX7_ifTapped_26 hout hlocks (Nat.le_of_ble_eq_true rfl) (Nat.le_of_ble_eq_true rfl) (Nat.le_of_ble_eq_true rfl) (Nat.le_of_ble_eq_true rfl) (Nat.le_of_ble_eq_true rfl) (Nat.le_of_ble_eq_true rfl)
set_option maxRecDepth 100000 in
set_option maxHeartbeats 4000000 in
theorem c_X7_ifTapped (l : Launch) (hfl : l.stackTraces = false) (D : va_G) (ids : m_I3) (st : m_T) (z : Nat) {h : mH} {v0 : Nat} {v1 : Int32} {v2 : Int32} {v3 : Int32} {v4 : Int32} {v5 : Int32} {r : (String ⊕ Int32)} {hF : mH} (hrun : s_X7_ifTapped h v0 v1 v2 v3 v4 v5 = some (r, hF)) : vx_Met l yX7_ifTapped (m_ws yX7_ifTapped cX7_ifTapped 6 (some .int)) rm_X7_ifTapped (mPc D ids st [.ref v0, .int v1, .int v2, .int v3, .int v4, .int v5] h z) (mQxi D ids (m_A h z) r hF) (mXx D ids (m_A h z) r hF) rm_X7_ifTapped.cells rm_X7_ifTapped.slots (m_A h z) := by
  refine mrx_of (cc := cX7_ifTapped) (maxL := 6) (ret := some .int) (by decide) rfl (Nat.le_of_ble_eq_true rfl) ?_
  intro p e s m below meth c ls hx hb hr hml hown hts hlocks hin hout hR hE hz hl
  have hA : ∀ q, s.heap.size ≤ q → m_A h z q := fun q hq => Or.inr (by rw [← hz]; exact hq)
  have hS : va_S (m_A h z) s.heap s.heap [] := va_S.rf
  have hl : lv_has ls 6 [(0, .ref v0), (1, .int v1), (2, .int v2), (3, .int v3), (4, .int v4), (5, .int v5)] := hl
  unfold s_X7_ifTapped at hrun
  refine lv_iload_n hx hb dX7_ifTapped_0 rfl (lv_at hl 1 rfl) ?_
  refine lv_iload_n hx hb dX7_ifTapped_1 rfl (lv_at hl 2 rfl) ?_
  obtain ⟨x2, hc9, hrun⟩ := m_bind hrun
  refine mr_calli (mr_runS (As := [.int v1, .int v2]) (rest := []) hx hb hml hown hts (c_X7_isWalletDay l D ids st z hc9) yk_X7_isWalletDay ys_X7_isWalletDay wm_1_222 ⟨(Nat.le_of_ble_eq_true rfl), (Nat.le_of_ble_eq_true rfl)⟩ (mr_recvS hR hE hz hS hA) hl.1 rfl (Nat.le_of_ble_eq_true rfl) dX7_ifTapped_2 ⟨(Nat.le_of_ble_eq_true rfl), (Nat.le_of_ble_eq_true rfl)⟩) hR hz hS hA (fun H locs hR hz hS => ?_)
  refine lv_if_eq (tgt := 17) hx hb dX7_ifTapped_5 (by decide) (fun hc => ?_) (fun hc => ?_)
  · have hrun := mt_t hrun hc
    exact k_X7_ifTapped_b17 hx hb hr hml hown hts hlocks hin hE hA hfl hout _ _ _ _ hrun hR hz hS (lv_sub hl [] rfl)
  · have hrun := mt_f hrun hc
    refine lv_iload_n hx hb dX7_ifTapped_8 rfl (lv_at hl 3 rfl) ?_
    refine lv_iload hx hb dX7_ifTapped_9 (lv_at hl 4 rfl) ?_
    obtain ⟨x11, hc9, hrun⟩ := m_bind hrun
    refine mr_calli (mr_runS (As := [.int v3, .int v4]) (rest := []) hx hb hml hown hts (c_X7_isMinuteStation l D ids st z hc9) yk_X7_isMinuteStation ys_X7_isMinuteStation wm_1_226 ⟨(Nat.le_of_ble_eq_true rfl), (Nat.le_of_ble_eq_true rfl)⟩ (mr_recvS hR hE hz hS hA) hl.1 rfl (Nat.le_of_ble_eq_true rfl) dX7_ifTapped_11 ⟨(Nat.le_of_ble_eq_true rfl), (Nat.le_of_ble_eq_true rfl)⟩) hR hz hS hA (fun H locs hR hz hS => ?_)
    refine lv_if_ne (tgt := 27) hx hb dX7_ifTapped_14 (by decide) (fun hc => ?_) (fun hc => ?_)
    · have hrun := mt_f hrun hc
      refine lv_aload_n hx hb dX7_ifTapped_27 rfl (lv_at hl 0 rfl) ?_
      refine lv_iload_n hx hb dX7_ifTapped_28 rfl (lv_at hl 1 rfl) ?_
      refine lv_iload_n hx hb dX7_ifTapped_29 rfl (lv_at hl 2 rfl) ?_
      refine lv_iload_n hx hb dX7_ifTapped_30 rfl (lv_at hl 3 rfl) ?_
      refine lv_iload hx hb dX7_ifTapped_31 (lv_at hl 4 rfl) ?_
      refine lv_iload hx hb dX7_ifTapped_33 (lv_at hl 5 rfl) ?_
      obtain ⟨x35, hc9, hrun⟩ := m_bind hrun
      refine mr_calli (mr_runS (As := [.int v1, .int v2, .int v3, .int v4, .int v5]) (rest := [.ref v0]) hx hb hml hown hts (c_X4_make l D ids st z hc9) yk_X4_make ys_X4_make wm_1_176 ⟨(Nat.le_of_ble_eq_true rfl), (Nat.le_of_ble_eq_true rfl)⟩ (mr_recvS hR hE hz hS hA) hl.1 rfl (Nat.le_of_ble_eq_true rfl) dX7_ifTapped_35 ⟨(Nat.le_of_ble_eq_true rfl), (Nat.le_of_ble_eq_true rfl)⟩) hR hz hS hA (fun H locs hR hz hS => ?_)
      obtain ⟨_, ho9, hrun⟩ := m_bind hrun
      obtain ⟨fs9, ho9⟩ := m_is_spec ho9
      obtain ⟨⟨x38, h38⟩, hc9, hrun⟩ := m_bind hrun
      refine mr_calli (mr_runV (As := [.int x35]) (rest := []) hx hb hml hown hts (c_X7_raisedChange l D ids st z hc9) yk_X7_raisedChange ys_X7_raisedChange wm_1_177 ⟨(Nat.le_of_ble_eq_true rfl), (Nat.le_of_ble_eq_true rfl)⟩ (mr_recv (ci := 5) hR hE hz hS hA rfl ho9) hl.1 rfl (Nat.le_of_ble_eq_true rfl) dX7_ifTapped_38 ⟨(Nat.le_of_ble_eq_true rfl), (Nat.le_of_ble_eq_true rfl)⟩) hR hz hS hA (fun H locs hR hz hS => ?_)
      obtain ⟨rfl, rfl⟩ := Prod.mk.inj (Option.some.inj hrun)
      exact mrx_iret hx hb hr hlocks hR hS dX7_ifTapped_41 (Nat.le_of_ble_eq_true rfl) (Nat.le_of_ble_eq_true rfl)
    · have hrun := mt_t hrun hc
      exact k_X7_ifTapped_b17 hx hb hr hml hown hts hlocks hin hE hA hfl hout _ _ _ _ hrun hR hz hS (lv_sub hl [] rfl)
/-! L_ifTapped -/
abbrev rm_L_ifTapped : Room := { frames := 7, cells := 1, slots := 6, locals := 161 }
theorem yk_L_ifTapped : m_KH yL_ifTapped cL_ifTapped 8 (some .int) [(0, 16, 19, 13)] 7 := ⟨wm_3_15, wm_0_0, by decide +kernel⟩
theorem ys_L_ifTapped : Cond.static yL_ifTapped ∈ wT := wm_3_14
set_option maxRecDepth 100000 in
set_option maxHeartbeats 4000000 in
theorem c_L_ifTapped (l : Launch) (hfl : l.stackTraces = false) (D : va_G) (ids : m_I3) (st : m_T) (z : Nat) {h : mH} {v0 : Nat} {v1 : Int32} {v2 : Int32} {v3 : Int32} {v4 : Int32} {v5 : Int32} {v6 : Nat} {r : Int32} {hF : mH} (hrun : s_L_ifTapped h v0 v1 v2 v3 v4 v5 v6 = some (r, hF)) : Met l yL_ifTapped (m_wsH yL_ifTapped cL_ifTapped 8 (some .int) [(0, 16, 19, 13)]) rm_L_ifTapped (mPc D ids st [.ref v0, .int v1, .int v2, .int v3, .int v4, .int v5, .ref v6] h z) (mQwi D ids (m_A h z) r hF) rm_L_ifTapped.cells rm_L_ifTapped.slots (m_A h z) := by
  refine mr_ofH (cc := cL_ifTapped) (maxL := 8) (ret := some .int) (hh := [(0, 16, 19, 13)]) (by decide) rfl (Nat.le_of_ble_eq_true rfl) ?_
  intro p e s m below meth c ls hx hb hr hml hown hts hlocks hin htab hR hE hz hl
  have hA : ∀ q, s.heap.size ≤ q → m_A h z q := fun q hq => Or.inr (by rw [← hz]; exact hq)
  have hS : va_S (m_A h z) s.heap s.heap [] := va_S.rf
  have hl : lv_has ls 8 [(0, .ref v0), (1, .int v1), (2, .int v2), (3, .int v3), (4, .int v4), (5, .int v5), (6, .ref v6)] := hl
  unfold s_L_ifTapped at hrun
  refine lv_aload hx hb dL_ifTapped_0 (lv_at hl 6 rfl) ?_
  refine lv_iconst (v := 0) hx hb dL_ifTapped_2 (by decide) ?_
  refine lv_aload_n hx hb dL_ifTapped_3 rfl (lv_at hl 0 rfl) ?_
  refine lv_iload_n hx hb dL_ifTapped_4 rfl (lv_at hl 1 rfl) ?_
  refine lv_iload_n hx hb dL_ifTapped_5 rfl (lv_at hl 2 rfl) ?_
  refine lv_iload_n hx hb dL_ifTapped_6 rfl (lv_at hl 3 rfl) ?_
  refine lv_iload hx hb dL_ifTapped_7 (lv_at hl 4 rfl) ?_
  refine lv_iload hx hb dL_ifTapped_9 (lv_at hl 5 rfl) ?_
  obtain ⟨_, ho9, hrun⟩ := m_bind hrun
  obtain ⟨fs9, ho9⟩ := m_is_spec ho9
  obtain ⟨⟨r11, h11⟩, hc9, hrun⟩ := m_bind hrun
  refine mrx_calli (mrx_runV (As := [.int v1, .int v2, .int v3, .int v4, .int v5]) (rest := [.int 0, .ref v6]) hx hb hml hown hts (c_X7_ifTapped l hfl D ids st z hc9) yk_X7_ifTapped ys_X7_ifTapped wm_3_16 ⟨(Nat.le_of_ble_eq_true rfl), (Nat.le_of_ble_eq_true rfl)⟩ (mr_recv (ci := 5) hR hE hz hS hA rfl ho9) hl.1 rfl (Nat.le_of_ble_eq_true rfl) dL_ifTapped_11 ⟨(Nat.le_of_ble_eq_true rfl), (Nat.le_of_ble_eq_true rfl)⟩) hR hz hS hA (fun E9 ce9 q9 H locs hr9 hR hS hce hcv hcl => ?_) (fun x11 H locs hr9 hR hS => ?_)
  · subst hr9
    obtain ⟨z, hz⟩ : ∃ z, H.size = z := ⟨_, rfl⟩
    by_cases hc0 : E9 = "java/lang/IllegalArgumentException"
    · have hrun := mt_t hrun hc0
      rw [hc0] at hcl
      refine mr_catch0 hown htab (by decide) (by decide) (hts _ (List.mem_cons_of_mem _ wm_1_216)) hE.2.2.2.2.2.2.2 (List.mem_of_getElem? (i := 0) rfl) hce hcv hcl ?_
      refine lv_astore (lv' := [(7, .ref q9), (0, .ref v0), (1, .int v1), (2, .int v2), (3, .int v3), (4, .int v4), (5, .int v5), (6, .ref v6)]) hx hb dL_ifTapped_19 hl (by decide) rfl (fun ls hl => ?_)
      refine lv_iconst (v := 1) hx hb dL_ifTapped_21 (by decide) ?_
      obtain ⟨rfl, rfl⟩ := Prod.mk.inj (Option.some.inj hrun)
      exact mrw_iret hx hb hr hlocks hR hS dL_ifTapped_22 (Nat.le_of_ble_eq_true rfl) (Nat.le_of_ble_eq_true rfl)
    have hrun := mt_f hrun hc0
    exact absurd hrun (fun h9 => nomatch h9)
  · subst hr9
    obtain ⟨z, hz⟩ : ∃ z, H.size = z := ⟨_, rfl⟩
    refine lv_i2l (v := x11.toInt64) hx hb dL_ifTapped_14 rfl ?_
    obtain ⟨h15, hc9, hrun⟩ := m_bind hrun
    refine mr_last hx hb hR hz hS hc9 dL_ifTapped_15 (fun H locs hR hz hS => ?_)
    refine lv_goto (tgt := 23) hx hb dL_ifTapped_16 (by decide) ?_
    refine lv_iconst (v := 0) hx hb dL_ifTapped_23 (by decide) ?_
    obtain ⟨rfl, rfl⟩ := Prod.mk.inj (Option.some.inj hrun)
    exact mrw_iret hx hb hr hlocks hR hS dL_ifTapped_24 (Nat.le_of_ble_eq_true rfl) (Nat.le_of_ble_eq_true rfl)
/-! X7_isPlace -/
abbrev rm_X7_isPlace : Room := { frames := 1, cells := 0, slots := 0, locals := 21 }
theorem yk_X7_isPlace : m_K yX7_isPlace cX7_isPlace 2 (some .boolean) 1 := ⟨wm_2_102, wm_0_1, by decide +kernel⟩
theorem ys_X7_isPlace : Cond.instanceMethod yX7_isPlace ∈ wT ∧ Cond.selects RX7 yX7_isPlace yX7_isPlace ∈ wT := ⟨wm_2_101, wp_1_4⟩
set_option maxRecDepth 100000 in
set_option maxHeartbeats 4000000 in
theorem c_X7_isPlace (l : Launch) (D : va_G) (ids : m_I3) (st : m_T) (z : Nat) {h : mH} {v0 : Nat} {v1 : Int32} {r : Int32} (hrun : s_X7_isPlace h v0 v1 = some r) : Met l yX7_isPlace (m_ws yX7_isPlace cX7_isPlace 2 (some .boolean)) rm_X7_isPlace (mPc D ids st [.ref v0, .int v1] h z) (mQi D ids (m_A h z) r h z) rm_X7_isPlace.cells rm_X7_isPlace.slots (m_A h z) := by
  refine mr_of (cc := cX7_isPlace) (maxL := 2) (ret := some .boolean) (by decide) rfl (Nat.le_of_ble_eq_true rfl) ?_
  intro p e s m below meth c ls hx hb hr hml hown hts hlocks hin hR hE hz hl
  have hA : ∀ q, s.heap.size ≤ q → m_A h z q := fun q hq => Or.inr (by rw [← hz]; exact hq)
  have hS : va_S (m_A h z) s.heap s.heap [] := va_S.rf
  have hl : lv_has ls 2 [(0, .ref v0), (1, .int v1)] := hl
  unfold s_X7_isPlace at hrun
  refine lv_iload_n hx hb dX7_isPlace_0 rfl (lv_at hl 1 rfl) ?_
  refine lv_aload_n hx hb dX7_isPlace_1 rfl (lv_at hl 0 rfl) ?_
  obtain ⟨x2, hc9, hrun⟩ := m_bind hrun
  refine mr_get (C := RX7) (T := TX7) (N := 8) (ci := 5) hx hb hts (fun w q => m_ws_in (wi_X7 w q)) hown hR rfl 0 (by decide) (hts _ (m_ws_in wm_1_11)) (fun _ h9 => h9) (m_gr_spec hc9) dX7_isPlace_2 ?_
  obtain ⟨x5, hc9, hrun⟩ := m_bind hrun
  refine mr_getN (C := RX3) (T := TX3) (N := 10) (ci := 2) hx hb hts (fun w q => m_ws_in (wi_X3 w q)) hown hR rfl 0 (by decide) (hE.nf (i := 3) rfl) (fun _ h9 => h9) (m_gr_spec hc9) dX7_isPlace_5 ?_
  obtain ⟨x8, hc9, hrun⟩ := m_bind hrun
  refine mr_getN (C := RX5) (T := TX5) (N := 2) (ci := 3) hx hb hts (fun w q => m_ws_in (wi_X5 w q)) hown hR rfl 1 (by decide) (hE.nf (i := 0) rfl) (fun _ h9 => h9) (m_gi_spec hc9) dX7_isPlace_8 ?_
  obtain ⟨x11, hc9, hrun⟩ := m_bind hrun
  refine mr_calli (mr_runS (As := [.int v1, .int x8]) (rest := []) hx hb hml hown hts (c_X7_isBelow l D ids st z hc9) yk_X7_isBelow ys_X7_isBelow wm_1_225 ⟨(Nat.le_of_ble_eq_true rfl), (Nat.le_of_ble_eq_true rfl)⟩ (mr_recvS hR hE hz hS hA) hl.1 rfl (Nat.le_of_ble_eq_true rfl) dX7_isPlace_11 ⟨(Nat.le_of_ble_eq_true rfl), (Nat.le_of_ble_eq_true rfl)⟩) hR hz hS hA (fun H locs hR hz hS => ?_)
  obtain ⟨w9, hzr, hrun⟩ := m_bind hrun
  obtain rfl := Option.some.inj hrun
  exact mr_zret hzr hx hb hr hlocks hR hz hS dX7_isPlace_14
/-! X4_missingOf -/
abbrev rm_X4_missingOf : Room := { frames := 1, cells := 0, slots := 0, locals := 24 }
theorem yk_X4_missingOf : m_K yX4_missingOf cX4_missingOf 3 (some .int) 3 := ⟨wm_2_137, wm_0_8, by decide +kernel⟩
theorem ys_X4_missingOf : Cond.static yX4_missingOf ∈ wT := wm_2_136
set_option maxRecDepth 100000 in
set_option maxHeartbeats 4000000 in
theorem k_X4_missingOf_b22 {p : Program} {l : Launch} {e : Env} {s : State} {m : MethodId} {args : Array Value} {below : List Frame} {meth : Method} {c : Code} {D : va_G} {ids : m_I3} {st : m_T} {A : Nat → Prop} {z : Nat} {r : Int32} (hx : p.tables.exec = Jvm.exec) (hb : c.code = cX4_missingOf) (hr : meth.sig.returnType = some .int) (hml : c.maxLocals = 3) (hown : s.vm.findClass RX4 = some m.cls) (hts : ∀ w ∈ (m_ws yX4_missingOf cX4_missingOf 3 (some .int)), w.before args s = true) (hlocks : meth.locks = false) (hin : meth.name = yX4_missingOf.name) (hE : m_EV st A s s.heap) (hA : ∀ q, s.heap.size ≤ q → A q) {h : mH} (t0 : Int32) (t1 : Int32) (t2 : Int32) (t3 : Int32) (t4 : Int32) (H : Heap) (locs : List Loc) (ls : Array Slot) (hrun : s_X4_missingOf_b22 h t0 t1 t2 t3 t4 = some r) (hR : Rl D ids A h s H) (hz : H.size = z) (hS : va_S A s.heap H locs) (hl : lv_has ls 3 []) : W p l e rm_X4_missingOf s m args below meth c H locs 0 0 (MQ below (mQi D ids A r h z) args s 0 0 A) (F0 m 22 ls [.int t4, .int t3, .int t2, .int t1, .int t0]) := by
  unfold s_X4_missingOf_b22 at hrun
  obtain ⟨x22, hc9, hrun⟩ := m_bind hrun
  refine mr_calli (mr_runS (As := [.int t0, .int t1, .int t2, .int t3, .int t4]) (rest := []) hx hb hml hown hts (c_X4_make l D ids st z hc9) yk_X4_make ys_X4_make wm_2_140 ⟨(Nat.le_of_ble_eq_true rfl), (Nat.le_of_ble_eq_true rfl)⟩ (mr_recvS hR hE hz hS hA) hl.1 rfl (Nat.le_of_ble_eq_true rfl) dX4_missingOf_22 ⟨(Nat.le_of_ble_eq_true rfl), (Nat.le_of_ble_eq_true rfl)⟩) hR hz hS hA (fun H locs hR hz hS => ?_)
  refine lv_iconst (v := 1) hx hb dX4_missingOf_25 (by decide) ?_
  refine lv_ior hx hb dX4_missingOf_26 ?_
  obtain rfl := Option.some.inj hrun
  exact mr_iret hx hb hr hlocks hR hz hS dX4_missingOf_27
set_option maxRecDepth 100000 in
set_option maxHeartbeats 4000000 in
theorem c_X4_missingOf (l : Launch) (D : va_G) (ids : m_I3) (st : m_T) (z : Nat) {h : mH} {v0 : Int32} {v1 : Int32} {v2 : Int32} {r : Int32} (hrun : s_X4_missingOf h v0 v1 v2 = some r) : Met l yX4_missingOf (m_ws yX4_missingOf cX4_missingOf 3 (some .int)) rm_X4_missingOf (mPc D ids st [.int v0, .int v1, .int v2] h z) (mQi D ids (m_A h z) r h z) rm_X4_missingOf.cells rm_X4_missingOf.slots (m_A h z) := by
  refine mr_of (cc := cX4_missingOf) (maxL := 3) (ret := some .int) (by decide) rfl (Nat.le_of_ble_eq_true rfl) ?_
  intro p e s m below meth c ls hx hb hr hml hown hts hlocks hin hR hE hz hl
  have hA : ∀ q, s.heap.size ≤ q → m_A h z q := fun q hq => Or.inr (by rw [← hz]; exact hq)
  have hS : va_S (m_A h z) s.heap s.heap [] := va_S.rf
  have hl : lv_has ls 3 [(0, .int v0), (1, .int v1), (2, .int v2)] := hl
  unfold s_X4_missingOf at hrun
  refine lv_iload_n hx hb dX4_missingOf_0 rfl (lv_at hl 0 rfl) ?_
  obtain ⟨x1, hc9, hrun⟩ := m_bind hrun
  refine mr_calli (mr_runS (As := [.int v0]) (rest := []) hx hb hml hown hts (c_X4_walletOf l D ids st z hc9) yk_X4_walletOf ys_X4_walletOf wm_2_138 ⟨(Nat.le_of_ble_eq_true rfl), (Nat.le_of_ble_eq_true rfl)⟩ (mr_recvS hR hE hz hS hA) hl.1 rfl (Nat.le_of_ble_eq_true rfl) dX4_missingOf_1 ⟨(Nat.le_of_ble_eq_true rfl), (Nat.le_of_ble_eq_true rfl)⟩) hR hz hS hA (fun H locs hR hz hS => ?_)
  refine lv_iload_n hx hb dX4_missingOf_4 rfl (lv_at hl 0 rfl) ?_
  obtain ⟨x5, hc9, hrun⟩ := m_bind hrun
  refine mr_calli (mr_runS (As := [.int v0]) (rest := [.int x1]) hx hb hml hown hts (c_X4_dayOf l D ids st z hc9) yk_X4_dayOf ys_X4_dayOf wm_1_202 ⟨(Nat.le_of_ble_eq_true rfl), (Nat.le_of_ble_eq_true rfl)⟩ (mr_recvS hR hE hz hS hA) hl.1 rfl (Nat.le_of_ble_eq_true rfl) dX4_missingOf_5 ⟨(Nat.le_of_ble_eq_true rfl), (Nat.le_of_ble_eq_true rfl)⟩) hR hz hS hA (fun H locs hR hz hS => ?_)
  refine lv_iload_n hx hb dX4_missingOf_8 rfl (lv_at hl 1 rfl) ?_
  refine lv_iload_n hx hb dX4_missingOf_9 rfl (lv_at hl 2 rfl) ?_
  refine lv_iload_n hx hb dX4_missingOf_10 rfl (lv_at hl 0 rfl) ?_
  obtain ⟨x11, hc9, hrun⟩ := m_bind hrun
  refine mr_calli (mr_runS (As := [.int v0]) (rest := [.int v2, .int v1, .int x5, .int x1]) hx hb hml hown hts (c_X4_isIn l D ids st z hc9) yk_X4_isIn ys_X4_isIn wm_2_139 ⟨(Nat.le_of_ble_eq_true rfl), (Nat.le_of_ble_eq_true rfl)⟩ (mr_recvS hR hE hz hS hA) hl.1 rfl (Nat.le_of_ble_eq_true rfl) dX4_missingOf_11 ⟨(Nat.le_of_ble_eq_true rfl), (Nat.le_of_ble_eq_true rfl)⟩) hR hz hS hA (fun H locs hR hz hS => ?_)
  refine lv_if_ne (tgt := 21) hx hb dX4_missingOf_14 (by decide) (fun hc => ?_) (fun hc => ?_)
  · have hrun := mt_f hrun hc
    refine lv_iconst (v := 0) hx hb dX4_missingOf_21 (by decide) ?_
    exact k_X4_missingOf_b22 hx hb hr hml hown hts hlocks hin hE hA _ _ _ _ _ _ _ _ hrun hR hz hS (lv_sub hl [] rfl)
  · have hrun := mt_t hrun hc
    refine lv_iconst (v := 1) hx hb dX4_missingOf_17 (by decide) ?_
    refine lv_goto (tgt := 22) hx hb dX4_missingOf_18 (by decide) ?_
    exact k_X4_missingOf_b22 hx hb hr hml hown hts hlocks hin hE hA _ _ _ _ _ _ _ _ hrun hR hz hS (lv_sub hl [] rfl)
/-! X7_wouldRideWith -/
abbrev rm_X7_wouldRideWith : Room := { frames := 5, cells := 0, slots := 0, locals := 113 }
theorem yk_X7_wouldRideWith : m_K yX7_wouldRideWith cX7_wouldRideWith 5 (some .boolean) 2 := ⟨wm_2_144, wm_0_1, by decide +kernel⟩
theorem ys_X7_wouldRideWith : Cond.instanceMethod yX7_wouldRideWith ∈ wT ∧ Cond.selects RX7 yX7_wouldRideWith yX7_wouldRideWith ∈ wT := ⟨wm_2_143, wp_1_6⟩
set_option maxRecDepth 100000 in
set_option maxHeartbeats 4000000 in
theorem k_X7_wouldRideWith_b41 {p : Program} {l : Launch} {e : Env} {s : State} {m : MethodId} {args : Array Value} {below : List Frame} {meth : Method} {c : Code} {D : va_G} {ids : m_I3} {st : m_T} {A : Nat → Prop} {z : Nat} {r : Int32} {hF : mH} (hx : p.tables.exec = Jvm.exec) (hb : c.code = cX7_wouldRideWith) (hr : meth.sig.returnType = some .boolean) (hml : c.maxLocals = 5) (hown : s.vm.findClass RX7 = some m.cls) (hts : ∀ w ∈ (m_ws yX7_wouldRideWith cX7_wouldRideWith 5 (some .boolean)), w.before args s = true) (hlocks : meth.locks = false) (hin : meth.name = yX7_wouldRideWith.name) (hE : m_EV st A s s.heap) (hA : ∀ q, s.heap.size ≤ q → A q) (h : mH) (t0 : Int32) (H : Heap) (locs : List Loc) (ls : Array Slot) (hrun : s_X7_wouldRideWith_b41 h t0 = some (r, hF)) (hR : Rl D ids A h s H) (hz : H.size = z) (hS : va_S A s.heap H locs) (hl : lv_has ls 5 []) : W p l e rm_X7_wouldRideWith s m args below meth c H locs 0 0 (MQ below (mQi D ids A r hF z) args s 0 0 A) (F0 m 41 ls [.int t0]) := by
  unfold s_X7_wouldRideWith_b41 at hrun
  obtain ⟨w9, hzr, hrun⟩ := m_bind hrun
  obtain ⟨rfl, rfl⟩ := Prod.mk.inj (Option.some.inj hrun)
  exact mr_zret hzr hx hb hr hlocks hR hz hS dX7_wouldRideWith_41
set_option maxRecDepth 100000 in
set_option maxHeartbeats 4000000 in
theorem k_X7_wouldRideWith_b18 {p : Program} {l : Launch} {e : Env} {s : State} {m : MethodId} {args : Array Value} {below : List Frame} {meth : Method} {c : Code} {D : va_G} {ids : m_I3} {st : m_T} {A : Nat → Prop} {z : Nat} {r : Int32} {hF : mH} (hx : p.tables.exec = Jvm.exec) (hb : c.code = cX7_wouldRideWith) (hr : meth.sig.returnType = some .boolean) (hml : c.maxLocals = 5) (hown : s.vm.findClass RX7 = some m.cls) (hts : ∀ w ∈ (m_ws yX7_wouldRideWith cX7_wouldRideWith 5 (some .boolean)), w.before args s = true) (hlocks : meth.locks = false) (hin : meth.name = yX7_wouldRideWith.name) (hE : m_EV st A s s.heap) (hA : ∀ q, s.heap.size ≤ q → A q) (h : mH) (v0 : Nat) (v3 : Int32) (t0 : Int32) (H : Heap) (locs : List Loc) (ls : Array Slot) (hrun : s_X7_wouldRideWith_b18 h v0 v3 t0 = some (r, hF)) (hR : Rl D ids A h s H) (hz : H.size = z) (hS : va_S A s.heap H locs) (hl : lv_has ls 5 [(0, .ref v0), (3, .int v3)]) : W p l e rm_X7_wouldRideWith s m args below meth c H locs 0 0 (MQ below (mQi D ids A r hF z) args s 0 0 A) (F0 m 18 ls [.int t0]) := by
  unfold s_X7_wouldRideWith_b18 at hrun
  refine lv_istore (lv' := [(4, .int t0), (0, .ref v0), (3, .int v3)]) hx hb dX7_wouldRideWith_18 hl (by decide) rfl (fun ls hl => ?_)
  refine lv_aload_n hx hb dX7_wouldRideWith_20 rfl (lv_at hl 1 rfl) ?_
  obtain ⟨x21, hc9, hrun⟩ := m_bind hrun
  refine mr_get (C := RX7) (T := TX7) (N := 8) (ci := 5) hx hb hts (fun w q => m_ws_in (wi_X7 w q)) hown hR rfl 4 (by decide) (hts _ (m_ws_in wm_1_15)) (fun _ h9 => h9) (m_gr_spec hc9) dX7_wouldRideWith_21 ?_
  obtain ⟨x24, hc9, hrun⟩ := m_bind hrun
  refine mr_getN (C := RX0) (T := TX0) (N := 9) (ci := 0) hx hb hts (fun w q => m_ws_in (wi_X0 w q)) hown hR rfl 0 (by decide) (hE.nf (i := 11) rfl) (fun _ h9 => h9) (m_gr_spec hc9) dX7_wouldRideWith_24 ?_
  refine lv_iload_n hx hb dX7_wouldRideWith_27 rfl (lv_at hl 2 rfl) ?_
  obtain ⟨x28, hc9, hrun⟩ := m_bind hrun
  refine mr_calli (mr_runS (As := [.ref x24, .int v3]) (rest := []) hx hb hml hown hts (c_X1_at l D ids st z hc9) yk_X1_at ys_X1_at wm_1_80 ⟨(Nat.le_of_ble_eq_true rfl), (Nat.le_of_ble_eq_true rfl)⟩ (mr_recvS hR hE hz hS hA) hl.1 rfl (Nat.le_of_ble_eq_true rfl) dX7_wouldRideWith_28 ⟨(Nat.le_of_ble_eq_true rfl), (Nat.le_of_ble_eq_true rfl)⟩) hR hz hS hA (fun H locs hR hz hS => ?_)
  refine lv_iload hx hb dX7_wouldRideWith_31 (lv_at hl 0 rfl) ?_
  refine lv_icmp_ne (tgt := 40) hx hb dX7_wouldRideWith_33 (by decide) (fun hc => ?_) (fun hc => ?_)
  · have hrun := mt_f hrun hc
    refine lv_iconst (v := 0) hx hb dX7_wouldRideWith_40 (by decide) ?_
    exact k_X7_wouldRideWith_b41 hx hb hr hml hown hts hlocks hin hE hA _ _ _ _ _ hrun hR hz hS (lv_sub hl [] rfl)
  · have hrun := mt_t hrun hc
    refine lv_iconst (v := 1) hx hb dX7_wouldRideWith_36 (by decide) ?_
    refine lv_goto (tgt := 41) hx hb dX7_wouldRideWith_37 (by decide) ?_
    exact k_X7_wouldRideWith_b41 hx hb hr hml hown hts hlocks hin hE hA _ _ _ _ _ hrun hR hz hS (lv_sub hl [] rfl)
set_option maxRecDepth 100000 in
set_option maxHeartbeats 4000000 in
theorem c_X7_wouldRideWith (l : Launch) (D : va_G) (ids : m_I3) (st : m_T) (z : Nat) {h : mH} {v0 : Nat} {v1 : Int32} {v2 : Int32} {r : Int32} {hF : mH} (hrun : s_X7_wouldRideWith h v0 v1 v2 = some (r, hF)) : Met l yX7_wouldRideWith (m_ws yX7_wouldRideWith cX7_wouldRideWith 5 (some .boolean)) rm_X7_wouldRideWith (mPc D ids st [.ref v0, .int v1, .int v2] h z) (mQi D ids (m_A h z) r hF z) rm_X7_wouldRideWith.cells rm_X7_wouldRideWith.slots (m_A h z) := by
  refine mr_of (cc := cX7_wouldRideWith) (maxL := 5) (ret := some .boolean) (by decide) rfl (Nat.le_of_ble_eq_true rfl) ?_
  intro p e s m below meth c ls hx hb hr hml hown hts hlocks hin hR hE hz hl
  have hA : ∀ q, s.heap.size ≤ q → m_A h z q := fun q hq => Or.inr (by rw [← hz]; exact hq)
  have hS : va_S (m_A h z) s.heap s.heap [] := va_S.rf
  have hl : lv_has ls 5 [(0, .ref v0), (1, .int v1), (2, .int v2)] := hl
  unfold s_X7_wouldRideWith at hrun
  refine lv_aload_n hx hb dX7_wouldRideWith_0 rfl (lv_at hl 0 rfl) ?_
  refine lv_iload_n hx hb dX7_wouldRideWith_1 rfl (lv_at hl 2 rfl) ?_
  obtain ⟨_, ho9, hrun⟩ := m_bind hrun
  obtain ⟨fs9, ho9⟩ := m_is_spec ho9
  obtain ⟨⟨x2, h2⟩, hc9, hrun⟩ := m_bind hrun
  refine mr_calli (mr_runV (As := [.int v2]) (rest := []) hx hb hml hown hts (c_X7_tryTap l D ids st z hc9) yk_X7_tryTap ys_X7_tryTap wm_1_181 ⟨(Nat.le_of_ble_eq_true rfl), (Nat.le_of_ble_eq_true rfl)⟩ (mr_recv (ci := 5) hR hE hz hS hA rfl ho9) hl.1 rfl (Nat.le_of_ble_eq_true rfl) dX7_wouldRideWith_2 ⟨(Nat.le_of_ble_eq_true rfl), (Nat.le_of_ble_eq_true rfl)⟩) hR hz hS hA (fun H locs hR hz hS => ?_)
  refine lv_istore_n (lv' := [(3, .int x2), (0, .ref v0), (1, .int v1), (2, .int v2)]) hx hb dX7_wouldRideWith_5 rfl hl (by decide) rfl (fun ls hl => ?_)
  refine lv_iload_n hx hb dX7_wouldRideWith_6 rfl (lv_at hl 0 rfl) ?_
  refine lv_iload_n hx hb dX7_wouldRideWith_7 rfl (lv_at hl 2 rfl) ?_
  refine lv_icmp_gt (tgt := 17) hx hb dX7_wouldRideWith_8 (by decide) (fun hc => ?_) (fun hc => ?_)
  · have hrun := mt_t hrun hc
    refine lv_iload_n hx hb dX7_wouldRideWith_17 rfl (lv_at hl 2 rfl) ?_
    exact k_X7_wouldRideWith_b18 hx hb hr hml hown hts hlocks hin hE hA _ _ _ _ _ _ _ hrun hR hz hS (lv_sub hl [1, 0] rfl)
  · have hrun := mt_f hrun hc
    refine lv_iload_n hx hb dX7_wouldRideWith_11 rfl (lv_at hl 2 rfl) ?_
    refine lv_iconst (v := 1) hx hb dX7_wouldRideWith_12 (by decide) ?_
    refine lv_iadd hx hb dX7_wouldRideWith_13 ?_
    refine lv_goto (tgt := 18) hx hb dX7_wouldRideWith_14 (by decide) ?_
    exact k_X7_wouldRideWith_b18 hx hb hr hml hown hts hlocks hin hE hA _ _ _ _ _ _ _ hrun hR hz hS (lv_sub hl [1, 0] rfl)
/-! X7_refusal -/
abbrev rm_X7_refusal : Room := { frames := 6, cells := 0, slots := 0, locals := 137 }
theorem yk_X7_refusal : m_K yX7_refusal cX7_refusal 5 (some .int) 3 := ⟨wm_2_134, wm_0_1, by decide +kernel⟩
theorem ys_X7_refusal : Cond.instanceMethod yX7_refusal ∈ wT ∧ Cond.selects RX7 yX7_refusal yX7_refusal ∈ wT := ⟨wm_2_133, wp_1_5⟩
set_option maxRecDepth 100000 in
set_option maxHeartbeats 4000000 in
theorem k_X7_refusal_b23 {p : Program} {l : Launch} {e : Env} {s : State} {m : MethodId} {args : Array Value} {below : List Frame} {meth : Method} {c : Code} {D : va_G} {ids : m_I3} {st : m_T} {A : Nat → Prop} {z : Nat} {r : Int32} {hF : mH} (hx : p.tables.exec = Jvm.exec) (hb : c.code = cX7_refusal) (hr : meth.sig.returnType = some .int) (hml : c.maxLocals = 5) (hown : s.vm.findClass RX7 = some m.cls) (hts : ∀ w ∈ (m_ws yX7_refusal cX7_refusal 5 (some .int)), w.before args s = true) (hlocks : meth.locks = false) (hin : meth.name = yX7_refusal.name) (hE : m_EV st A s s.heap) (hA : ∀ q, s.heap.size ≤ q → A q) (h : mH) (H : Heap) (locs : List Loc) (ls : Array Slot) (hrun : s_X7_refusal_b23 h = some (r, hF)) (hR : Rl D ids A h s H) (hz : H.size = z) (hS : va_S A s.heap H locs) (hl : lv_has ls 5 []) : W p l e rm_X7_refusal s m args below meth c H locs 0 0 (MQ below (mQi D ids A r hF z) args s 0 0 A) (F0 m 23 ls []) := by
  unfold s_X7_refusal_b23 at hrun
  refine lv_iconst (v := 1) hx hb dX7_refusal_23 (by decide) ?_
  obtain ⟨rfl, rfl⟩ := Prod.mk.inj (Option.some.inj hrun)
  exact mr_iret hx hb hr hlocks hR hz hS dX7_refusal_24
set_option maxRecDepth 100000 in
set_option maxHeartbeats 4000000 in
theorem k_X7_refusal_b67 {p : Program} {l : Launch} {e : Env} {s : State} {m : MethodId} {args : Array Value} {below : List Frame} {meth : Method} {c : Code} {D : va_G} {ids : m_I3} {st : m_T} {A : Nat → Prop} {z : Nat} {r : Int32} {hF : mH} (hx : p.tables.exec = Jvm.exec) (hb : c.code = cX7_refusal) (hr : meth.sig.returnType = some .int) (hml : c.maxLocals = 5) (hown : s.vm.findClass RX7 = some m.cls) (hts : ∀ w ∈ (m_ws yX7_refusal cX7_refusal 5 (some .int)), w.before args s = true) (hlocks : meth.locks = false) (hin : meth.name = yX7_refusal.name) (hE : m_EV st A s s.heap) (hA : ∀ q, s.heap.size ≤ q → A q) (h : mH) (H : Heap) (locs : List Loc) (ls : Array Slot) (hrun : s_X7_refusal_b67 h = some (r, hF)) (hR : Rl D ids A h s H) (hz : H.size = z) (hS : va_S A s.heap H locs) (hl : lv_has ls 5 []) : W p l e rm_X7_refusal s m args below meth c H locs 0 0 (MQ below (mQi D ids A r hF z) args s 0 0 A) (F0 m 67 ls []) := by
  unfold s_X7_refusal_b67 at hrun
  refine lv_iconst (v := 2) hx hb dX7_refusal_67 (by decide) ?_
  obtain ⟨rfl, rfl⟩ := Prod.mk.inj (Option.some.inj hrun)
  exact mr_iret hx hb hr hlocks hR hz hS dX7_refusal_68
set_option maxRecDepth 100000 in
set_option maxHeartbeats 4000000 in
theorem k_X7_refusal_b135 {p : Program} {l : Launch} {e : Env} {s : State} {m : MethodId} {args : Array Value} {below : List Frame} {meth : Method} {c : Code} {D : va_G} {ids : m_I3} {st : m_T} {A : Nat → Prop} {z : Nat} {r : Int32} {hF : mH} (hx : p.tables.exec = Jvm.exec) (hb : c.code = cX7_refusal) (hr : meth.sig.returnType = some .int) (hml : c.maxLocals = 5) (hown : s.vm.findClass RX7 = some m.cls) (hts : ∀ w ∈ (m_ws yX7_refusal cX7_refusal 5 (some .int)), w.before args s = true) (hlocks : meth.locks = false) (hin : meth.name = yX7_refusal.name) (hE : m_EV st A s s.heap) (hA : ∀ q, s.heap.size ≤ q → A q) (h : mH) (t0 : Int32) (H : Heap) (locs : List Loc) (ls : Array Slot) (hrun : s_X7_refusal_b135 h t0 = some (r, hF)) (hR : Rl D ids A h s H) (hz : H.size = z) (hS : va_S A s.heap H locs) (hl : lv_has ls 5 []) : W p l e rm_X7_refusal s m args below meth c H locs 0 0 (MQ below (mQi D ids A r hF z) args s 0 0 A) (F0 m 135 ls [.int t0]) := by
  unfold s_X7_refusal_b135 at hrun
  obtain ⟨rfl, rfl⟩ := Prod.mk.inj (Option.some.inj hrun)
  exact mr_iret hx hb hr hlocks hR hz hS dX7_refusal_135
set_option maxRecDepth 100000 in
set_option maxHeartbeats 4000000 in
theorem k_X7_refusal_b69 {p : Program} {l : Launch} {e : Env} {s : State} {m : MethodId} {args : Array Value} {below : List Frame} {meth : Method} {c : Code} {D : va_G} {ids : m_I3} {st : m_T} {A : Nat → Prop} {z : Nat} {r : Int32} {hF : mH} (hx : p.tables.exec = Jvm.exec) (hb : c.code = cX7_refusal) (hr : meth.sig.returnType = some .int) (hml : c.maxLocals = 5) (hown : s.vm.findClass RX7 = some m.cls) (hts : ∀ w ∈ (m_ws yX7_refusal cX7_refusal 5 (some .int)), w.before args s = true) (hlocks : meth.locks = false) (hin : meth.name = yX7_refusal.name) (hE : m_EV st A s s.heap) (hA : ∀ q, s.heap.size ≤ q → A q) (h : mH) (v0 : Nat) (v1 : Int32) (v2 : Int32) (v3 : Int32) (v4 : Int32) (H : Heap) (locs : List Loc) (ls : Array Slot) (hrun : s_X7_refusal_b69 h v0 v1 v2 v3 v4 = some (r, hF)) (hR : Rl D ids A h s H) (hz : H.size = z) (hS : va_S A s.heap H locs) (hl : lv_has ls 5 [(0, .ref v0), (1, .int v1), (2, .int v2), (3, .int v3), (4, .int v4)]) : W p l e rm_X7_refusal s m args below meth c H locs 0 0 (MQ below (mQi D ids A r hF z) args s 0 0 A) (F0 m 69 ls []) := by
  unfold s_X7_refusal_b69 at hrun
  refine lv_aload_n hx hb dX7_refusal_69 rfl (lv_at hl 0 rfl) ?_
  obtain ⟨x70, hc9, hrun⟩ := m_bind hrun
  refine mr_get (C := RX7) (T := TX7) (N := 8) (ci := 5) hx hb hts (fun w q => m_ws_in (wi_X7 w q)) hown hR rfl 0 (by decide) (hts _ (m_ws_in wm_1_11)) (fun _ h9 => h9) (m_gr_spec hc9) dX7_refusal_70 ?_
  obtain ⟨x73, hc9, hrun⟩ := m_bind hrun
  refine mr_getN (C := RX3) (T := TX3) (N := 10) (ci := 2) hx hb hts (fun w q => m_ws_in (wi_X3 w q)) hown hR rfl 3 (by decide) (hE.nf (i := 6) rfl) (fun _ h9 => h9) (m_gr_spec hc9) dX7_refusal_73 ?_
  refine lv_iload hx hb dX7_refusal_76 (lv_at hl 4 rfl) ?_
  obtain ⟨x78, hc9, hrun⟩ := m_bind hrun
  refine mr_calli (mr_runS (As := [.int v4]) (rest := [.ref x73]) hx hb hml hown hts (c_X4_walletOf l D ids st z hc9) yk_X4_walletOf ys_X4_walletOf wm_1_143 ⟨(Nat.le_of_ble_eq_true rfl), (Nat.le_of_ble_eq_true rfl)⟩ (mr_recvS hR hE hz hS hA) hl.1 rfl (Nat.le_of_ble_eq_true rfl) dX7_refusal_78 ⟨(Nat.le_of_ble_eq_true rfl), (Nat.le_of_ble_eq_true rfl)⟩) hR hz hS hA (fun H locs hR hz hS => ?_)
  refine lv_iload hx hb dX7_refusal_81 (lv_at hl 4 rfl) ?_
  obtain ⟨x83, hc9, hrun⟩ := m_bind hrun
  refine mr_calli (mr_runS (As := [.int v4]) (rest := [.int x78, .ref x73]) hx hb hml hown hts (c_X4_weekOf l D ids st z hc9) yk_X4_weekOf ys_X4_weekOf wm_1_199 ⟨(Nat.le_of_ble_eq_true rfl), (Nat.le_of_ble_eq_true rfl)⟩ (mr_recvS hR hE hz hS hA) hl.1 rfl (Nat.le_of_ble_eq_true rfl) dX7_refusal_83 ⟨(Nat.le_of_ble_eq_true rfl), (Nat.le_of_ble_eq_true rfl)⟩) hR hz hS hA (fun H locs hR hz hS => ?_)
  obtain ⟨x86, hc9, hrun⟩ := m_bind hrun
  refine mr_calli (mr_runS (As := [.int x78, .int x83]) (rest := [.ref x73]) hx hb hml hown hts (c_X7_weekCell l D ids st z hc9) yk_X7_weekCell ys_X7_weekCell wm_1_127 ⟨(Nat.le_of_ble_eq_true rfl), (Nat.le_of_ble_eq_true rfl)⟩ (mr_recvS hR hE hz hS hA) hl.1 rfl (Nat.le_of_ble_eq_true rfl) dX7_refusal_86 ⟨(Nat.le_of_ble_eq_true rfl), (Nat.le_of_ble_eq_true rfl)⟩) hR hz hS hA (fun H locs hR hz hS => ?_)
  obtain ⟨x89, hc9, hrun⟩ := m_bind hrun
  refine mr_calli (mr_runS (As := [.ref x73, .int x86]) (rest := []) hx hb hml hown hts (c_X1_at l D ids st z hc9) yk_X1_at ys_X1_at wm_1_80 ⟨(Nat.le_of_ble_eq_true rfl), (Nat.le_of_ble_eq_true rfl)⟩ (mr_recvS hR hE hz hS hA) hl.1 rfl (Nat.le_of_ble_eq_true rfl) dX7_refusal_89 ⟨(Nat.le_of_ble_eq_true rfl), (Nat.le_of_ble_eq_true rfl)⟩) hR hz hS hA (fun H locs hR hz hS => ?_)
  refine lv_iconst (v := 2) hx hb dX7_refusal_92 (by decide) ?_
  refine lv_icmp_lt (tgt := 98) hx hb dX7_refusal_93 (by decide) (fun hc => ?_) (fun hc => ?_)
  · have hrun := mt_t hrun hc
    refine lv_aload_n hx hb dX7_refusal_98 rfl (lv_at hl 0 rfl) ?_
    obtain ⟨x99, hc9, hrun⟩ := m_bind hrun
    refine mr_get (C := RX7) (T := TX7) (N := 8) (ci := 5) hx hb hts (fun w q => m_ws_in (wi_X7 w q)) hown hR rfl 0 (by decide) (hts _ (m_ws_in wm_1_11)) (fun _ h9 => h9) (m_gr_spec hc9) dX7_refusal_99 ?_
    obtain ⟨x102, hc9, hrun⟩ := m_bind hrun
    refine mr_getN (C := RX3) (T := TX3) (N := 10) (ci := 2) hx hb hts (fun w q => m_ws_in (wi_X3 w q)) hown hR rfl 0 (by decide) (hE.nf (i := 3) rfl) (fun _ h9 => h9) (m_gr_spec hc9) dX7_refusal_102 ?_
    obtain ⟨x105, hc9, hrun⟩ := m_bind hrun
    refine mr_getN (C := RX5) (T := TX5) (N := 2) (ci := 3) hx hb hts (fun w q => m_ws_in (wi_X5 w q)) hown hR rfl 1 (by decide) (hE.nf (i := 0) rfl) (fun _ h9 => h9) (m_gi_spec hc9) dX7_refusal_105 ?_
    refine lv_bipush (v := 60) hx hb dX7_refusal_108 (by decide) ?_
    refine lv_icmp_lt (tgt := 115) hx hb dX7_refusal_110 (by decide) (fun hc => ?_) (fun hc => ?_)
    · have hrun := mt_t hrun hc
      refine lv_aload_n hx hb dX7_refusal_115 rfl (lv_at hl 0 rfl) ?_
      refine lv_iload_n hx hb dX7_refusal_116 rfl (lv_at hl 1 rfl) ?_
      refine lv_iload hx hb dX7_refusal_117 (lv_at hl 4 rfl) ?_
      refine lv_iload_n hx hb dX7_refusal_119 rfl (lv_at hl 2 rfl) ?_
      refine lv_iload_n hx hb dX7_refusal_120 rfl (lv_at hl 3 rfl) ?_
      obtain ⟨x121, hc9, hrun⟩ := m_bind hrun
      refine mr_calli (mr_runS (As := [.int v4, .int v2, .int v3]) (rest := [.int v1, .ref v0]) hx hb hml hown hts (c_X4_missingOf l D ids st z hc9) yk_X4_missingOf ys_X4_missingOf wm_2_135 ⟨(Nat.le_of_ble_eq_true rfl), (Nat.le_of_ble_eq_true rfl)⟩ (mr_recvS hR hE hz hS hA) hl.1 rfl (Nat.le_of_ble_eq_true rfl) dX7_refusal_121 ⟨(Nat.le_of_ble_eq_true rfl), (Nat.le_of_ble_eq_true rfl)⟩) hR hz hS hA (fun H locs hR hz hS => ?_)
      obtain ⟨_, ho9, hrun⟩ := m_bind hrun
      obtain ⟨fs9, ho9⟩ := m_is_spec ho9
      obtain ⟨⟨x124, h124⟩, hc9, hrun⟩ := m_bind hrun
      refine mr_calli (mr_runV (As := [.int v1, .int x121]) (rest := []) hx hb hml hown hts (c_X7_wouldRideWith l D ids st z hc9) yk_X7_wouldRideWith ys_X7_wouldRideWith wm_2_141 ⟨(Nat.le_of_ble_eq_true rfl), (Nat.le_of_ble_eq_true rfl)⟩ (mr_recv (ci := 5) hR hE hz hS hA rfl ho9) hl.1 rfl (Nat.le_of_ble_eq_true rfl) dX7_refusal_124 ⟨(Nat.le_of_ble_eq_true rfl), (Nat.le_of_ble_eq_true rfl)⟩) hR hz hS hA (fun H locs hR hz hS => ?_)
      refine lv_if_eq (tgt := 134) hx hb dX7_refusal_127 (by decide) (fun hc => ?_) (fun hc => ?_)
      · have hrun := mt_t hrun hc
        refine lv_iconst (v := 5) hx hb dX7_refusal_134 (by decide) ?_
        exact k_X7_refusal_b135 hx hb hr hml hown hts hlocks hin hE hA _ _ _ _ _ hrun hR hz hS (lv_sub hl [] rfl)
      · have hrun := mt_f hrun hc
        refine lv_iconst (v := 0) hx hb dX7_refusal_130 (by decide) ?_
        refine lv_goto (tgt := 135) hx hb dX7_refusal_131 (by decide) ?_
        exact k_X7_refusal_b135 hx hb hr hml hown hts hlocks hin hE hA _ _ _ _ _ hrun hR hz hS (lv_sub hl [] rfl)
    · have hrun := mt_f hrun hc
      refine lv_iconst (v := 4) hx hb dX7_refusal_113 (by decide) ?_
      obtain ⟨rfl, rfl⟩ := Prod.mk.inj (Option.some.inj hrun)
      exact mr_iret hx hb hr hlocks hR hz hS dX7_refusal_114
  · have hrun := mt_f hrun hc
    refine lv_iconst (v := 3) hx hb dX7_refusal_96 (by decide) ?_
    obtain ⟨rfl, rfl⟩ := Prod.mk.inj (Option.some.inj hrun)
    exact mr_iret hx hb hr hlocks hR hz hS dX7_refusal_97
set_option maxRecDepth 100000 in
set_option maxHeartbeats 4000000 in
theorem c_X7_refusal (l : Launch) (D : va_G) (ids : m_I3) (st : m_T) (z : Nat) {h : mH} {v0 : Nat} {v1 : Int32} {v2 : Int32} {v3 : Int32} {r : Int32} {hF : mH} (hrun : s_X7_refusal h v0 v1 v2 v3 = some (r, hF)) : Met l yX7_refusal (m_ws yX7_refusal cX7_refusal 5 (some .int)) rm_X7_refusal (mPc D ids st [.ref v0, .int v1, .int v2, .int v3] h z) (mQi D ids (m_A h z) r hF z) rm_X7_refusal.cells rm_X7_refusal.slots (m_A h z) := by
  refine mr_of (cc := cX7_refusal) (maxL := 5) (ret := some .int) (by decide) rfl (Nat.le_of_ble_eq_true rfl) ?_
  intro p e s m below meth c ls hx hb hr hml hown hts hlocks hin hR hE hz hl
  have hA : ∀ q, s.heap.size ≤ q → m_A h z q := fun q hq => Or.inr (by rw [← hz]; exact hq)
  have hS : va_S (m_A h z) s.heap s.heap [] := va_S.rf
  have hl : lv_has ls 5 [(0, .ref v0), (1, .int v1), (2, .int v2), (3, .int v3)] := hl
  unfold s_X7_refusal at hrun
  refine lv_aload_n hx hb dX7_refusal_0 rfl (lv_at hl 0 rfl) ?_
  refine lv_iload_n hx hb dX7_refusal_1 rfl (lv_at hl 1 rfl) ?_
  obtain ⟨_, ho9, hrun⟩ := m_bind hrun
  obtain ⟨fs9, ho9⟩ := m_is_spec ho9
  obtain ⟨x2, hc9, hrun⟩ := m_bind hrun
  refine mr_calli (mr_runV (As := [.int v1]) (rest := []) hx hb hml hown hts (c_X7_isPlace l D ids st z hc9) yk_X7_isPlace ys_X7_isPlace wm_2_99 ⟨(Nat.le_of_ble_eq_true rfl), (Nat.le_of_ble_eq_true rfl)⟩ (mr_recv (ci := 5) hR hE hz hS hA rfl ho9) hl.1 rfl (Nat.le_of_ble_eq_true rfl) dX7_refusal_2 ⟨(Nat.le_of_ble_eq_true rfl), (Nat.le_of_ble_eq_true rfl)⟩) hR hz hS hA (fun H locs hR hz hS => ?_)
  refine lv_if_eq (tgt := 23) hx hb dX7_refusal_5 (by decide) (fun hc => ?_) (fun hc => ?_)
  · have hrun := mt_t hrun hc
    exact k_X7_refusal_b23 hx hb hr hml hown hts hlocks hin hE hA _ _ _ _ hrun hR hz hS (lv_sub hl [] rfl)
  · have hrun := mt_f hrun hc
    refine lv_aload_n hx hb dX7_refusal_8 rfl (lv_at hl 0 rfl) ?_
    obtain ⟨x9, hc9, hrun⟩ := m_bind hrun
    refine mr_get (C := RX7) (T := TX7) (N := 8) (ci := 5) hx hb hts (fun w q => m_ws_in (wi_X7 w q)) hown hR rfl 1 (by decide) (hts _ (m_ws_in wm_1_12)) (fun _ h9 => h9) (m_gr_spec hc9) dX7_refusal_9 ?_
    obtain ⟨x12, hc9, hrun⟩ := m_bind hrun
    refine mr_getN (C := RX0) (T := TX0) (N := 9) (ci := 0) hx hb hts (fun w q => m_ws_in (wi_X0 w q)) hown hR rfl 0 (by decide) (hE.nf (i := 11) rfl) (fun _ h9 => h9) (m_gr_spec hc9) dX7_refusal_12 ?_
    refine lv_iload_n hx hb dX7_refusal_15 rfl (lv_at hl 1 rfl) ?_
    obtain ⟨x16, hc9, hrun⟩ := m_bind hrun
    refine mr_calli (mr_runS (As := [.ref x12, .int v1]) (rest := []) hx hb hml hown hts (c_X1_at l D ids st z hc9) yk_X1_at ys_X1_at wm_1_80 ⟨(Nat.le_of_ble_eq_true rfl), (Nat.le_of_ble_eq_true rfl)⟩ (mr_recvS hR hE hz hS hA) hl.1 rfl (Nat.le_of_ble_eq_true rfl) dX7_refusal_16 ⟨(Nat.le_of_ble_eq_true rfl), (Nat.le_of_ble_eq_true rfl)⟩) hR hz hS hA (fun H locs hR hz hS => ?_)
    refine lv_iconst (v := (-1)) hx hb dX7_refusal_19 (by decide) ?_
    refine lv_icmp_eq (tgt := 25) hx hb dX7_refusal_20 (by decide) (fun hc => ?_) (fun hc => ?_)
    · have hrun := mt_t hrun hc
      refine lv_aload_n hx hb dX7_refusal_25 rfl (lv_at hl 0 rfl) ?_
      obtain ⟨x26, hc9, hrun⟩ := m_bind hrun
      refine mr_get (C := RX7) (T := TX7) (N := 8) (ci := 5) hx hb hts (fun w q => m_ws_in (wi_X7 w q)) hown hR rfl 0 (by decide) (hts _ (m_ws_in wm_1_11)) (fun _ h9 => h9) (m_gr_spec hc9) dX7_refusal_26 ?_
      obtain ⟨x29, hc9, hrun⟩ := m_bind hrun
      refine mr_getN (C := RX3) (T := TX3) (N := 10) (ci := 2) hx hb hts (fun w q => m_ws_in (wi_X3 w q)) hown hR rfl 0 (by decide) (hE.nf (i := 3) rfl) (fun _ h9 => h9) (m_gr_spec hc9) dX7_refusal_29 ?_
      refine lv_iload_n hx hb dX7_refusal_32 rfl (lv_at hl 1 rfl) ?_
      obtain ⟨_, ho9, hrun⟩ := m_bind hrun
      obtain ⟨fs9, ho9⟩ := m_is_spec ho9
      obtain ⟨x33, hc9, hrun⟩ := m_bind hrun
      refine mr_calli (mr_runV (As := [.int v1]) (rest := []) hx hb hml hown hts (c_X5_tapAt l D ids st z hc9) yk_X5_tapAt ys_X5_tapAt wm_1_142 ⟨(Nat.le_of_ble_eq_true rfl), (Nat.le_of_ble_eq_true rfl)⟩ (mr_recv (ci := 3) hR hE hz hS hA rfl ho9) hl.1 rfl (Nat.le_of_ble_eq_true rfl) dX7_refusal_33 ⟨(Nat.le_of_ble_eq_true rfl), (Nat.le_of_ble_eq_true rfl)⟩) hR hz hS hA (fun H locs hR hz hS => ?_)
      refine lv_istore (lv' := [(4, .int x33), (0, .ref v0), (1, .int v1), (2, .int v2), (3, .int v3)]) hx hb dX7_refusal_36 hl (by decide) rfl (fun ls hl => ?_)
      refine lv_iload hx hb dX7_refusal_38 (lv_at hl 0 rfl) ?_
      obtain ⟨x40, hc9, hrun⟩ := m_bind hrun
      refine mr_calli (mr_runS (As := [.int x33]) (rest := []) hx hb hml hown hts (c_X4_isIn l D ids st z hc9) yk_X4_isIn ys_X4_isIn wm_1_147 ⟨(Nat.le_of_ble_eq_true rfl), (Nat.le_of_ble_eq_true rfl)⟩ (mr_recvS hR hE hz hS hA) hl.1 rfl (Nat.le_of_ble_eq_true rfl) dX7_refusal_40 ⟨(Nat.le_of_ble_eq_true rfl), (Nat.le_of_ble_eq_true rfl)⟩) hR hz hS hA (fun H locs hR hz hS => ?_)
      refine lv_if_eq (tgt := 58) hx hb dX7_refusal_43 (by decide) (fun hc => ?_) (fun hc => ?_)
      · have hrun := mt_t hrun hc
        refine lv_iload_n hx hb dX7_refusal_58 rfl (lv_at hl 3 rfl) ?_
        refine lv_iload hx hb dX7_refusal_59 (lv_at hl 0 rfl) ?_
        obtain ⟨x61, hc9, hrun⟩ := m_bind hrun
        refine mr_calli (mr_runS (As := [.int x33]) (rest := [.int v2]) hx hb hml hown hts (c_X4_minuteOf l D ids st z hc9) yk_X4_minuteOf ys_X4_minuteOf wm_1_145 ⟨(Nat.le_of_ble_eq_true rfl), (Nat.le_of_ble_eq_true rfl)⟩ (mr_recvS hR hE hz hS hA) hl.1 rfl (Nat.le_of_ble_eq_true rfl) dX7_refusal_61 ⟨(Nat.le_of_ble_eq_true rfl), (Nat.le_of_ble_eq_true rfl)⟩) hR hz hS hA (fun H locs hR hz hS => ?_)
        refine lv_icmp_le (tgt := 69) hx hb dX7_refusal_64 (by decide) (fun hc => ?_) (fun hc => ?_)
        · have hrun := mt_t hrun hc
          exact k_X7_refusal_b69 hx hb hr hml hown hts hlocks hin hE hA _ _ _ _ _ _ _ _ _ hrun hR hz hS (lv_sub hl [1, 2, 3, 4, 0] rfl)
        · have hrun := mt_f hrun hc
          exact k_X7_refusal_b67 hx hb hr hml hown hts hlocks hin hE hA _ _ _ _ hrun hR hz hS (lv_sub hl [] rfl)
      · have hrun := mt_f hrun hc
        refine lv_iload_n hx hb dX7_refusal_46 rfl (lv_at hl 3 rfl) ?_
        refine lv_iload hx hb dX7_refusal_47 (lv_at hl 0 rfl) ?_
        obtain ⟨x49, hc9, hrun⟩ := m_bind hrun
        refine mr_calli (mr_runS (As := [.int x33]) (rest := [.int v2]) hx hb hml hown hts (c_X4_minuteOf l D ids st z hc9) yk_X4_minuteOf ys_X4_minuteOf wm_1_145 ⟨(Nat.le_of_ble_eq_true rfl), (Nat.le_of_ble_eq_true rfl)⟩ (mr_recvS hR hE hz hS hA) hl.1 rfl (Nat.le_of_ble_eq_true rfl) dX7_refusal_49 ⟨(Nat.le_of_ble_eq_true rfl), (Nat.le_of_ble_eq_true rfl)⟩) hR hz hS hA (fun H locs hR hz hS => ?_)
        refine lv_icmp_ge (tgt := 69) hx hb dX7_refusal_52 (by decide) (fun hc => ?_) (fun hc => ?_)
        · have hrun := mt_t hrun hc
          exact k_X7_refusal_b69 hx hb hr hml hown hts hlocks hin hE hA _ _ _ _ _ _ _ _ _ hrun hR hz hS (lv_sub hl [1, 2, 3, 4, 0] rfl)
        · have hrun := mt_f hrun hc
          refine lv_goto (tgt := 67) hx hb dX7_refusal_55 (by decide) ?_
          exact k_X7_refusal_b67 hx hb hr hml hown hts hlocks hin hE hA _ _ _ _ hrun hR hz hS (lv_sub hl [] rfl)
    · have hrun := mt_f hrun hc
      exact k_X7_refusal_b23 hx hb hr hml hown hts hlocks hin hE hA _ _ _ _ hrun hR hz hS (lv_sub hl [] rfl)
/-! X7_whyNot -/
abbrev rm_X7_whyNot : Room := { frames := 7, cells := 1, slots := 6, locals := 161 }
theorem yk_X7_whyNot : m_K yX7_whyNot cX7_whyNot 4 (some .int) 3 := ⟨wm_3_26, wm_0_1, by decide +kernel⟩
theorem ys_X7_whyNot : Cond.instanceMethod yX7_whyNot ∈ wT ∧ Cond.selects RX7 yX7_whyNot yX7_whyNot ∈ wT := ⟨wm_3_24, wm_3_25⟩
set_option maxRecDepth 100000 in
set_option maxHeartbeats 4000000 in
theorem c_X7_whyNot (l : Launch) (hfl : l.stackTraces = false) (D : va_G) (ids : m_I3) (st : m_T) (z : Nat) {h : mH} {v0 : Nat} {v1 : Int32} {v2 : Int32} {v3 : Int32} {r : (String ⊕ Int32)} {hF : mH} (hrun : s_X7_whyNot h v0 v1 v2 v3 = some (r, hF)) : vx_Met l yX7_whyNot (m_ws yX7_whyNot cX7_whyNot 4 (some .int)) rm_X7_whyNot (mPc D ids st [.ref v0, .int v1, .int v2, .int v3] h z) (mQxi D ids (m_A h z) r hF) (mXx D ids (m_A h z) r hF) rm_X7_whyNot.cells rm_X7_whyNot.slots (m_A h z) := by
  refine mrx_of (cc := cX7_whyNot) (maxL := 4) (ret := some .int) (by decide) rfl (Nat.le_of_ble_eq_true rfl) ?_
  intro p e s m below meth c ls hx hb hr hml hown hts hlocks hin hout hR hE hz hl
  have hA : ∀ q, s.heap.size ≤ q → m_A h z q := fun q hq => Or.inr (by rw [← hz]; exact hq)
  have hS : va_S (m_A h z) s.heap s.heap [] := va_S.rf
  have hl : lv_has ls 4 [(0, .ref v0), (1, .int v1), (2, .int v2), (3, .int v3)] := hl
  unfold s_X7_whyNot at hrun
  refine lv_iload_n hx hb dX7_whyNot_0 rfl (lv_at hl 2 rfl) ?_
  refine lv_iload_n hx hb dX7_whyNot_1 rfl (lv_at hl 3 rfl) ?_
  obtain ⟨x2, hc9, hrun⟩ := m_bind hrun
  refine mr_calli (mr_runS (As := [.int v2, .int v3]) (rest := []) hx hb hml hown hts (c_X7_isMinuteStation l D ids st z hc9) yk_X7_isMinuteStation ys_X7_isMinuteStation wm_1_226 ⟨(Nat.le_of_ble_eq_true rfl), (Nat.le_of_ble_eq_true rfl)⟩ (mr_recvS hR hE hz hS hA) hl.1 rfl (Nat.le_of_ble_eq_true rfl) dX7_whyNot_2 ⟨(Nat.le_of_ble_eq_true rfl), (Nat.le_of_ble_eq_true rfl)⟩) hR hz hS hA (fun H locs hR hz hS => ?_)
  refine lv_if_ne (tgt := 18) hx hb dX7_whyNot_5 (by decide) (fun hc => ?_) (fun hc => ?_)
  · have hrun := mt_f hrun hc
    refine lv_aload_n hx hb dX7_whyNot_18 rfl (lv_at hl 0 rfl) ?_
    refine lv_iload_n hx hb dX7_whyNot_19 rfl (lv_at hl 1 rfl) ?_
    refine lv_iload_n hx hb dX7_whyNot_20 rfl (lv_at hl 2 rfl) ?_
    refine lv_iload_n hx hb dX7_whyNot_21 rfl (lv_at hl 3 rfl) ?_
    obtain ⟨_, ho9, hrun⟩ := m_bind hrun
    obtain ⟨fs9, ho9⟩ := m_is_spec ho9
    obtain ⟨⟨x22, h22⟩, hc9, hrun⟩ := m_bind hrun
    refine mr_calli (mr_runV (As := [.int v1, .int v2, .int v3]) (rest := []) hx hb hml hown hts (c_X7_refusal l D ids st z hc9) yk_X7_refusal ys_X7_refusal wm_2_131 ⟨(Nat.le_of_ble_eq_true rfl), (Nat.le_of_ble_eq_true rfl)⟩ (mr_recv (ci := 5) hR hE hz hS hA rfl ho9) hl.1 rfl (Nat.le_of_ble_eq_true rfl) dX7_whyNot_22 ⟨(Nat.le_of_ble_eq_true rfl), (Nat.le_of_ble_eq_true rfl)⟩) hR hz hS hA (fun H locs hR hz hS => ?_)
    obtain ⟨rfl, rfl⟩ := Prod.mk.inj (Option.some.inj hrun)
    exact mrx_iret hx hb hr hlocks hR hS dX7_whyNot_25 (Nat.le_of_ble_eq_true rfl) (Nat.le_of_ble_eq_true rfl)
  · have hrun := mt_t hrun hc
    obtain ⟨rfl, rfl⟩ := Prod.mk.inj (Option.some.inj hrun)
    exact mr_throw (text := "minute or station is out of range") hx hb hfl hown hts hml hE yt_72 (List.mem_of_getElem? (i := 3) rfl) hR hS hl.1 dX7_whyNot_8 dX7_whyNot_11 dX7_whyNot_12 dX7_whyNot_14 dX7_whyNot_17 hout hlocks (Nat.le_of_ble_eq_true rfl) (Nat.le_of_ble_eq_true rfl) (Nat.le_of_ble_eq_true rfl) (Nat.le_of_ble_eq_true rfl) (Nat.le_of_ble_eq_true rfl) (Nat.le_of_ble_eq_true rfl)
/-! L_whyNot -/
abbrev rm_L_whyNot : Room := { frames := 8, cells := 1, slots := 6, locals := 184 }
theorem yk_L_whyNot : m_KH yL_whyNot cL_whyNot 6 (some .int) [(0, 12, 15, 13)] 5 := ⟨wm_3_22, wm_0_0, by decide +kernel⟩
theorem ys_L_whyNot : Cond.static yL_whyNot ∈ wT := wm_3_21
set_option maxRecDepth 100000 in
set_option maxHeartbeats 4000000 in
theorem c_L_whyNot (l : Launch) (hfl : l.stackTraces = false) (D : va_G) (ids : m_I3) (st : m_T) (z : Nat) {h : mH} {v0 : Nat} {v1 : Int32} {v2 : Int32} {v3 : Int32} {v4 : Nat} {r : Int32} {hF : mH} (hrun : s_L_whyNot h v0 v1 v2 v3 v4 = some (r, hF)) : Met l yL_whyNot (m_wsH yL_whyNot cL_whyNot 6 (some .int) [(0, 12, 15, 13)]) rm_L_whyNot (mPc D ids st [.ref v0, .int v1, .int v2, .int v3, .ref v4] h z) (mQwi D ids (m_A h z) r hF) rm_L_whyNot.cells rm_L_whyNot.slots (m_A h z) := by
  refine mr_ofH (cc := cL_whyNot) (maxL := 6) (ret := some .int) (hh := [(0, 12, 15, 13)]) (by decide) rfl (Nat.le_of_ble_eq_true rfl) ?_
  intro p e s m below meth c ls hx hb hr hml hown hts hlocks hin htab hR hE hz hl
  have hA : ∀ q, s.heap.size ≤ q → m_A h z q := fun q hq => Or.inr (by rw [← hz]; exact hq)
  have hS : va_S (m_A h z) s.heap s.heap [] := va_S.rf
  have hl : lv_has ls 6 [(0, .ref v0), (1, .int v1), (2, .int v2), (3, .int v3), (4, .ref v4)] := hl
  unfold s_L_whyNot at hrun
  refine lv_aload hx hb dL_whyNot_0 (lv_at hl 4 rfl) ?_
  refine lv_iconst (v := 0) hx hb dL_whyNot_2 (by decide) ?_
  refine lv_aload_n hx hb dL_whyNot_3 rfl (lv_at hl 0 rfl) ?_
  refine lv_iload_n hx hb dL_whyNot_4 rfl (lv_at hl 1 rfl) ?_
  refine lv_iload_n hx hb dL_whyNot_5 rfl (lv_at hl 2 rfl) ?_
  refine lv_iload_n hx hb dL_whyNot_6 rfl (lv_at hl 3 rfl) ?_
  obtain ⟨_, ho9, hrun⟩ := m_bind hrun
  obtain ⟨fs9, ho9⟩ := m_is_spec ho9
  obtain ⟨⟨r7, h7⟩, hc9, hrun⟩ := m_bind hrun
  refine mrx_calli (mrx_runV (As := [.int v1, .int v2, .int v3]) (rest := [.int 0, .ref v4]) hx hb hml hown hts (c_X7_whyNot l hfl D ids st z hc9) yk_X7_whyNot ys_X7_whyNot wm_3_23 ⟨(Nat.le_of_ble_eq_true rfl), (Nat.le_of_ble_eq_true rfl)⟩ (mr_recv (ci := 5) hR hE hz hS hA rfl ho9) hl.1 rfl (Nat.le_of_ble_eq_true rfl) dL_whyNot_7 ⟨(Nat.le_of_ble_eq_true rfl), (Nat.le_of_ble_eq_true rfl)⟩) hR hz hS hA (fun E9 ce9 q9 H locs hr9 hR hS hce hcv hcl => ?_) (fun x7 H locs hr9 hR hS => ?_)
  · subst hr9
    obtain ⟨z, hz⟩ : ∃ z, H.size = z := ⟨_, rfl⟩
    by_cases hc0 : E9 = "java/lang/IllegalArgumentException"
    · have hrun := mt_t hrun hc0
      rw [hc0] at hcl
      refine mr_catch0 hown htab (by decide) (by decide) (hts _ (List.mem_cons_of_mem _ wm_1_216)) hE.2.2.2.2.2.2.2 (List.mem_of_getElem? (i := 0) rfl) hce hcv hcl ?_
      refine lv_astore (lv' := [(5, .ref q9), (0, .ref v0), (1, .int v1), (2, .int v2), (3, .int v3), (4, .ref v4)]) hx hb dL_whyNot_15 hl (by decide) rfl (fun ls hl => ?_)
      refine lv_iconst (v := 1) hx hb dL_whyNot_17 (by decide) ?_
      obtain ⟨rfl, rfl⟩ := Prod.mk.inj (Option.some.inj hrun)
      exact mrw_iret hx hb hr hlocks hR hS dL_whyNot_18 (Nat.le_of_ble_eq_true rfl) (Nat.le_of_ble_eq_true rfl)
    have hrun := mt_f hrun hc0
    exact absurd hrun (fun h9 => nomatch h9)
  · subst hr9
    obtain ⟨z, hz⟩ : ∃ z, H.size = z := ⟨_, rfl⟩
    refine lv_i2l (v := x7.toInt64) hx hb dL_whyNot_10 rfl ?_
    obtain ⟨h11, hc9, hrun⟩ := m_bind hrun
    refine mr_last hx hb hR hz hS hc9 dL_whyNot_11 (fun H locs hR hz hS => ?_)
    refine lv_goto (tgt := 19) hx hb dL_whyNot_12 (by decide) ?_
    refine lv_iconst (v := 0) hx hb dL_whyNot_19 (by decide) ?_
    obtain ⟨rfl, rfl⟩ := Prod.mk.inj (Option.some.inj hrun)
    exact mrw_iret hx hb hr hlocks hR hS dL_whyNot_20 (Nat.le_of_ble_eq_true rfl) (Nat.le_of_ble_eq_true rfl)
/-! X7_leaky -/
abbrev rm_X7_leaky : Room := { frames := 1, cells := 0, slots := 0, locals := 21 }
theorem yk_X7_leaky : m_K yX7_leaky cX7_leaky 5 (some .int) 0 := ⟨wm_1_79, wm_0_1, by decide +kernel⟩
theorem ys_X7_leaky : Cond.instanceMethod yX7_leaky ∈ wT ∧ Cond.selects RX7 yX7_leaky yX7_leaky ∈ wT := ⟨wm_1_77, wm_1_78⟩
set_option maxRecDepth 100000 in
set_option maxHeartbeats 4000000 in
theorem k_X7_leaky_b36 {p : Program} {l : Launch} {e : Env} {s : State} {m : MethodId} {args : Array Value} {below : List Frame} {meth : Method} {c : Code} {D : va_G} {ids : m_I3} {st : m_T} {A : Nat → Prop} {z : Nat} {r : Int32} (hx : p.tables.exec = Jvm.exec) (hb : c.code = cX7_leaky) (hr : meth.sig.returnType = some .int) (hml : c.maxLocals = 5) (hown : s.vm.findClass RX7 = some m.cls) (hts : ∀ w ∈ (m_ws yX7_leaky cX7_leaky 5 (some .int)), w.before args s = true) (hlocks : meth.locks = false) (hin : meth.name = yX7_leaky.name) (hE : m_EV st A s s.heap) (hA : ∀ q, s.heap.size ≤ q → A q) {h : mH} {k6 : Nat → Int32 → Int32 → Int32 → Option (Int32)} (hk6 : ∀ (v0 : Nat) (v1 : Int32) (v2 : Int32) (v3 : Int32) (H : Heap) (locs : List Loc) (ls : Array Slot), k6 v0 v1 v2 v3 = some r → Rl D ids A h s H → H.size = z → va_S A s.heap H locs → lv_has ls 5 [(0, .ref v0), (1, .int v1), (2, .int v2), (3, .int v3)] → W p l e rm_X7_leaky s m args below meth c H locs 0 0 (MQ below (mQi D ids A r h z) args s 0 0 A) (F0 m 6 ls [])) (v0 : Nat) (v1 : Int32) (v2 : Int32) (v3 : Int32) (H : Heap) (locs : List Loc) (ls : Array Slot) (hrun : s_X7_leaky_b36 k6 h v0 v1 v2 v3 = some r) (hR : Rl D ids A h s H) (hz : H.size = z) (hS : va_S A s.heap H locs) (hl : lv_has ls 5 [(0, .ref v0), (1, .int v1), (2, .int v2), (3, .int v3)]) : W p l e rm_X7_leaky s m args below meth c H locs 0 0 (MQ below (mQi D ids A r h z) args s 0 0 A) (F0 m 36 ls []) := by
  unfold s_X7_leaky_b36 at hrun
  refine lv_iinc (v := v3 + 1) (lv' := [(3, .int (v3 + 1)), (0, .ref v0), (1, .int v1), (2, .int v2)]) hx hb dX7_leaky_36 hl (k := 3) rfl rfl (by decide) rfl (fun ls hl => ?_)
  refine lv_goto (tgt := 6) hx hb dX7_leaky_39 (by decide) ?_
  exact hk6 _ _ _ _ _ _ _ hrun hR hz hS (lv_sub hl [1, 2, 3, 0] rfl)
set_option maxRecDepth 100000 in
set_option maxHeartbeats 4000000 in
theorem k_X7_leaky_L6 {p : Program} {l : Launch} {e : Env} {s : State} {m : MethodId} {args : Array Value} {below : List Frame} {meth : Method} {c : Code} {D : va_G} {ids : m_I3} {st : m_T} {A : Nat → Prop} {z : Nat} {r : Int32} (hx : p.tables.exec = Jvm.exec) (hb : c.code = cX7_leaky) (hr : meth.sig.returnType = some .int) (hml : c.maxLocals = 5) (hown : s.vm.findClass RX7 = some m.cls) (hts : ∀ w ∈ (m_ws yX7_leaky cX7_leaky 5 (some .int)), w.before args s = true) (hlocks : meth.locks = false) (hin : meth.name = yX7_leaky.name) (hE : m_EV st A s s.heap) (hA : ∀ q, s.heap.size ≤ q → A q) {h : mH} : ∀ (n : Nat) (v0 : Nat) (v1 : Int32) (v2 : Int32) (v3 : Int32) (H : Heap) (locs : List Loc) (ls : Array Slot), s_X7_leaky_L6 h n v0 v1 v2 v3 = some r → Rl D ids A h s H → H.size = z → va_S A s.heap H locs → lv_has ls 5 [(0, .ref v0), (1, .int v1), (2, .int v2), (3, .int v3)] → W p l e rm_X7_leaky s m args below meth c H locs 0 0 (MQ below (mQi D ids A r h z) args s 0 0 A) (F0 m 6 ls []) := by
  intro n
  induction n with
  | zero => intro v0 v1 v2 v3 H locs ls hrun; exact absurd hrun (by intro h9; cases h9)
  | succ n ih =>
    intro v0 v1 v2 v3 H locs ls hrun hR hz hS hl
    rw [s_X7_leaky_L6] at hrun
    refine lv_iload_n hx hb dX7_leaky_6 rfl (lv_at hl 3 rfl) ?_
    refine lv_bipush (v := 10) hx hb dX7_leaky_7 (by decide) ?_
    refine lv_icmp_ge (tgt := 42) hx hb dX7_leaky_9 (by decide) (fun hc => ?_) (fun hc => ?_)
    · have hrun := mt_t hrun hc
      refine lv_iload_n hx hb dX7_leaky_42 rfl (lv_at hl 2 rfl) ?_
      obtain rfl := Option.some.inj hrun
      exact mr_iret hx hb hr hlocks hR hz hS dX7_leaky_43
    · have hrun := mt_f hrun hc
      refine lv_aload_n hx hb dX7_leaky_12 rfl (lv_at hl 0 rfl) ?_
      obtain ⟨x13, hc9, hrun⟩ := m_bind hrun
      refine mr_get (C := RX7) (T := TX7) (N := 8) (ci := 5) hx hb hts (fun w q => m_ws_in (wi_X7 w q)) hown hR rfl 1 (by decide) (hts _ (m_ws_in wm_1_12)) (fun _ h9 => h9) (m_gr_spec hc9) dX7_leaky_13 ?_
      obtain ⟨x16, hc9, hrun⟩ := m_bind hrun
      refine mr_getN (C := RX0) (T := TX0) (N := 9) (ci := 0) hx hb hts (fun w q => m_ws_in (wi_X0 w q)) hown hR rfl 5 (by decide) (hE.nf (i := 16) rfl) (fun _ h9 => h9) (m_gr_spec hc9) dX7_leaky_16 ?_
      refine lv_iload_n hx hb dX7_leaky_19 rfl (lv_at hl 3 rfl) ?_
      obtain ⟨x20, hc9, hrun⟩ := m_bind hrun
      refine mr_calli (mr_runS (As := [.ref x16, .int v3]) (rest := []) hx hb hml hown hts (c_X1_at l D ids st z hc9) yk_X1_at ys_X1_at wm_1_80 ⟨(Nat.le_of_ble_eq_true rfl), (Nat.le_of_ble_eq_true rfl)⟩ (mr_recvS hR hE hz hS hA) hl.1 rfl (Nat.le_of_ble_eq_true rfl) dX7_leaky_20 ⟨(Nat.le_of_ble_eq_true rfl), (Nat.le_of_ble_eq_true rfl)⟩) hR hz hS hA (fun H locs hR hz hS => ?_)
      refine lv_istore (lv' := [(4, .int x20), (0, .ref v0), (1, .int v1), (2, .int v2), (3, .int v3)]) hx hb dX7_leaky_23 hl (by decide) rfl (fun ls hl => ?_)
      refine lv_iload hx hb dX7_leaky_25 (lv_at hl 0 rfl) ?_
      refine lv_iload_n hx hb dX7_leaky_27 rfl (lv_at hl 2 rfl) ?_
      refine lv_icmp_le (tgt := 36) hx hb dX7_leaky_28 (by decide) (fun hc => ?_) (fun hc => ?_)
      · have hrun := mt_t hrun hc
        exact k_X7_leaky_b36 hx hb hr hml hown hts hlocks hin hE hA ih _ _ _ _ _ _ _ hrun hR hz hS (lv_sub hl [1, 2, 3, 4] rfl)
      · have hrun := mt_f hrun hc
        refine lv_iload hx hb dX7_leaky_31 (lv_at hl 0 rfl) ?_
        refine lv_istore_n (lv' := [(1, .int x20), (4, .int x20), (0, .ref v0), (2, .int v2), (3, .int v3)]) hx hb dX7_leaky_33 rfl hl (by decide) rfl (fun ls hl => ?_)
        refine lv_iload_n hx hb dX7_leaky_34 rfl (lv_at hl 4 rfl) ?_
        refine lv_istore_n (lv' := [(2, .int v3), (1, .int x20), (4, .int x20), (0, .ref v0), (3, .int v3)]) hx hb dX7_leaky_35 rfl hl (by decide) rfl (fun ls hl => ?_)
        exact k_X7_leaky_b36 hx hb hr hml hown hts hlocks hin hE hA ih _ _ _ _ _ _ _ hrun hR hz hS (lv_sub hl [3, 1, 0, 4] rfl)
set_option maxRecDepth 100000 in
set_option maxHeartbeats 4000000 in
theorem c_X7_leaky (l : Launch) (D : va_G) (ids : m_I3) (st : m_T) (z : Nat) {h : mH} {v0 : Nat} {r : Int32} (hrun : s_X7_leaky h v0 = some r) : Met l yX7_leaky (m_ws yX7_leaky cX7_leaky 5 (some .int)) rm_X7_leaky (mPc D ids st [.ref v0] h z) (mQi D ids (m_A h z) r h z) rm_X7_leaky.cells rm_X7_leaky.slots (m_A h z) := by
  refine mr_of (cc := cX7_leaky) (maxL := 5) (ret := some .int) (by decide) rfl (Nat.le_of_ble_eq_true rfl) ?_
  intro p e s m below meth c ls hx hb hr hml hown hts hlocks hin hR hE hz hl
  have hA : ∀ q, s.heap.size ≤ q → m_A h z q := fun q hq => Or.inr (by rw [← hz]; exact hq)
  have hS : va_S (m_A h z) s.heap s.heap [] := va_S.rf
  have hl : lv_has ls 5 [(0, .ref v0)] := hl
  unfold s_X7_leaky at hrun
  refine lv_iconst (v := 0) hx hb dX7_leaky_0 (by decide) ?_
  refine lv_istore_n (lv' := [(1, .int 0), (0, .ref v0)]) hx hb dX7_leaky_1 rfl hl (by decide) rfl (fun ls hl => ?_)
  refine lv_iconst (v := (-1)) hx hb dX7_leaky_2 (by decide) ?_
  refine lv_istore_n (lv' := [(2, .int (-1)), (1, .int 0), (0, .ref v0)]) hx hb dX7_leaky_3 rfl hl (by decide) rfl (fun ls hl => ?_)
  refine lv_iconst (v := 0) hx hb dX7_leaky_4 (by decide) ?_
  refine lv_istore_n (lv' := [(3, .int 0), (2, .int (-1)), (1, .int 0), (0, .ref v0)]) hx hb dX7_leaky_5 rfl hl (by decide) rfl (fun ls hl => ?_)
  exact k_X7_leaky_L6 hx hb hr hml hown hts hlocks hin hE hA _ _ _ _ _ _ _ _ hrun hR hz hS (lv_sub hl [3, 2, 1, 0] rfl)
/-! X7_leastCap -/
abbrev rm_X7_leastCap : Room := { frames := 4, cells := 0, slots := 0, locals := 89 }
theorem yk_X7_leastCap : m_K yX7_leastCap cX7_leastCap 4 (some .int) 0 := ⟨wm_1_84, wm_0_1, by decide +kernel⟩
theorem ys_X7_leastCap : Cond.instanceMethod yX7_leastCap ∈ wT ∧ Cond.selects RX7 yX7_leastCap yX7_leastCap ∈ wT := ⟨wm_1_82, wm_1_83⟩
set_option maxRecDepth 100000 in
set_option maxHeartbeats 4000000 in
theorem k_X7_leastCap_L11 {p : Program} {l : Launch} {e : Env} {s : State} {m : MethodId} {args : Array Value} {below : List Frame} {meth : Method} {c : Code} {D : va_G} {ids : m_I3} {st : m_T} {A : Nat → Prop} {z : Nat} {r : Int32} (hx : p.tables.exec = Jvm.exec) (hb : c.code = cX7_leastCap) (hr : meth.sig.returnType = some .int) (hml : c.maxLocals = 4) (hown : s.vm.findClass RX7 = some m.cls) (hts : ∀ w ∈ (m_ws yX7_leastCap cX7_leastCap 4 (some .int)), w.before args s = true) (hlocks : meth.locks = false) (hin : meth.name = yX7_leastCap.name) (hE : m_EV st A s s.heap) (hA : ∀ q, s.heap.size ≤ q → A q) {h : mH} {k4 : Nat → Int32 → Int32 → Option (Int32)} (hk4 : ∀ (v0 : Nat) (v1 : Int32) (v2 : Int32) (H : Heap) (locs : List Loc) (ls : Array Slot), k4 v0 v1 v2 = some r → Rl D ids A h s H → H.size = z → va_S A s.heap H locs → lv_has ls 4 [(0, .ref v0), (1, .int v1), (2, .int v2)] → W p l e rm_X7_leastCap s m args below meth c H locs 0 0 (MQ below (mQi D ids A r h z) args s 0 0 A) (F0 m 4 ls [])) : ∀ (n : Nat) (v0 : Nat) (v1 : Int32) (v2 : Int32) (v3 : Int32) (H : Heap) (locs : List Loc) (ls : Array Slot), s_X7_leastCap_L11 k4 h n v0 v1 v2 v3 = some r → Rl D ids A h s H → H.size = z → va_S A s.heap H locs → lv_has ls 4 [(0, .ref v0), (1, .int v1), (2, .int v2), (3, .int v3)] → W p l e rm_X7_leastCap s m args below meth c H locs 0 0 (MQ below (mQi D ids A r h z) args s 0 0 A) (F0 m 11 ls []) := by
  intro n
  induction n with
  | zero => intro v0 v1 v2 v3 H locs ls hrun; exact absurd hrun (by intro h9; cases h9)
  | succ n ih =>
    intro v0 v1 v2 v3 H locs ls hrun hR hz hS hl
    rw [s_X7_leastCap_L11] at hrun
    refine lv_iload_n hx hb dX7_leastCap_11 rfl (lv_at hl 3 rfl) ?_
    refine lv_iconst (v := 4) hx hb dX7_leastCap_12 (by decide) ?_
    refine lv_icmp_ge (tgt := 36) hx hb dX7_leastCap_13 (by decide) (fun hc => ?_) (fun hc => ?_)
    · have hrun := mt_t hrun hc
      refine lv_iinc (v := v2 + 1) (lv' := [(2, .int (v2 + 1)), (0, .ref v0), (1, .int v1), (3, .int v3)]) hx hb dX7_leastCap_36 hl (k := 2) rfl rfl (by decide) rfl (fun ls hl => ?_)
      refine lv_goto (tgt := 4) hx hb dX7_leastCap_39 (by decide) ?_
      exact hk4 _ _ _ _ _ _ hrun hR hz hS (lv_sub hl [1, 2, 0] rfl)
    · have hrun := mt_f hrun hc
      refine lv_iload_n hx hb dX7_leastCap_16 rfl (lv_at hl 1 rfl) ?_
      refine lv_aload_n hx hb dX7_leastCap_17 rfl (lv_at hl 0 rfl) ?_
      obtain ⟨x18, hc9, hrun⟩ := m_bind hrun
      refine mr_get (C := RX7) (T := TX7) (N := 8) (ci := 5) hx hb hts (fun w q => m_ws_in (wi_X7 w q)) hown hR rfl 1 (by decide) (hts _ (m_ws_in wm_1_12)) (fun _ h9 => h9) (m_gr_spec hc9) dX7_leastCap_18 ?_
      refine lv_iload_n hx hb dX7_leastCap_21 rfl (lv_at hl 2 rfl) ?_
      refine lv_iload_n hx hb dX7_leastCap_22 rfl (lv_at hl 3 rfl) ?_
      obtain ⟨_, ho9, hrun⟩ := m_bind hrun
      obtain ⟨fs9, ho9⟩ := m_is_spec ho9
      obtain ⟨x23, hc9, hrun⟩ := m_bind hrun
      refine mr_calli (mr_runV (As := [.int v2, .int v3]) (rest := [.int v1]) hx hb hml hown hts (c_X0_weekCost l D ids st z hc9) yk_X0_weekCost ys_X0_weekCost wm_1_85 ⟨(Nat.le_of_ble_eq_true rfl), (Nat.le_of_ble_eq_true rfl)⟩ (mr_recv (ci := 0) hR hE hz hS hA rfl ho9) hl.1 rfl (Nat.le_of_ble_eq_true rfl) dX7_leastCap_23 ⟨(Nat.le_of_ble_eq_true rfl), (Nat.le_of_ble_eq_true rfl)⟩) hR hz hS hA (fun H locs hR hz hS => ?_)
      refine va_mmax hx hb (hml.trans hl.1.symm) hown (hts _ (m_ws_in wm_1_100)) (hts _ (m_ws_in wm_1_101)) (hts _ (m_ws_in wm_0_9)) (hts _ (m_ws_in wm_1_102)) (Nat.le_of_ble_eq_true rfl) (Nat.le_of_ble_eq_true rfl) (Nat.le_of_ble_eq_true rfl) (Nat.le_of_ble_eq_true rfl) dX7_leastCap_26 ?_
      refine lv_istore_n (lv' := [(1, .int (if v1 < x23 then x23 else v1)), (0, .ref v0), (2, .int v2), (3, .int v3)]) hx hb dX7_leastCap_29 rfl hl (by decide) rfl (fun ls hl => ?_)
      refine lv_iinc (v := v3 + 1) (lv' := [(3, .int (v3 + 1)), (1, .int (if v1 < x23 then x23 else v1)), (0, .ref v0), (2, .int v2)]) hx hb dX7_leastCap_30 hl (k := 3) rfl rfl (by decide) rfl (fun ls hl => ?_)
      refine lv_goto (tgt := 11) hx hb dX7_leastCap_33 (by decide) ?_
      exact ih _ _ _ _ _ _ _ hrun hR hz hS (lv_sub hl [2, 1, 3, 0] rfl)
set_option maxRecDepth 100000 in
set_option maxHeartbeats 4000000 in
theorem k_X7_leastCap_L4 {p : Program} {l : Launch} {e : Env} {s : State} {m : MethodId} {args : Array Value} {below : List Frame} {meth : Method} {c : Code} {D : va_G} {ids : m_I3} {st : m_T} {A : Nat → Prop} {z : Nat} {r : Int32} (hx : p.tables.exec = Jvm.exec) (hb : c.code = cX7_leastCap) (hr : meth.sig.returnType = some .int) (hml : c.maxLocals = 4) (hown : s.vm.findClass RX7 = some m.cls) (hts : ∀ w ∈ (m_ws yX7_leastCap cX7_leastCap 4 (some .int)), w.before args s = true) (hlocks : meth.locks = false) (hin : meth.name = yX7_leastCap.name) (hE : m_EV st A s s.heap) (hA : ∀ q, s.heap.size ≤ q → A q) {h : mH} : ∀ (n : Nat) (v0 : Nat) (v1 : Int32) (v2 : Int32) (H : Heap) (locs : List Loc) (ls : Array Slot), s_X7_leastCap_L4 h n v0 v1 v2 = some r → Rl D ids A h s H → H.size = z → va_S A s.heap H locs → lv_has ls 4 [(0, .ref v0), (1, .int v1), (2, .int v2)] → W p l e rm_X7_leastCap s m args below meth c H locs 0 0 (MQ below (mQi D ids A r h z) args s 0 0 A) (F0 m 4 ls []) := by
  intro n
  induction n with
  | zero => intro v0 v1 v2 H locs ls hrun; exact absurd hrun (by intro h9; cases h9)
  | succ n ih =>
    intro v0 v1 v2 H locs ls hrun hR hz hS hl
    rw [s_X7_leastCap_L4] at hrun
    refine lv_iload_n hx hb dX7_leastCap_4 rfl (lv_at hl 2 rfl) ?_
    refine lv_iconst (v := 4) hx hb dX7_leastCap_5 (by decide) ?_
    refine lv_icmp_ge (tgt := 42) hx hb dX7_leastCap_6 (by decide) (fun hc => ?_) (fun hc => ?_)
    · have hrun := mt_t hrun hc
      refine lv_iload_n hx hb dX7_leastCap_42 rfl (lv_at hl 1 rfl) ?_
      obtain rfl := Option.some.inj hrun
      exact mr_iret hx hb hr hlocks hR hz hS dX7_leastCap_43
    · have hrun := mt_f hrun hc
      refine lv_iconst (v := 0) hx hb dX7_leastCap_9 (by decide) ?_
      refine lv_istore_n (lv' := [(3, .int 0), (0, .ref v0), (1, .int v1), (2, .int v2)]) hx hb dX7_leastCap_10 rfl hl (by decide) rfl (fun ls hl => ?_)
      exact k_X7_leastCap_L11 hx hb hr hml hown hts hlocks hin hE hA ih _ _ _ _ _ _ _ _ hrun hR hz hS (lv_sub hl [1, 2, 3, 0] rfl)
set_option maxRecDepth 100000 in
set_option maxHeartbeats 4000000 in
theorem c_X7_leastCap (l : Launch) (D : va_G) (ids : m_I3) (st : m_T) (z : Nat) {h : mH} {v0 : Nat} {r : Int32} (hrun : s_X7_leastCap h v0 = some r) : Met l yX7_leastCap (m_ws yX7_leastCap cX7_leastCap 4 (some .int)) rm_X7_leastCap (mPc D ids st [.ref v0] h z) (mQi D ids (m_A h z) r h z) rm_X7_leastCap.cells rm_X7_leastCap.slots (m_A h z) := by
  refine mr_of (cc := cX7_leastCap) (maxL := 4) (ret := some .int) (by decide) rfl (Nat.le_of_ble_eq_true rfl) ?_
  intro p e s m below meth c ls hx hb hr hml hown hts hlocks hin hR hE hz hl
  have hA : ∀ q, s.heap.size ≤ q → m_A h z q := fun q hq => Or.inr (by rw [← hz]; exact hq)
  have hS : va_S (m_A h z) s.heap s.heap [] := va_S.rf
  have hl : lv_has ls 4 [(0, .ref v0)] := hl
  unfold s_X7_leastCap at hrun
  refine lv_iconst (v := 0) hx hb dX7_leastCap_0 (by decide) ?_
  refine lv_istore_n (lv' := [(1, .int 0), (0, .ref v0)]) hx hb dX7_leastCap_1 rfl hl (by decide) rfl (fun ls hl => ?_)
  refine lv_iconst (v := 0) hx hb dX7_leastCap_2 (by decide) ?_
  refine lv_istore_n (lv' := [(2, .int 0), (1, .int 0), (0, .ref v0)]) hx hb dX7_leastCap_3 rfl hl (by decide) rfl (fun ls hl => ?_)
  exact k_X7_leastCap_L4 hx hb hr hml hown hts hlocks hin hE hA _ _ _ _ _ _ _ hrun hR hz hS (lv_sub hl [2, 1, 0] rfl)
/-! X7_capShare -/
abbrev rm_X7_capShare : Room := { frames := 5, cells := 0, slots := 0, locals := 112 }
theorem yk_X7_capShare : m_K yX7_capShare cX7_capShare 2 (some .double) 0 := ⟨wm_1_106, wm_0_1, by decide +kernel⟩
theorem ys_X7_capShare : Cond.instanceMethod yX7_capShare ∈ wT ∧ Cond.selects RX7 yX7_capShare yX7_capShare ∈ wT := ⟨wm_1_104, wm_1_105⟩
set_option maxRecDepth 100000 in
set_option maxHeartbeats 4000000 in
theorem k_X7_capShare_b27 {p : Program} {l : Launch} {e : Env} {s : State} {m : MethodId} {args : Array Value} {below : List Frame} {meth : Method} {c : Code} {D : va_G} {ids : m_I3} {st : m_T} {A : Nat → Prop} {z : Nat} {r : UInt64} (hx : p.tables.exec = Jvm.exec) (hb : c.code = cX7_capShare) (hr : meth.sig.returnType = some .double) (hml : c.maxLocals = 2) (hown : s.vm.findClass RX7 = some m.cls) (hts : ∀ w ∈ (m_ws yX7_capShare cX7_capShare 2 (some .double)), w.before args s = true) (hlocks : meth.locks = false) (hin : meth.name = yX7_capShare.name) (hE : m_EV st A s s.heap) (hA : ∀ q, s.heap.size ≤ q → A q) {h : mH} (t0 : UInt64) (H : Heap) (locs : List Loc) (ls : Array Slot) (hrun : s_X7_capShare_b27 h t0 = some r) (hR : Rl D ids A h s H) (hz : H.size = z) (hS : va_S A s.heap H locs) (hl : lv_has ls 2 []) : W p l e rm_X7_capShare s m args below meth c H locs 0 0 (MQ below (mQd D ids A r h z) args s 0 0 A) (F0 m 27 ls [.double t0]) := by
  unfold s_X7_capShare_b27 at hrun
  obtain rfl := Option.some.inj hrun
  exact mr_dret hx hb hr hlocks hR hz hS dX7_capShare_27
set_option maxRecDepth 100000 in
set_option maxHeartbeats 4000000 in
theorem c_X7_capShare (l : Launch) (D : va_G) (ids : m_I3) (st : m_T) (z : Nat) {h : mH} {v0 : Nat} {r : UInt64} (hrun : s_X7_capShare h v0 = some r) : Met l yX7_capShare (m_ws yX7_capShare cX7_capShare 2 (some .double)) rm_X7_capShare (mPc D ids st [.ref v0] h z) (mQd D ids (m_A h z) r h z) rm_X7_capShare.cells rm_X7_capShare.slots (m_A h z) := by
  refine mr_of (cc := cX7_capShare) (maxL := 2) (ret := some .double) (by decide) rfl (Nat.le_of_ble_eq_true rfl) ?_
  intro p e s m below meth c ls hx hb hr hml hown hts hlocks hin hR hE hz hl
  have hA : ∀ q, s.heap.size ≤ q → m_A h z q := fun q hq => Or.inr (by rw [← hz]; exact hq)
  have hS : va_S (m_A h z) s.heap s.heap [] := va_S.rf
  have hl : lv_has ls 2 [(0, .ref v0)] := hl
  unfold s_X7_capShare at hrun
  refine lv_aload_n hx hb dX7_capShare_0 rfl (lv_at hl 0 rfl) ?_
  obtain ⟨x1, hc9, hrun⟩ := m_bind hrun
  refine mr_get (C := RX7) (T := TX7) (N := 8) (ci := 5) hx hb hts (fun w q => m_ws_in (wi_X7 w q)) hown hR rfl 1 (by decide) (hts _ (m_ws_in wm_1_12)) (fun _ h9 => h9) (m_gr_spec hc9) dX7_capShare_1 ?_
  obtain ⟨x4, hc9, hrun⟩ := m_bind hrun
  refine mr_getN (C := RX0) (T := TX0) (N := 9) (ci := 0) hx hb hts (fun w q => m_ws_in (wi_X0 w q)) hown hR rfl 4 (by decide) (hE.nf (i := 15) rfl) (fun _ h9 => h9) (m_gr_spec hc9) dX7_capShare_4 ?_
  obtain ⟨x7, hc9, hrun⟩ := m_bind hrun
  refine mr_calli (mr_runS (As := [.ref x4]) (rest := []) hx hb hml hown hts (c_X1_sum l D ids st z hc9) yk_X1_sum ys_X1_sum wm_1_107 ⟨(Nat.le_of_ble_eq_true rfl), (Nat.le_of_ble_eq_true rfl)⟩ (mr_recvS hR hE hz hS hA) hl.1 rfl (Nat.le_of_ble_eq_true rfl) dX7_capShare_7 ⟨(Nat.le_of_ble_eq_true rfl), (Nat.le_of_ble_eq_true rfl)⟩) hR hz hS hA (fun H locs hR hz hS => ?_)
  refine lv_istore_n (lv' := [(1, .int x7), (0, .ref v0)]) hx hb dX7_capShare_10 rfl hl (by decide) rfl (fun ls hl => ?_)
  refine lv_iload_n hx hb dX7_capShare_11 rfl (lv_at hl 0 rfl) ?_
  refine lv_if_le (tgt := 26) hx hb dX7_capShare_12 (by decide) (fun hc => ?_) (fun hc => ?_)
  · have hrun := mt_t hrun hc
    refine lv_dconst1 hx hb dX7_capShare_26 ?_
    exact k_X7_capShare_b27 hx hb hr hml hown hts hlocks hin hE hA _ _ _ _ hrun hR hz hS (lv_sub hl [] rfl)
  · have hrun := mt_f hrun hc
    refine lv_aload_n hx hb dX7_capShare_15 rfl (lv_at hl 1 rfl) ?_
    obtain ⟨_, ho9, hrun⟩ := m_bind hrun
    obtain ⟨fs9, ho9⟩ := m_is_spec ho9
    obtain ⟨x16, hc9, hrun⟩ := m_bind hrun
    refine mr_calli (mr_runV (As := []) (rest := []) hx hb hml hown hts (c_X7_costOfAll l D ids st z hc9) yk_X7_costOfAll ys_X7_costOfAll wm_1_110 ⟨(Nat.le_of_ble_eq_true rfl), (Nat.le_of_ble_eq_true rfl)⟩ (mr_recv (ci := 5) hR hE hz hS hA rfl ho9) hl.1 rfl (Nat.le_of_ble_eq_true rfl) dX7_capShare_16 ⟨(Nat.le_of_ble_eq_true rfl), (Nat.le_of_ble_eq_true rfl)⟩) hR hz hS hA (fun H locs hR hz hS => ?_)
    refine lv_i2d hx hb dX7_capShare_19 ?_
    refine lv_iload_n hx hb dX7_capShare_20 rfl (lv_at hl 0 rfl) ?_
    refine lv_i2d hx hb dX7_capShare_21 ?_
    obtain ⟨x22, hc9, hrun⟩ := m_bind hrun
    obtain ⟨hn9, he9⟩ := m_d_spec hc9
    refine lv_ddiv hx hb dX7_capShare_22 hn9 ?_
    rw [he9]
    refine lv_goto (tgt := 27) hx hb dX7_capShare_23 (by decide) ?_
    exact k_X7_capShare_b27 hx hb hr hml hown hts hlocks hin hE hA _ _ _ _ hrun hR hz hS (lv_sub hl [] rfl)
/-! X7_mixed -/
abbrev rm_X7_mixed : Room := { frames := 0, cells := 0, slots := 0, locals := 0 }
theorem yk_X7_mixed : m_K yX7_mixed cX7_mixed 4 (some .long) 2 := ⟨wm_1_132, wm_0_1, by decide +kernel⟩
theorem ys_X7_mixed : Cond.static yX7_mixed ∈ wT := wm_1_131
set_option maxRecDepth 100000 in
set_option maxHeartbeats 4000000 in
theorem c_X7_mixed (l : Launch) (D : va_G) (ids : m_I3) (st : m_T) (z : Nat) {h : mH} {v0 : Int64} {v2 : Int64} {r : Int64} (hrun : s_X7_mixed h v0 v2 = some r) : Met l yX7_mixed (m_ws yX7_mixed cX7_mixed 4 (some .long)) rm_X7_mixed (mPc D ids st [.long v0, .long v2] h z) (mQl D ids (m_A h z) r h z) rm_X7_mixed.cells rm_X7_mixed.slots (m_A h z) := by
  refine mr_of (cc := cX7_mixed) (maxL := 4) (ret := some .long) (by decide) rfl (Nat.le_of_ble_eq_true rfl) ?_
  intro p e s m below meth c ls hx hb hr hml hown hts hlocks hin hR hE hz hl
  have hA : ∀ q, s.heap.size ≤ q → m_A h z q := fun q hq => Or.inr (by rw [← hz]; exact hq)
  have hS : va_S (m_A h z) s.heap s.heap [] := va_S.rf
  have hl : lv_has ls 4 [(0, .long v0), (2, .long v2)] := hl
  unfold s_X7_mixed at hrun
  refine lv_ldc2 (v := 31) hx hb hown (hts _ (m_ws_in wm_1_133)) dX7_mixed_0 ?_
  refine lv_lload_n hx hb dX7_mixed_3 rfl (lv_at hl 0 rfl) ?_
  refine lv_lmul hx hb dX7_mixed_4 ?_
  refine lv_lload_n hx hb dX7_mixed_5 rfl (lv_at hl 1 rfl) ?_
  refine lv_ladd hx hb dX7_mixed_6 ?_
  obtain rfl := Option.some.inj hrun
  exact mr_lret hx hb hr hlocks hR hz hS dX7_mixed_7
/-! X1_mixedAll -/
abbrev rm_X1_mixedAll : Room := { frames := 1, cells := 0, slots := 0, locals := 23 }
theorem yk_X1_mixedAll : m_K yX1_mixedAll cX1_mixedAll 7 (some .long) 3 := ⟨wm_1_136, wm_0_4, by decide +kernel⟩
theorem ys_X1_mixedAll : Cond.static yX1_mixedAll ∈ wT := wm_1_135
set_option maxRecDepth 100000 in
set_option maxHeartbeats 4000000 in
theorem k_X1_mixedAll_b37 {p : Program} {l : Launch} {e : Env} {s : State} {m : MethodId} {args : Array Value} {below : List Frame} {meth : Method} {c : Code} {D : va_G} {ids : m_I3} {st : m_T} {A : Nat → Prop} {z : Nat} {r : Int64} (hx : p.tables.exec = Jvm.exec) (hb : c.code = cX1_mixedAll) (hr : meth.sig.returnType = some .long) (hml : c.maxLocals = 7) (hown : s.vm.findClass RX1 = some m.cls) (hts : ∀ w ∈ (m_ws yX1_mixedAll cX1_mixedAll 7 (some .long)), w.before args s = true) (hlocks : meth.locks = false) (hin : meth.name = yX1_mixedAll.name) (hE : m_EV st A s s.heap) (hA : ∀ q, s.heap.size ≤ q → A q) {h : mH} (v4 : Int64) (H : Heap) (locs : List Loc) (ls : Array Slot) (hrun : s_X1_mixedAll_b37 h v4 = some r) (hR : Rl D ids A h s H) (hz : H.size = z) (hS : va_S A s.heap H locs) (hl : lv_has ls 7 [(4, .long v4)]) : W p l e rm_X1_mixedAll s m args below meth c H locs 0 0 (MQ below (mQl D ids A r h z) args s 0 0 A) (F0 m 37 ls []) := by
  unfold s_X1_mixedAll_b37 at hrun
  refine lv_lload hx hb dX1_mixedAll_37 (lv_at hl 0 rfl) ?_
  obtain rfl := Option.some.inj hrun
  exact mr_lret hx hb hr hlocks hR hz hS dX1_mixedAll_39
set_option maxRecDepth 100000 in
set_option maxHeartbeats 4000000 in
theorem k_X1_mixedAll_L6 {p : Program} {l : Launch} {e : Env} {s : State} {m : MethodId} {args : Array Value} {below : List Frame} {meth : Method} {c : Code} {D : va_G} {ids : m_I3} {st : m_T} {A : Nat → Prop} {z : Nat} {r : Int64} (hx : p.tables.exec = Jvm.exec) (hb : c.code = cX1_mixedAll) (hr : meth.sig.returnType = some .long) (hml : c.maxLocals = 7) (hown : s.vm.findClass RX1 = some m.cls) (hts : ∀ w ∈ (m_ws yX1_mixedAll cX1_mixedAll 7 (some .long)), w.before args s = true) (hlocks : meth.locks = false) (hin : meth.name = yX1_mixedAll.name) (hE : m_EV st A s s.heap) (hA : ∀ q, s.heap.size ≤ q → A q) {h : mH} : ∀ (n : Nat) (v2 : Nat) (v3 : Int32) (v4 : Int64) (v6 : Int32) (H : Heap) (locs : List Loc) (ls : Array Slot), s_X1_mixedAll_L6 h n v2 v3 v4 v6 = some r → Rl D ids A h s H → H.size = z → va_S A s.heap H locs → lv_has ls 7 [(2, .ref v2), (3, .int v3), (4, .long v4), (6, .int v6)] → W p l e rm_X1_mixedAll s m args below meth c H locs 0 0 (MQ below (mQl D ids A r h z) args s 0 0 A) (F0 m 6 ls []) := by
  intro n
  induction n with
  | zero => intro v2 v3 v4 v6 H locs ls hrun; exact absurd hrun (by intro h9; cases h9)
  | succ n ih =>
    intro v2 v3 v4 v6 H locs ls hrun hR hz hS hl
    rw [s_X1_mixedAll_L6] at hrun
    refine lv_iload hx hb dX1_mixedAll_6 (lv_at hl 3 rfl) ?_
    refine lv_iload_n hx hb dX1_mixedAll_8 rfl (lv_at hl 1 rfl) ?_
    refine lv_icmp_ge (tgt := 37) hx hb dX1_mixedAll_9 (by decide) (fun hc => ?_) (fun hc => ?_)
    · have hrun := mt_t hrun hc
      exact k_X1_mixedAll_b37 hx hb hr hml hown hts hlocks hin hE hA _ _ _ _ hrun hR hz hS (lv_sub hl [2] rfl)
    · have hrun := mt_f hrun hc
      refine lv_iload hx hb dX1_mixedAll_12 (lv_at hl 3 rfl) ?_
      refine lv_aload_n hx hb dX1_mixedAll_14 rfl (lv_at hl 0 rfl) ?_
      obtain ⟨x15, hc9, hrun⟩ := m_bind hrun
      refine mr_ilen hx hb hR hc9 dX1_mixedAll_15 ?_
      refine lv_icmp_ge (tgt := 37) hx hb dX1_mixedAll_16 (by decide) (fun hc => ?_) (fun hc => ?_)
      · have hrun := mt_t hrun hc
        exact k_X1_mixedAll_b37 hx hb hr hml hown hts hlocks hin hE hA _ _ _ _ hrun hR hz hS (lv_sub hl [2] rfl)
      · have hrun := mt_f hrun hc
        refine lv_lload hx hb dX1_mixedAll_19 (lv_at hl 2 rfl) ?_
        refine lv_aload_n hx hb dX1_mixedAll_21 rfl (lv_at hl 0 rfl) ?_
        refine lv_iload hx hb dX1_mixedAll_22 (lv_at hl 3 rfl) ?_
        obtain ⟨x24, hc9, hrun⟩ := m_bind hrun
        refine mr_iald hx hb hR hc9 dX1_mixedAll_24 ?_
        refine lv_i2l (v := x24.toInt64) hx hb dX1_mixedAll_25 rfl ?_
        obtain ⟨x26, hc9, hrun⟩ := m_bind hrun
        refine mr_calll (mr_runSN (As := [.long v4, .long x24.toInt64]) (rest := []) hx hb hml hown hts (c_X7_mixed l D ids st z hc9) yk_X7_mixed ys_X7_mixed (hE.nm (i := 2) rfl) ⟨(Nat.le_of_ble_eq_true rfl), (Nat.le_of_ble_eq_true rfl)⟩ (mr_recvS hR hE hz hS hA) hl.1 rfl (Nat.le_of_ble_eq_true rfl) dX1_mixedAll_26 ⟨(Nat.le_of_ble_eq_true rfl), (Nat.le_of_ble_eq_true rfl)⟩) hR hz hS hA (fun H locs hR hz hS => ?_)
        refine lv_lstore (lv' := [(4, .long x26), (2, .ref v2), (3, .int v3), (6, .int v6)]) hx hb dX1_mixedAll_29 hl (by decide) rfl (fun ls hl => ?_)
        refine lv_iinc (v := v6 + 1) (lv' := [(6, .int (v6 + 1)), (4, .long x26), (2, .ref v2), (3, .int v3)]) hx hb dX1_mixedAll_31 hl (k := 3) rfl rfl (by decide) rfl (fun ls hl => ?_)
        refine lv_goto (tgt := 6) hx hb dX1_mixedAll_34 (by decide) ?_
        exact ih _ _ _ _ _ _ _ hrun hR hz hS (lv_sub hl [2, 3, 1, 0] rfl)
set_option maxRecDepth 100000 in
set_option maxHeartbeats 4000000 in
theorem c_X1_mixedAll (l : Launch) (D : va_G) (ids : m_I3) (st : m_T) (z : Nat) {h : mH} {v0 : Int64} {v2 : Nat} {v3 : Int32} {r : Int64} (hrun : s_X1_mixedAll h v0 v2 v3 = some r) : Met l yX1_mixedAll (m_ws yX1_mixedAll cX1_mixedAll 7 (some .long)) rm_X1_mixedAll (mPc D ids st [.long v0, .ref v2, .int v3] h z) (mQl D ids (m_A h z) r h z) rm_X1_mixedAll.cells rm_X1_mixedAll.slots (m_A h z) := by
  refine mr_of (cc := cX1_mixedAll) (maxL := 7) (ret := some .long) (by decide) rfl (Nat.le_of_ble_eq_true rfl) ?_
  intro p e s m below meth c ls hx hb hr hml hown hts hlocks hin hR hE hz hl
  have hA : ∀ q, s.heap.size ≤ q → m_A h z q := fun q hq => Or.inr (by rw [← hz]; exact hq)
  have hS : va_S (m_A h z) s.heap s.heap [] := va_S.rf
  have hl : lv_has ls 7 [(0, .long v0), (2, .ref v2), (3, .int v3)] := hl
  unfold s_X1_mixedAll at hrun
  refine lv_lload_n hx hb dX1_mixedAll_0 rfl (lv_at hl 0 rfl) ?_
  refine lv_lstore (lv' := [(4, .long v0), (0, .long v0), (2, .ref v2), (3, .int v3)]) hx hb dX1_mixedAll_1 hl (by decide) rfl (fun ls hl => ?_)
  refine lv_iconst (v := 0) hx hb dX1_mixedAll_3 (by decide) ?_
  refine lv_istore (lv' := [(6, .int 0), (4, .long v0), (0, .long v0), (2, .ref v2), (3, .int v3)]) hx hb dX1_mixedAll_4 hl (by decide) rfl (fun ls hl => ?_)
  exact k_X1_mixedAll_L6 hx hb hr hml hown hts hlocks hin hE hA _ _ _ _ _ _ _ _ hrun hR hz hS (lv_sub hl [3, 4, 1, 0] rfl)
/-! X4_isClaimed -/
abbrev rm_X4_isClaimed : Room := { frames := 0, cells := 0, slots := 0, locals := 0 }
theorem yk_X4_isClaimed : m_K yX4_isClaimed cX4_isClaimed 1 (some .boolean) 1 := ⟨wm_1_150, wm_0_8, by decide +kernel⟩
theorem ys_X4_isClaimed : Cond.static yX4_isClaimed ∈ wT := wm_1_149
set_option maxRecDepth 100000 in
set_option maxHeartbeats 4000000 in
theorem k_X4_isClaimed_b11 {p : Program} {l : Launch} {e : Env} {s : State} {m : MethodId} {args : Array Value} {below : List Frame} {meth : Method} {c : Code} {D : va_G} {ids : m_I3} {st : m_T} {A : Nat → Prop} {z : Nat} {r : Int32} (hx : p.tables.exec = Jvm.exec) (hb : c.code = cX4_isClaimed) (hr : meth.sig.returnType = some .boolean) (hml : c.maxLocals = 1) (hown : s.vm.findClass RX4 = some m.cls) (hts : ∀ w ∈ (m_ws yX4_isClaimed cX4_isClaimed 1 (some .boolean)), w.before args s = true) (hlocks : meth.locks = false) (hin : meth.name = yX4_isClaimed.name) (hE : m_EV st A s s.heap) (hA : ∀ q, s.heap.size ≤ q → A q) {h : mH} (t0 : Int32) (H : Heap) (locs : List Loc) (ls : Array Slot) (hrun : s_X4_isClaimed_b11 h t0 = some r) (hR : Rl D ids A h s H) (hz : H.size = z) (hS : va_S A s.heap H locs) (hl : lv_has ls 1 []) : W p l e rm_X4_isClaimed s m args below meth c H locs 0 0 (MQ below (mQi D ids A r h z) args s 0 0 A) (F0 m 11 ls [.int t0]) := by
  unfold s_X4_isClaimed_b11 at hrun
  obtain ⟨w9, hzr, hrun⟩ := m_bind hrun
  obtain rfl := Option.some.inj hrun
  exact mr_zret hzr hx hb hr hlocks hR hz hS dX4_isClaimed_11
set_option maxRecDepth 100000 in
set_option maxHeartbeats 4000000 in
theorem c_X4_isClaimed (l : Launch) (D : va_G) (ids : m_I3) (st : m_T) (z : Nat) {h : mH} {v0 : Int32} {r : Int32} (hrun : s_X4_isClaimed h v0 = some r) : Met l yX4_isClaimed (m_ws yX4_isClaimed cX4_isClaimed 1 (some .boolean)) rm_X4_isClaimed (mPc D ids st [.int v0] h z) (mQi D ids (m_A h z) r h z) rm_X4_isClaimed.cells rm_X4_isClaimed.slots (m_A h z) := by
  refine mr_of (cc := cX4_isClaimed) (maxL := 1) (ret := some .boolean) (by decide) rfl (Nat.le_of_ble_eq_true rfl) ?_
  intro p e s m below meth c ls hx hb hr hml hown hts hlocks hin hR hE hz hl
  have hA : ∀ q, s.heap.size ≤ q → m_A h z q := fun q hq => Or.inr (by rw [← hz]; exact hq)
  have hS : va_S (m_A h z) s.heap s.heap [] := va_S.rf
  have hl : lv_has ls 1 [(0, .int v0)] := hl
  unfold s_X4_isClaimed at hrun
  refine lv_iload_n hx hb dX4_isClaimed_0 rfl (lv_at hl 0 rfl) ?_
  refine lv_iconst (v := 1) hx hb dX4_isClaimed_1 (by decide) ?_
  refine lv_iand hx hb dX4_isClaimed_2 ?_
  refine lv_if_eq (tgt := 10) hx hb dX4_isClaimed_3 (by decide) (fun hc => ?_) (fun hc => ?_)
  · have hrun := mt_t hrun hc
    refine lv_iconst (v := 0) hx hb dX4_isClaimed_10 (by decide) ?_
    exact k_X4_isClaimed_b11 hx hb hr hml hown hts hlocks hin hE hA _ _ _ _ hrun hR hz hS (lv_sub hl [] rfl)
  · have hrun := mt_f hrun hc
    refine lv_iconst (v := 1) hx hb dX4_isClaimed_6 (by decide) ?_
    refine lv_goto (tgt := 11) hx hb dX4_isClaimed_7 (by decide) ?_
    exact k_X4_isClaimed_b11 hx hb hr hml hown hts hlocks hin hE hA _ _ _ _ hrun hR hz hS (lv_sub hl [] rfl)
/-! X7_tapProperty -/
abbrev rm_X7_tapProperty : Room := { frames := 2, cells := 0, slots := 0, locals := 42 }
theorem yk_X7_tapProperty : m_K yX7_tapProperty cX7_tapProperty 4 (some .int) 2 := ⟨wm_1_141, wm_0_1, by decide +kernel⟩
theorem ys_X7_tapProperty : Cond.instanceMethod yX7_tapProperty ∈ wT ∧ Cond.selects RX7 yX7_tapProperty yX7_tapProperty ∈ wT := ⟨wm_1_140, wp_0_11⟩
set_option maxRecDepth 100000 in
set_option maxHeartbeats 4000000 in
theorem k_X7_tapProperty_b125 {p : Program} {l : Launch} {e : Env} {s : State} {m : MethodId} {args : Array Value} {below : List Frame} {meth : Method} {c : Code} {D : va_G} {ids : m_I3} {st : m_T} {A : Nat → Prop} {z : Nat} {r : Int32} (hx : p.tables.exec = Jvm.exec) (hb : c.code = cX7_tapProperty) (hr : meth.sig.returnType = some .int) (hml : c.maxLocals = 4) (hown : s.vm.findClass RX7 = some m.cls) (hts : ∀ w ∈ (m_ws yX7_tapProperty cX7_tapProperty 4 (some .int)), w.before args s = true) (hlocks : meth.locks = false) (hin : meth.name = yX7_tapProperty.name) (hE : m_EV st A s s.heap) (hA : ∀ q, s.heap.size ≤ q → A q) {h : mH} (t0 : Int32) (H : Heap) (locs : List Loc) (ls : Array Slot) (hrun : s_X7_tapProperty_b125 h t0 = some r) (hR : Rl D ids A h s H) (hz : H.size = z) (hS : va_S A s.heap H locs) (hl : lv_has ls 4 []) : W p l e rm_X7_tapProperty s m args below meth c H locs 0 0 (MQ below (mQi D ids A r h z) args s 0 0 A) (F0 m 125 ls [.int t0]) := by
  unfold s_X7_tapProperty_b125 at hrun
  obtain rfl := Option.some.inj hrun
  exact mr_iret hx hb hr hlocks hR hz hS dX7_tapProperty_125
set_option maxRecDepth 100000 in
set_option maxHeartbeats 4000000 in
theorem k_X7_tapProperty_b88 {p : Program} {l : Launch} {e : Env} {s : State} {m : MethodId} {args : Array Value} {below : List Frame} {meth : Method} {c : Code} {D : va_G} {ids : m_I3} {st : m_T} {A : Nat → Prop} {z : Nat} {r : Int32} (hx : p.tables.exec = Jvm.exec) (hb : c.code = cX7_tapProperty) (hr : meth.sig.returnType = some .int) (hml : c.maxLocals = 4) (hown : s.vm.findClass RX7 = some m.cls) (hts : ∀ w ∈ (m_ws yX7_tapProperty cX7_tapProperty 4 (some .int)), w.before args s = true) (hlocks : meth.locks = false) (hin : meth.name = yX7_tapProperty.name) (hE : m_EV st A s s.heap) (hA : ∀ q, s.heap.size ≤ q → A q) {h : mH} (t0 : Int32) (H : Heap) (locs : List Loc) (ls : Array Slot) (hrun : s_X7_tapProperty_b88 h t0 = some r) (hR : Rl D ids A h s H) (hz : H.size = z) (hS : va_S A s.heap H locs) (hl : lv_has ls 4 []) : W p l e rm_X7_tapProperty s m args below meth c H locs 0 0 (MQ below (mQi D ids A r h z) args s 0 0 A) (F0 m 88 ls [.int t0]) := by
  unfold s_X7_tapProperty_b88 at hrun
  obtain rfl := Option.some.inj hrun
  exact mr_iret hx hb hr hlocks hR hz hS dX7_tapProperty_88
set_option maxRecDepth 100000 in
set_option maxHeartbeats 4000000 in
theorem c_X7_tapProperty (l : Launch) (D : va_G) (ids : m_I3) (st : m_T) (z : Nat) {h : mH} {v0 : Nat} {v1 : Int32} {v2 : Int32} {r : Int32} (hrun : s_X7_tapProperty h v0 v1 v2 = some r) : Met l yX7_tapProperty (m_ws yX7_tapProperty cX7_tapProperty 4 (some .int)) rm_X7_tapProperty (mPc D ids st [.ref v0, .int v1, .int v2] h z) (mQi D ids (m_A h z) r h z) rm_X7_tapProperty.cells rm_X7_tapProperty.slots (m_A h z) := by
  refine mr_of (cc := cX7_tapProperty) (maxL := 4) (ret := some .int) (by decide) rfl (Nat.le_of_ble_eq_true rfl) ?_
  intro p e s m below meth c ls hx hb hr hml hown hts hlocks hin hR hE hz hl
  have hA : ∀ q, s.heap.size ≤ q → m_A h z q := fun q hq => Or.inr (by rw [← hz]; exact hq)
  have hS : va_S (m_A h z) s.heap s.heap [] := va_S.rf
  have hl : lv_has ls 4 [(0, .ref v0), (1, .int v1), (2, .int v2)] := hl
  unfold s_X7_tapProperty at hrun
  refine lv_aload_n hx hb dX7_tapProperty_0 rfl (lv_at hl 0 rfl) ?_
  obtain ⟨x1, hc9, hrun⟩ := m_bind hrun
  refine mr_get (C := RX7) (T := TX7) (N := 8) (ci := 5) hx hb hts (fun w q => m_ws_in (wi_X7 w q)) hown hR rfl 0 (by decide) (hts _ (m_ws_in wm_1_11)) (fun _ h9 => h9) (m_gr_spec hc9) dX7_tapProperty_1 ?_
  obtain ⟨x4, hc9, hrun⟩ := m_bind hrun
  refine mr_getN (C := RX3) (T := TX3) (N := 10) (ci := 2) hx hb hts (fun w q => m_ws_in (wi_X3 w q)) hown hR rfl 0 (by decide) (hE.nf (i := 3) rfl) (fun _ h9 => h9) (m_gr_spec hc9) dX7_tapProperty_4 ?_
  refine lv_iload_n hx hb dX7_tapProperty_7 rfl (lv_at hl 1 rfl) ?_
  obtain ⟨_, ho9, hrun⟩ := m_bind hrun
  obtain ⟨fs9, ho9⟩ := m_is_spec ho9
  obtain ⟨x8, hc9, hrun⟩ := m_bind hrun
  refine mr_calli (mr_runV (As := [.int v1]) (rest := []) hx hb hml hown hts (c_X5_tapAt l D ids st z hc9) yk_X5_tapAt ys_X5_tapAt wm_1_142 ⟨(Nat.le_of_ble_eq_true rfl), (Nat.le_of_ble_eq_true rfl)⟩ (mr_recv (ci := 3) hR hE hz hS hA rfl ho9) hl.1 rfl (Nat.le_of_ble_eq_true rfl) dX7_tapProperty_8 ⟨(Nat.le_of_ble_eq_true rfl), (Nat.le_of_ble_eq_true rfl)⟩) hR hz hS hA (fun H locs hR hz hS => ?_)
  refine lv_istore_n (lv' := [(3, .int x8), (0, .ref v0), (1, .int v1), (2, .int v2)]) hx hb dX7_tapProperty_11 rfl hl (by decide) rfl (fun ls hl => ?_)
  refine lv_iload_n hx hb dX7_tapProperty_12 rfl (lv_at hl 3 rfl) ?_
  by_cases hc0 : v2 = 0
  · have hrun := mt_t hrun hc0
    refine lv_tableIn (tgt := 56) (off := 43) hx hb dX7_tapProperty_13 (by rw [hc0]; decide) (by rw [hc0]; decide) (by rw [hc0]; rfl) (by decide) ?_
    refine lv_iload_n hx hb dX7_tapProperty_56 rfl (lv_at hl 0 rfl) ?_
    obtain ⟨x57, hc9, hrun⟩ := m_bind hrun
    refine mr_calli (mr_runS (As := [.int x8]) (rest := []) hx hb hml hown hts (c_X4_walletOf l D ids st z hc9) yk_X4_walletOf ys_X4_walletOf wm_1_143 ⟨(Nat.le_of_ble_eq_true rfl), (Nat.le_of_ble_eq_true rfl)⟩ (mr_recvS hR hE hz hS hA) hl.1 rfl (Nat.le_of_ble_eq_true rfl) dX7_tapProperty_57 ⟨(Nat.le_of_ble_eq_true rfl), (Nat.le_of_ble_eq_true rfl)⟩) hR hz hS hA (fun H locs hR hz hS => ?_)
    obtain rfl := Option.some.inj hrun
    exact mr_iret hx hb hr hlocks hR hz hS dX7_tapProperty_60
  have hrun := mt_f hrun hc0
  have hn0 : ¬ (v2).toInt = 0 := lv_neT hc0 rfl
  by_cases hc1 : v2 = 1
  · have hrun := mt_t hrun hc1
    refine lv_tableIn (tgt := 61) (off := 48) hx hb dX7_tapProperty_13 (by rw [hc1]; decide) (by rw [hc1]; decide) (by rw [hc1]; rfl) (by decide) ?_
    refine lv_iload_n hx hb dX7_tapProperty_61 rfl (lv_at hl 0 rfl) ?_
    obtain ⟨x62, hc9, hrun⟩ := m_bind hrun
    refine mr_calli (mr_runS (As := [.int x8]) (rest := []) hx hb hml hown hts (c_X4_dayOf l D ids st z hc9) yk_X4_dayOf ys_X4_dayOf wm_1_144 ⟨(Nat.le_of_ble_eq_true rfl), (Nat.le_of_ble_eq_true rfl)⟩ (mr_recvS hR hE hz hS hA) hl.1 rfl (Nat.le_of_ble_eq_true rfl) dX7_tapProperty_62 ⟨(Nat.le_of_ble_eq_true rfl), (Nat.le_of_ble_eq_true rfl)⟩) hR hz hS hA (fun H locs hR hz hS => ?_)
    obtain rfl := Option.some.inj hrun
    exact mr_iret hx hb hr hlocks hR hz hS dX7_tapProperty_65
  have hrun := mt_f hrun hc1
  have hn1 : ¬ (v2).toInt = 1 := lv_neT hc1 rfl
  by_cases hc2 : v2 = 2
  · have hrun := mt_t hrun hc2
    refine lv_tableIn (tgt := 66) (off := 53) hx hb dX7_tapProperty_13 (by rw [hc2]; decide) (by rw [hc2]; decide) (by rw [hc2]; rfl) (by decide) ?_
    refine lv_iload_n hx hb dX7_tapProperty_66 rfl (lv_at hl 0 rfl) ?_
    obtain ⟨x67, hc9, hrun⟩ := m_bind hrun
    refine mr_calli (mr_runS (As := [.int x8]) (rest := []) hx hb hml hown hts (c_X4_minuteOf l D ids st z hc9) yk_X4_minuteOf ys_X4_minuteOf wm_1_145 ⟨(Nat.le_of_ble_eq_true rfl), (Nat.le_of_ble_eq_true rfl)⟩ (mr_recvS hR hE hz hS hA) hl.1 rfl (Nat.le_of_ble_eq_true rfl) dX7_tapProperty_67 ⟨(Nat.le_of_ble_eq_true rfl), (Nat.le_of_ble_eq_true rfl)⟩) hR hz hS hA (fun H locs hR hz hS => ?_)
    obtain rfl := Option.some.inj hrun
    exact mr_iret hx hb hr hlocks hR hz hS dX7_tapProperty_70
  have hrun := mt_f hrun hc2
  have hn2 : ¬ (v2).toInt = 2 := lv_neT hc2 rfl
  by_cases hc3 : v2 = 3
  · have hrun := mt_t hrun hc3
    refine lv_tableIn (tgt := 71) (off := 58) hx hb dX7_tapProperty_13 (by rw [hc3]; decide) (by rw [hc3]; decide) (by rw [hc3]; rfl) (by decide) ?_
    refine lv_iload_n hx hb dX7_tapProperty_71 rfl (lv_at hl 0 rfl) ?_
    obtain ⟨x72, hc9, hrun⟩ := m_bind hrun
    refine mr_calli (mr_runS (As := [.int x8]) (rest := []) hx hb hml hown hts (c_X4_stationOf l D ids st z hc9) yk_X4_stationOf ys_X4_stationOf wm_1_146 ⟨(Nat.le_of_ble_eq_true rfl), (Nat.le_of_ble_eq_true rfl)⟩ (mr_recvS hR hE hz hS hA) hl.1 rfl (Nat.le_of_ble_eq_true rfl) dX7_tapProperty_72 ⟨(Nat.le_of_ble_eq_true rfl), (Nat.le_of_ble_eq_true rfl)⟩) hR hz hS hA (fun H locs hR hz hS => ?_)
    obtain rfl := Option.some.inj hrun
    exact mr_iret hx hb hr hlocks hR hz hS dX7_tapProperty_75
  have hrun := mt_f hrun hc3
  have hn3 : ¬ (v2).toInt = 3 := lv_neT hc3 rfl
  by_cases hc4 : v2 = 4
  · have hrun := mt_t hrun hc4
    refine lv_tableIn (tgt := 76) (off := 63) hx hb dX7_tapProperty_13 (by rw [hc4]; decide) (by rw [hc4]; decide) (by rw [hc4]; rfl) (by decide) ?_
    refine lv_iload_n hx hb dX7_tapProperty_76 rfl (lv_at hl 0 rfl) ?_
    obtain ⟨x77, hc9, hrun⟩ := m_bind hrun
    refine mr_calli (mr_runS (As := [.int x8]) (rest := []) hx hb hml hown hts (c_X4_isIn l D ids st z hc9) yk_X4_isIn ys_X4_isIn wm_1_147 ⟨(Nat.le_of_ble_eq_true rfl), (Nat.le_of_ble_eq_true rfl)⟩ (mr_recvS hR hE hz hS hA) hl.1 rfl (Nat.le_of_ble_eq_true rfl) dX7_tapProperty_77 ⟨(Nat.le_of_ble_eq_true rfl), (Nat.le_of_ble_eq_true rfl)⟩) hR hz hS hA (fun H locs hR hz hS => ?_)
    refine lv_if_eq (tgt := 87) hx hb dX7_tapProperty_80 (by decide) (fun hc => ?_) (fun hc => ?_)
    · have hrun := mt_t hrun hc
      refine lv_iconst (v := 0) hx hb dX7_tapProperty_87 (by decide) ?_
      exact k_X7_tapProperty_b88 hx hb hr hml hown hts hlocks hin hE hA _ _ _ _ hrun hR hz hS (lv_sub hl [] rfl)
    · have hrun := mt_f hrun hc
      refine lv_iconst (v := 1) hx hb dX7_tapProperty_83 (by decide) ?_
      refine lv_goto (tgt := 88) hx hb dX7_tapProperty_84 (by decide) ?_
      exact k_X7_tapProperty_b88 hx hb hr hml hown hts hlocks hin hE hA _ _ _ _ hrun hR hz hS (lv_sub hl [] rfl)
  have hrun := mt_f hrun hc4
  have hn4 : ¬ (v2).toInt = 4 := lv_neT hc4 rfl
  by_cases hc5 : v2 = 5
  · have hrun := mt_t hrun hc5
    refine lv_tableIn (tgt := 89) (off := 76) hx hb dX7_tapProperty_13 (by rw [hc5]; decide) (by rw [hc5]; decide) (by rw [hc5]; rfl) (by decide) ?_
    refine lv_aload_n hx hb dX7_tapProperty_89 rfl (lv_at hl 1 rfl) ?_
    obtain ⟨x90, hc9, hrun⟩ := m_bind hrun
    refine mr_get (C := RX7) (T := TX7) (N := 8) (ci := 5) hx hb hts (fun w q => m_ws_in (wi_X7 w q)) hown hR rfl 1 (by decide) (hts _ (m_ws_in wm_1_12)) (fun _ h9 => h9) (m_gr_spec hc9) dX7_tapProperty_90 ?_
    obtain ⟨x93, hc9, hrun⟩ := m_bind hrun
    refine mr_getN (C := RX0) (T := TX0) (N := 9) (ci := 0) hx hb hts (fun w q => m_ws_in (wi_X0 w q)) hown hR rfl 0 (by decide) (hE.nf (i := 11) rfl) (fun _ h9 => h9) (m_gr_spec hc9) dX7_tapProperty_93 ?_
    refine lv_iload_n hx hb dX7_tapProperty_96 rfl (lv_at hl 2 rfl) ?_
    obtain ⟨x97, hc9, hrun⟩ := m_bind hrun
    refine mr_calli (mr_runS (As := [.ref x93, .int v1]) (rest := []) hx hb hml hown hts (c_X1_at l D ids st z hc9) yk_X1_at ys_X1_at wm_1_80 ⟨(Nat.le_of_ble_eq_true rfl), (Nat.le_of_ble_eq_true rfl)⟩ (mr_recvS hR hE hz hS hA) hl.1 rfl (Nat.le_of_ble_eq_true rfl) dX7_tapProperty_97 ⟨(Nat.le_of_ble_eq_true rfl), (Nat.le_of_ble_eq_true rfl)⟩) hR hz hS hA (fun H locs hR hz hS => ?_)
    obtain rfl := Option.some.inj hrun
    exact mr_iret hx hb hr hlocks hR hz hS dX7_tapProperty_100
  have hrun := mt_f hrun hc5
  have hn5 : ¬ (v2).toInt = 5 := lv_neT hc5 rfl
  by_cases hc6 : v2 = 6
  · have hrun := mt_t hrun hc6
    refine lv_tableIn (tgt := 101) (off := 88) hx hb dX7_tapProperty_13 (by rw [hc6]; decide) (by rw [hc6]; decide) (by rw [hc6]; rfl) (by decide) ?_
    refine lv_aload_n hx hb dX7_tapProperty_101 rfl (lv_at hl 1 rfl) ?_
    obtain ⟨x102, hc9, hrun⟩ := m_bind hrun
    refine mr_get (C := RX7) (T := TX7) (N := 8) (ci := 5) hx hb hts (fun w q => m_ws_in (wi_X7 w q)) hown hR rfl 1 (by decide) (hts _ (m_ws_in wm_1_12)) (fun _ h9 => h9) (m_gr_spec hc9) dX7_tapProperty_102 ?_
    obtain ⟨x105, hc9, hrun⟩ := m_bind hrun
    refine mr_getN (C := RX0) (T := TX0) (N := 9) (ci := 0) hx hb hts (fun w q => m_ws_in (wi_X0 w q)) hown hR rfl 1 (by decide) (hE.nf (i := 12) rfl) (fun _ h9 => h9) (m_gr_spec hc9) dX7_tapProperty_105 ?_
    refine lv_iload_n hx hb dX7_tapProperty_108 rfl (lv_at hl 2 rfl) ?_
    obtain ⟨x109, hc9, hrun⟩ := m_bind hrun
    refine mr_calli (mr_runS (As := [.ref x105, .int v1]) (rest := []) hx hb hml hown hts (c_X1_at l D ids st z hc9) yk_X1_at ys_X1_at wm_1_80 ⟨(Nat.le_of_ble_eq_true rfl), (Nat.le_of_ble_eq_true rfl)⟩ (mr_recvS hR hE hz hS hA) hl.1 rfl (Nat.le_of_ble_eq_true rfl) dX7_tapProperty_109 ⟨(Nat.le_of_ble_eq_true rfl), (Nat.le_of_ble_eq_true rfl)⟩) hR hz hS hA (fun H locs hR hz hS => ?_)
    obtain rfl := Option.some.inj hrun
    exact mr_iret hx hb hr hlocks hR hz hS dX7_tapProperty_112
  have hrun := mt_f hrun hc6
  have hn6 : ¬ (v2).toInt = 6 := lv_neT hc6 rfl
  refine lv_tableOut (tgt := 113) hx hb dX7_tapProperty_13 (by omega) (by decide) ?_
  refine lv_iload_n hx hb dX7_tapProperty_113 rfl (lv_at hl 0 rfl) ?_
  obtain ⟨x114, hc9, hrun⟩ := m_bind hrun
  refine mr_calli (mr_runS (As := [.int x8]) (rest := []) hx hb hml hown hts (c_X4_isClaimed l D ids st z hc9) yk_X4_isClaimed ys_X4_isClaimed wm_1_148 ⟨(Nat.le_of_ble_eq_true rfl), (Nat.le_of_ble_eq_true rfl)⟩ (mr_recvS hR hE hz hS hA) hl.1 rfl (Nat.le_of_ble_eq_true rfl) dX7_tapProperty_114 ⟨(Nat.le_of_ble_eq_true rfl), (Nat.le_of_ble_eq_true rfl)⟩) hR hz hS hA (fun H locs hR hz hS => ?_)
  refine lv_if_eq (tgt := 124) hx hb dX7_tapProperty_117 (by decide) (fun hc => ?_) (fun hc => ?_)
  · have hrun := mt_t hrun hc
    refine lv_iconst (v := 0) hx hb dX7_tapProperty_124 (by decide) ?_
    exact k_X7_tapProperty_b125 hx hb hr hml hown hts hlocks hin hE hA _ _ _ _ hrun hR hz hS (lv_sub hl [] rfl)
  · have hrun := mt_f hrun hc
    refine lv_iconst (v := 1) hx hb dX7_tapProperty_120 (by decide) ?_
    refine lv_goto (tgt := 125) hx hb dX7_tapProperty_121 (by decide) ?_
    exact k_X7_tapProperty_b125 hx hb hr hml hown hts hlocks hin hE hA _ _ _ _ hrun hR hz hS (lv_sub hl [] rfl)
/-! X7_dayNumber -/
abbrev rm_X7_dayNumber : Room := { frames := 2, cells := 0, slots := 0, locals := 43 }
theorem yk_X7_dayNumber : m_K yX7_dayNumber cX7_dayNumber 4 (some .int) 3 := ⟨wm_1_160, wm_0_1, by decide +kernel⟩
theorem ys_X7_dayNumber : Cond.instanceMethod yX7_dayNumber ∈ wT ∧ Cond.selects RX7 yX7_dayNumber yX7_dayNumber ∈ wT := ⟨wm_1_159, wp_0_13⟩
set_option maxRecDepth 100000 in
set_option maxHeartbeats 4000000 in
theorem c_X7_dayNumber (l : Launch) (D : va_G) (ids : m_I3) (st : m_T) (z : Nat) {h : mH} {v0 : Nat} {v1 : Int32} {v2 : Int32} {v3 : Int32} {r : Int32} (hrun : s_X7_dayNumber h v0 v1 v2 v3 = some r) : Met l yX7_dayNumber (m_ws yX7_dayNumber cX7_dayNumber 4 (some .int)) rm_X7_dayNumber (mPc D ids st [.ref v0, .int v1, .int v2, .int v3] h z) (mQi D ids (m_A h z) r h z) rm_X7_dayNumber.cells rm_X7_dayNumber.slots (m_A h z) := by
  refine mr_of (cc := cX7_dayNumber) (maxL := 4) (ret := some .int) (by decide) rfl (Nat.le_of_ble_eq_true rfl) ?_
  intro p e s m below meth c ls hx hb hr hml hown hts hlocks hin hR hE hz hl
  have hA : ∀ q, s.heap.size ≤ q → m_A h z q := fun q hq => Or.inr (by rw [← hz]; exact hq)
  have hS : va_S (m_A h z) s.heap s.heap [] := va_S.rf
  have hl : lv_has ls 4 [(0, .ref v0), (1, .int v1), (2, .int v2), (3, .int v3)] := hl
  unfold s_X7_dayNumber at hrun
  refine lv_iload_n hx hb dX7_dayNumber_0 rfl (lv_at hl 3 rfl) ?_
  by_cases hc0 : v3 = 0
  · have hrun := mt_t hrun hc0
    refine lv_tableIn (tgt := 28) (off := 27) hx hb dX7_dayNumber_1 (by rw [hc0]; decide) (by rw [hc0]; decide) (by rw [hc0]; rfl) (by decide) ?_
    refine lv_aload_n hx hb dX7_dayNumber_28 rfl (lv_at hl 0 rfl) ?_
    obtain ⟨x29, hc9, hrun⟩ := m_bind hrun
    refine mr_get (C := RX7) (T := TX7) (N := 8) (ci := 5) hx hb hts (fun w q => m_ws_in (wi_X7 w q)) hown hR rfl 1 (by decide) (hts _ (m_ws_in wm_1_12)) (fun _ h9 => h9) (m_gr_spec hc9) dX7_dayNumber_29 ?_
    obtain ⟨x32, hc9, hrun⟩ := m_bind hrun
    refine mr_getN (C := RX0) (T := TX0) (N := 9) (ci := 0) hx hb hts (fun w q => m_ws_in (wi_X0 w q)) hown hR rfl 2 (by decide) (hE.nf (i := 13) rfl) (fun _ h9 => h9) (m_gr_spec hc9) dX7_dayNumber_32 ?_
    refine lv_iload_n hx hb dX7_dayNumber_35 rfl (lv_at hl 1 rfl) ?_
    refine lv_iload_n hx hb dX7_dayNumber_36 rfl (lv_at hl 2 rfl) ?_
    obtain ⟨x37, hc9, hrun⟩ := m_bind hrun
    refine mr_calli (mr_runS (As := [.int v1, .int v2]) (rest := [.ref x32]) hx hb hml hown hts (c_X7_dayCell l D ids st z hc9) yk_X7_dayCell ys_X7_dayCell wm_1_161 ⟨(Nat.le_of_ble_eq_true rfl), (Nat.le_of_ble_eq_true rfl)⟩ (mr_recvS hR hE hz hS hA) hl.1 rfl (Nat.le_of_ble_eq_true rfl) dX7_dayNumber_37 ⟨(Nat.le_of_ble_eq_true rfl), (Nat.le_of_ble_eq_true rfl)⟩) hR hz hS hA (fun H locs hR hz hS => ?_)
    obtain ⟨x40, hc9, hrun⟩ := m_bind hrun
    refine mr_calli (mr_runS (As := [.ref x32, .int x37]) (rest := []) hx hb hml hown hts (c_X1_at l D ids st z hc9) yk_X1_at ys_X1_at wm_1_80 ⟨(Nat.le_of_ble_eq_true rfl), (Nat.le_of_ble_eq_true rfl)⟩ (mr_recvS hR hE hz hS hA) hl.1 rfl (Nat.le_of_ble_eq_true rfl) dX7_dayNumber_40 ⟨(Nat.le_of_ble_eq_true rfl), (Nat.le_of_ble_eq_true rfl)⟩) hR hz hS hA (fun H locs hR hz hS => ?_)
    obtain rfl := Option.some.inj hrun
    exact mr_iret hx hb hr hlocks hR hz hS dX7_dayNumber_43
  have hrun := mt_f hrun hc0
  have hn0 : ¬ (v3).toInt = 0 := lv_neT hc0 rfl
  by_cases hc1 : v3 = 1
  · have hrun := mt_t hrun hc1
    refine lv_tableIn (tgt := 44) (off := 43) hx hb dX7_dayNumber_1 (by rw [hc1]; decide) (by rw [hc1]; decide) (by rw [hc1]; rfl) (by decide) ?_
    refine lv_aload_n hx hb dX7_dayNumber_44 rfl (lv_at hl 0 rfl) ?_
    obtain ⟨x45, hc9, hrun⟩ := m_bind hrun
    refine mr_get (C := RX7) (T := TX7) (N := 8) (ci := 5) hx hb hts (fun w q => m_ws_in (wi_X7 w q)) hown hR rfl 1 (by decide) (hts _ (m_ws_in wm_1_12)) (fun _ h9 => h9) (m_gr_spec hc9) dX7_dayNumber_45 ?_
    obtain ⟨x48, hc9, hrun⟩ := m_bind hrun
    refine mr_getN (C := RX0) (T := TX0) (N := 9) (ci := 0) hx hb hts (fun w q => m_ws_in (wi_X0 w q)) hown hR rfl 3 (by decide) (hE.nf (i := 14) rfl) (fun _ h9 => h9) (m_gr_spec hc9) dX7_dayNumber_48 ?_
    refine lv_iload_n hx hb dX7_dayNumber_51 rfl (lv_at hl 1 rfl) ?_
    refine lv_iload_n hx hb dX7_dayNumber_52 rfl (lv_at hl 2 rfl) ?_
    obtain ⟨x53, hc9, hrun⟩ := m_bind hrun
    refine mr_calli (mr_runS (As := [.int v1, .int v2]) (rest := [.ref x48]) hx hb hml hown hts (c_X7_dayCell l D ids st z hc9) yk_X7_dayCell ys_X7_dayCell wm_1_161 ⟨(Nat.le_of_ble_eq_true rfl), (Nat.le_of_ble_eq_true rfl)⟩ (mr_recvS hR hE hz hS hA) hl.1 rfl (Nat.le_of_ble_eq_true rfl) dX7_dayNumber_53 ⟨(Nat.le_of_ble_eq_true rfl), (Nat.le_of_ble_eq_true rfl)⟩) hR hz hS hA (fun H locs hR hz hS => ?_)
    obtain ⟨x56, hc9, hrun⟩ := m_bind hrun
    refine mr_calli (mr_runS (As := [.ref x48, .int x53]) (rest := []) hx hb hml hown hts (c_X1_at l D ids st z hc9) yk_X1_at ys_X1_at wm_1_80 ⟨(Nat.le_of_ble_eq_true rfl), (Nat.le_of_ble_eq_true rfl)⟩ (mr_recvS hR hE hz hS hA) hl.1 rfl (Nat.le_of_ble_eq_true rfl) dX7_dayNumber_56 ⟨(Nat.le_of_ble_eq_true rfl), (Nat.le_of_ble_eq_true rfl)⟩) hR hz hS hA (fun H locs hR hz hS => ?_)
    obtain rfl := Option.some.inj hrun
    exact mr_iret hx hb hr hlocks hR hz hS dX7_dayNumber_59
  have hrun := mt_f hrun hc1
  have hn1 : ¬ (v3).toInt = 1 := lv_neT hc1 rfl
  by_cases hc2 : v3 = 2
  · have hrun := mt_t hrun hc2
    refine lv_tableIn (tgt := 60) (off := 59) hx hb dX7_dayNumber_1 (by rw [hc2]; decide) (by rw [hc2]; decide) (by rw [hc2]; rfl) (by decide) ?_
    refine lv_aload_n hx hb dX7_dayNumber_60 rfl (lv_at hl 0 rfl) ?_
    obtain ⟨x61, hc9, hrun⟩ := m_bind hrun
    refine mr_get (C := RX7) (T := TX7) (N := 8) (ci := 5) hx hb hts (fun w q => m_ws_in (wi_X7 w q)) hown hR rfl 1 (by decide) (hts _ (m_ws_in wm_1_12)) (fun _ h9 => h9) (m_gr_spec hc9) dX7_dayNumber_61 ?_
    obtain ⟨x64, hc9, hrun⟩ := m_bind hrun
    refine mr_getN (C := RX0) (T := TX0) (N := 9) (ci := 0) hx hb hts (fun w q => m_ws_in (wi_X0 w q)) hown hR rfl 4 (by decide) (hE.nf (i := 15) rfl) (fun _ h9 => h9) (m_gr_spec hc9) dX7_dayNumber_64 ?_
    refine lv_iload_n hx hb dX7_dayNumber_67 rfl (lv_at hl 1 rfl) ?_
    refine lv_iload_n hx hb dX7_dayNumber_68 rfl (lv_at hl 2 rfl) ?_
    obtain ⟨x69, hc9, hrun⟩ := m_bind hrun
    refine mr_calli (mr_runS (As := [.int v1, .int v2]) (rest := [.ref x64]) hx hb hml hown hts (c_X7_dayCell l D ids st z hc9) yk_X7_dayCell ys_X7_dayCell wm_1_161 ⟨(Nat.le_of_ble_eq_true rfl), (Nat.le_of_ble_eq_true rfl)⟩ (mr_recvS hR hE hz hS hA) hl.1 rfl (Nat.le_of_ble_eq_true rfl) dX7_dayNumber_69 ⟨(Nat.le_of_ble_eq_true rfl), (Nat.le_of_ble_eq_true rfl)⟩) hR hz hS hA (fun H locs hR hz hS => ?_)
    obtain ⟨x72, hc9, hrun⟩ := m_bind hrun
    refine mr_calli (mr_runS (As := [.ref x64, .int x69]) (rest := []) hx hb hml hown hts (c_X1_at l D ids st z hc9) yk_X1_at ys_X1_at wm_1_80 ⟨(Nat.le_of_ble_eq_true rfl), (Nat.le_of_ble_eq_true rfl)⟩ (mr_recvS hR hE hz hS hA) hl.1 rfl (Nat.le_of_ble_eq_true rfl) dX7_dayNumber_72 ⟨(Nat.le_of_ble_eq_true rfl), (Nat.le_of_ble_eq_true rfl)⟩) hR hz hS hA (fun H locs hR hz hS => ?_)
    obtain rfl := Option.some.inj hrun
    exact mr_iret hx hb hr hlocks hR hz hS dX7_dayNumber_75
  have hrun := mt_f hrun hc2
  have hn2 : ¬ (v3).toInt = 2 := lv_neT hc2 rfl
  refine lv_tableOut (tgt := 76) hx hb dX7_dayNumber_1 (by omega) (by decide) ?_
  refine lv_aload_n hx hb dX7_dayNumber_76 rfl (lv_at hl 0 rfl) ?_
  obtain ⟨x77, hc9, hrun⟩ := m_bind hrun
  refine mr_get (C := RX7) (T := TX7) (N := 8) (ci := 5) hx hb hts (fun w q => m_ws_in (wi_X7 w q)) hown hR rfl 1 (by decide) (hts _ (m_ws_in wm_1_12)) (fun _ h9 => h9) (m_gr_spec hc9) dX7_dayNumber_77 ?_
  refine lv_iload_n hx hb dX7_dayNumber_80 rfl (lv_at hl 1 rfl) ?_
  refine lv_iload_n hx hb dX7_dayNumber_81 rfl (lv_at hl 2 rfl) ?_
  obtain ⟨_, ho9, hrun⟩ := m_bind hrun
  obtain ⟨fs9, ho9⟩ := m_is_spec ho9
  obtain ⟨x82, hc9, hrun⟩ := m_bind hrun
  refine mr_calli (mr_runV (As := [.int v1, .int v2]) (rest := []) hx hb hml hown hts (c_X0_dayCost l D ids st z hc9) yk_X0_dayCost ys_X0_dayCost wm_1_162 ⟨(Nat.le_of_ble_eq_true rfl), (Nat.le_of_ble_eq_true rfl)⟩ (mr_recv (ci := 0) hR hE hz hS hA rfl ho9) hl.1 rfl (Nat.le_of_ble_eq_true rfl) dX7_dayNumber_82 ⟨(Nat.le_of_ble_eq_true rfl), (Nat.le_of_ble_eq_true rfl)⟩) hR hz hS hA (fun H locs hR hz hS => ?_)
  obtain rfl := Option.some.inj hrun
  exact mr_iret hx hb hr hlocks hR hz hS dX7_dayNumber_85
/-! X7_mixedWallet -/
abbrev rm_X7_mixedWallet : Room := { frames := 5, cells := 0, slots := 0, locals := 112 }
theorem yk_X7_mixedWallet : m_K yX7_mixedWallet cX7_mixedWallet 11 (some .long) 2 := ⟨wm_1_154, wm_0_1, by decide +kernel⟩
theorem ys_X7_mixedWallet : Cond.instanceMethod yX7_mixedWallet ∈ wT ∧ Cond.selects RX7 yX7_mixedWallet yX7_mixedWallet ∈ wT := ⟨wm_1_153, wp_0_12⟩
set_option maxRecDepth 100000 in
set_option maxHeartbeats 4000000 in
theorem k_X7_mixedWallet_L129 {p : Program} {l : Launch} {e : Env} {s : State} {m : MethodId} {args : Array Value} {below : List Frame} {meth : Method} {c : Code} {D : va_G} {ids : m_I3} {st : m_T} {A : Nat → Prop} {z : Nat} {r : Int64} (hx : p.tables.exec = Jvm.exec) (hb : c.code = cX7_mixedWallet) (hr : meth.sig.returnType = some .long) (hml : c.maxLocals = 11) (hown : s.vm.findClass RX7 = some m.cls) (hts : ∀ w ∈ (m_ws yX7_mixedWallet cX7_mixedWallet 11 (some .long)), w.before args s = true) (hlocks : meth.locks = false) (hin : meth.name = yX7_mixedWallet.name) (hE : m_EV st A s s.heap) (hA : ∀ q, s.heap.size ≤ q → A q) {h : mH} {k119 : Nat → Int32 → Int64 → Int32 → Option (Int64)} (hk119 : ∀ (v0 : Nat) (v3 : Int32) (v4 : Int64) (v6 : Int32) (H : Heap) (locs : List Loc) (ls : Array Slot), k119 v0 v3 v4 v6 = some r → Rl D ids A h s H → H.size = z → va_S A s.heap H locs → lv_has ls 11 [(0, .ref v0), (3, .int v3), (4, .long v4), (6, .int v6)] → W p l e rm_X7_mixedWallet s m args below meth c H locs 0 0 (MQ below (mQl D ids A r h z) args s 0 0 A) (F0 m 119 ls [])) : ∀ (n : Nat) (v0 : Nat) (v3 : Int32) (v4 : Int64) (v6 : Int32) (v7 : Int32) (H : Heap) (locs : List Loc) (ls : Array Slot), s_X7_mixedWallet_L129 st k119 h n v0 v3 v4 v6 v7 = some r → Rl D ids A h s H → H.size = z → va_S A s.heap H locs → lv_has ls 11 [(0, .ref v0), (3, .int v3), (4, .long v4), (6, .int v6), (7, .int v7)] → W p l e rm_X7_mixedWallet s m args below meth c H locs 0 0 (MQ below (mQl D ids A r h z) args s 0 0 A) (F0 m 129 ls []) := by
  intro n
  induction n with
  | zero => intro v0 v3 v4 v6 v7 H locs ls hrun; exact absurd hrun (by intro h9; cases h9)
  | succ n ih =>
    intro v0 v3 v4 v6 v7 H locs ls hrun hR hz hS hl
    rw [s_X7_mixedWallet_L129] at hrun
    refine lv_iload hx hb dX7_mixedWallet_129 (lv_at hl 4 rfl) ?_
    refine lv_iconst (v := 2) hx hb dX7_mixedWallet_131 (by decide) ?_
    refine lv_icmp_ge (tgt := 161) hx hb dX7_mixedWallet_132 (by decide) (fun hc => ?_) (fun hc => ?_)
    · have hrun := mt_t hrun hc
      refine lv_iinc (v := v6 + 1) (lv' := [(6, .int (v6 + 1)), (0, .ref v0), (3, .int v3), (4, .long v4), (7, .int v7)]) hx hb dX7_mixedWallet_161 hl (k := 3) rfl rfl (by decide) rfl (fun ls hl => ?_)
      refine lv_goto (tgt := 119) hx hb dX7_mixedWallet_164 (by decide) ?_
      exact hk119 _ _ _ _ _ _ _ hrun hR hz hS (lv_sub hl [1, 2, 3, 0] rfl)
    · have hrun := mt_f hrun hc
      refine lv_lload hx hb dX7_mixedWallet_135 (lv_at hl 2 rfl) ?_
      refine lv_aload_n hx hb dX7_mixedWallet_137 rfl (lv_at hl 0 rfl) ?_
      obtain ⟨x138, hc9, hrun⟩ := m_bind hrun
      refine mr_get (C := RX7) (T := TX7) (N := 8) (ci := 5) hx hb hts (fun w q => m_ws_in (wi_X7 w q)) hown hR rfl 0 (by decide) (hts _ (m_ws_in wm_1_11)) (fun _ h9 => h9) (m_gr_spec hc9) dX7_mixedWallet_138 ?_
      refine lv_iload_n hx hb dX7_mixedWallet_141 rfl (lv_at hl 1 rfl) ?_
      refine lv_iload hx hb dX7_mixedWallet_142 (lv_at hl 3 rfl) ?_
      refine lv_iload hx hb dX7_mixedWallet_144 (lv_at hl 4 rfl) ?_
      obtain ⟨_, ho9, hrun⟩ := m_bind hrun
      obtain ⟨fs9, ho9⟩ := m_is_spec ho9
      obtain ⟨x146, hc9, hrun⟩ := m_bind hrun
      refine mr_calli (mr_runV (As := [.int v3, .int v6, .int v7]) (rest := [.long v4]) hx hb hml hown hts (c_X3_ledgerNumber l D ids st z hc9) yk_X3_ledgerNumber ys_X3_ledgerNumber wm_1_171 ⟨(Nat.le_of_ble_eq_true rfl), (Nat.le_of_ble_eq_true rfl)⟩ (mr_recv (ci := 2) hR hE hz hS hA rfl ho9) hl.1 rfl (Nat.le_of_ble_eq_true rfl) dX7_mixedWallet_146 ⟨(Nat.le_of_ble_eq_true rfl), (Nat.le_of_ble_eq_true rfl)⟩) hR hz hS hA (fun H locs hR hz hS => ?_)
      refine lv_i2l (v := x146.toInt64) hx hb dX7_mixedWallet_149 rfl ?_
      obtain ⟨x150, hc9, hrun⟩ := m_bind hrun
      refine mr_calll (mr_runS (As := [.long v4, .long x146.toInt64]) (rest := []) hx hb hml hown hts (c_X7_mixed l D ids st z hc9) yk_X7_mixed ys_X7_mixed wm_1_130 ⟨(Nat.le_of_ble_eq_true rfl), (Nat.le_of_ble_eq_true rfl)⟩ (mr_recvS hR hE hz hS hA) hl.1 rfl (Nat.le_of_ble_eq_true rfl) dX7_mixedWallet_150 ⟨(Nat.le_of_ble_eq_true rfl), (Nat.le_of_ble_eq_true rfl)⟩) hR hz hS hA (fun H locs hR hz hS => ?_)
      refine lv_lstore (lv' := [(4, .long x150), (0, .ref v0), (3, .int v3), (6, .int v6), (7, .int v7)]) hx hb dX7_mixedWallet_153 hl (by decide) rfl (fun ls hl => ?_)
      refine lv_iinc (v := v7 + 1) (lv' := [(7, .int (v7 + 1)), (4, .long x150), (0, .ref v0), (3, .int v3), (6, .int v6)]) hx hb dX7_mixedWallet_155 hl (k := 4) rfl rfl (by decide) rfl (fun ls hl => ?_)
      refine lv_goto (tgt := 129) hx hb dX7_mixedWallet_158 (by decide) ?_
      exact ih _ _ _ _ _ _ _ _ hrun hR hz hS (lv_sub hl [2, 3, 1, 4, 0] rfl)
set_option maxRecDepth 100000 in
set_option maxHeartbeats 4000000 in
theorem k_X7_mixedWallet_L119 {p : Program} {l : Launch} {e : Env} {s : State} {m : MethodId} {args : Array Value} {below : List Frame} {meth : Method} {c : Code} {D : va_G} {ids : m_I3} {st : m_T} {A : Nat → Prop} {z : Nat} {r : Int64} (hx : p.tables.exec = Jvm.exec) (hb : c.code = cX7_mixedWallet) (hr : meth.sig.returnType = some .long) (hml : c.maxLocals = 11) (hown : s.vm.findClass RX7 = some m.cls) (hts : ∀ w ∈ (m_ws yX7_mixedWallet cX7_mixedWallet 11 (some .long)), w.before args s = true) (hlocks : meth.locks = false) (hin : meth.name = yX7_mixedWallet.name) (hE : m_EV st A s s.heap) (hA : ∀ q, s.heap.size ≤ q → A q) {h : mH} : ∀ (n : Nat) (v0 : Nat) (v3 : Int32) (v4 : Int64) (v6 : Int32) (H : Heap) (locs : List Loc) (ls : Array Slot), s_X7_mixedWallet_L119 st h n v0 v3 v4 v6 = some r → Rl D ids A h s H → H.size = z → va_S A s.heap H locs → lv_has ls 11 [(0, .ref v0), (3, .int v3), (4, .long v4), (6, .int v6)] → W p l e rm_X7_mixedWallet s m args below meth c H locs 0 0 (MQ below (mQl D ids A r h z) args s 0 0 A) (F0 m 119 ls []) := by
  intro n
  induction n with
  | zero => intro v0 v3 v4 v6 H locs ls hrun; exact absurd hrun (by intro h9; cases h9)
  | succ n ih =>
    intro v0 v3 v4 v6 H locs ls hrun hR hz hS hl
    rw [s_X7_mixedWallet_L119] at hrun
    refine lv_iload hx hb dX7_mixedWallet_119 (lv_at hl 3 rfl) ?_
    refine lv_bipush (v := 8) hx hb dX7_mixedWallet_121 (by decide) ?_
    refine lv_icmp_ge (tgt := 167) hx hb dX7_mixedWallet_123 (by decide) (fun hc => ?_) (fun hc => ?_)
    · have hrun := mt_t hrun hc
      refine lv_lload hx hb dX7_mixedWallet_167 (lv_at hl 2 rfl) ?_
      obtain rfl := Option.some.inj hrun
      exact mr_lret hx hb hr hlocks hR hz hS dX7_mixedWallet_169
    · have hrun := mt_f hrun hc
      refine lv_iconst (v := 0) hx hb dX7_mixedWallet_126 (by decide) ?_
      refine lv_istore (lv' := [(7, .int 0), (0, .ref v0), (3, .int v3), (4, .long v4), (6, .int v6)]) hx hb dX7_mixedWallet_127 hl (by decide) rfl (fun ls hl => ?_)
      exact k_X7_mixedWallet_L129 hx hb hr hml hown hts hlocks hin hE hA ih _ _ _ _ _ _ _ _ _ hrun hR hz hS (lv_sub hl [1, 2, 3, 4, 0] rfl)
set_option maxRecDepth 100000 in
set_option maxHeartbeats 4000000 in
theorem k_X7_mixedWallet_L80 {p : Program} {l : Launch} {e : Env} {s : State} {m : MethodId} {args : Array Value} {below : List Frame} {meth : Method} {c : Code} {D : va_G} {ids : m_I3} {st : m_T} {A : Nat → Prop} {z : Nat} {r : Int64} (hx : p.tables.exec = Jvm.exec) (hb : c.code = cX7_mixedWallet) (hr : meth.sig.returnType = some .long) (hml : c.maxLocals = 11) (hown : s.vm.findClass RX7 = some m.cls) (hts : ∀ w ∈ (m_ws yX7_mixedWallet cX7_mixedWallet 11 (some .long)), w.before args s = true) (hlocks : meth.locks = false) (hin : meth.name = yX7_mixedWallet.name) (hE : m_EV st A s s.heap) (hA : ∀ q, s.heap.size ≤ q → A q) {h : mH} {k71 : Nat → Int32 → Int64 → Int32 → Option (Int64)} (hk71 : ∀ (v0 : Nat) (v3 : Int32) (v4 : Int64) (v6 : Int32) (H : Heap) (locs : List Loc) (ls : Array Slot), k71 v0 v3 v4 v6 = some r → Rl D ids A h s H → H.size = z → va_S A s.heap H locs → lv_has ls 11 [(0, .ref v0), (3, .int v3), (4, .long v4), (6, .int v6)] → W p l e rm_X7_mixedWallet s m args below meth c H locs 0 0 (MQ below (mQl D ids A r h z) args s 0 0 A) (F0 m 71 ls [])) : ∀ (n : Nat) (v0 : Nat) (v3 : Int32) (v4 : Int64) (v6 : Int32) (v7 : Int32) (H : Heap) (locs : List Loc) (ls : Array Slot), s_X7_mixedWallet_L80 st k71 h n v0 v3 v4 v6 v7 = some r → Rl D ids A h s H → H.size = z → va_S A s.heap H locs → lv_has ls 11 [(0, .ref v0), (3, .int v3), (4, .long v4), (6, .int v6), (7, .int v7)] → W p l e rm_X7_mixedWallet s m args below meth c H locs 0 0 (MQ below (mQl D ids A r h z) args s 0 0 A) (F0 m 80 ls []) := by
  intro n
  induction n with
  | zero => intro v0 v3 v4 v6 v7 H locs ls hrun; exact absurd hrun (by intro h9; cases h9)
  | succ n ih =>
    intro v0 v3 v4 v6 v7 H locs ls hrun hR hz hS hl
    rw [s_X7_mixedWallet_L80] at hrun
    refine lv_iload hx hb dX7_mixedWallet_80 (lv_at hl 4 rfl) ?_
    refine lv_bipush (v := 7) hx hb dX7_mixedWallet_82 (by decide) ?_
    refine lv_icmp_ge (tgt := 110) hx hb dX7_mixedWallet_84 (by decide) (fun hc => ?_) (fun hc => ?_)
    · have hrun := mt_t hrun hc
      refine lv_iinc (v := v6 + 1) (lv' := [(6, .int (v6 + 1)), (0, .ref v0), (3, .int v3), (4, .long v4), (7, .int v7)]) hx hb dX7_mixedWallet_110 hl (k := 3) rfl rfl (by decide) rfl (fun ls hl => ?_)
      refine lv_goto (tgt := 71) hx hb dX7_mixedWallet_113 (by decide) ?_
      exact hk71 _ _ _ _ _ _ _ hrun hR hz hS (lv_sub hl [1, 2, 3, 0] rfl)
    · have hrun := mt_f hrun hc
      refine lv_lload hx hb dX7_mixedWallet_87 (lv_at hl 2 rfl) ?_
      refine lv_aload_n hx hb dX7_mixedWallet_89 rfl (lv_at hl 0 rfl) ?_
      refine lv_iload_n hx hb dX7_mixedWallet_90 rfl (lv_at hl 1 rfl) ?_
      refine lv_iload hx hb dX7_mixedWallet_91 (lv_at hl 3 rfl) ?_
      refine lv_iload hx hb dX7_mixedWallet_93 (lv_at hl 4 rfl) ?_
      obtain ⟨_, ho9, hrun⟩ := m_bind hrun
      obtain ⟨fs9, ho9⟩ := m_is_spec ho9
      obtain ⟨x95, hc9, hrun⟩ := m_bind hrun
      refine mr_calli (mr_runV (As := [.int v3, .int v6, .int v7]) (rest := [.long v4]) hx hb hml hown hts (c_X7_weekNumber l D ids st z hc9) yk_X7_weekNumber ys_X7_weekNumber wm_1_163 ⟨(Nat.le_of_ble_eq_true rfl), (Nat.le_of_ble_eq_true rfl)⟩ (mr_recv (ci := 5) hR hE hz hS hA rfl ho9) hl.1 rfl (Nat.le_of_ble_eq_true rfl) dX7_mixedWallet_95 ⟨(Nat.le_of_ble_eq_true rfl), (Nat.le_of_ble_eq_true rfl)⟩) hR hz hS hA (fun H locs hR hz hS => ?_)
      refine lv_i2l (v := x95.toInt64) hx hb dX7_mixedWallet_98 rfl ?_
      obtain ⟨x99, hc9, hrun⟩ := m_bind hrun
      refine mr_calll (mr_runS (As := [.long v4, .long x95.toInt64]) (rest := []) hx hb hml hown hts (c_X7_mixed l D ids st z hc9) yk_X7_mixed ys_X7_mixed wm_1_130 ⟨(Nat.le_of_ble_eq_true rfl), (Nat.le_of_ble_eq_true rfl)⟩ (mr_recvS hR hE hz hS hA) hl.1 rfl (Nat.le_of_ble_eq_true rfl) dX7_mixedWallet_99 ⟨(Nat.le_of_ble_eq_true rfl), (Nat.le_of_ble_eq_true rfl)⟩) hR hz hS hA (fun H locs hR hz hS => ?_)
      refine lv_lstore (lv' := [(4, .long x99), (0, .ref v0), (3, .int v3), (6, .int v6), (7, .int v7)]) hx hb dX7_mixedWallet_102 hl (by decide) rfl (fun ls hl => ?_)
      refine lv_iinc (v := v7 + 1) (lv' := [(7, .int (v7 + 1)), (4, .long x99), (0, .ref v0), (3, .int v3), (6, .int v6)]) hx hb dX7_mixedWallet_104 hl (k := 4) rfl rfl (by decide) rfl (fun ls hl => ?_)
      refine lv_goto (tgt := 80) hx hb dX7_mixedWallet_107 (by decide) ?_
      exact ih _ _ _ _ _ _ _ _ hrun hR hz hS (lv_sub hl [2, 3, 1, 4, 0] rfl)
set_option maxRecDepth 100000 in
set_option maxHeartbeats 4000000 in
theorem k_X7_mixedWallet_L71 {p : Program} {l : Launch} {e : Env} {s : State} {m : MethodId} {args : Array Value} {below : List Frame} {meth : Method} {c : Code} {D : va_G} {ids : m_I3} {st : m_T} {A : Nat → Prop} {z : Nat} {r : Int64} (hx : p.tables.exec = Jvm.exec) (hb : c.code = cX7_mixedWallet) (hr : meth.sig.returnType = some .long) (hml : c.maxLocals = 11) (hown : s.vm.findClass RX7 = some m.cls) (hts : ∀ w ∈ (m_ws yX7_mixedWallet cX7_mixedWallet 11 (some .long)), w.before args s = true) (hlocks : meth.locks = false) (hin : meth.name = yX7_mixedWallet.name) (hE : m_EV st A s s.heap) (hA : ∀ q, s.heap.size ≤ q → A q) {h : mH} : ∀ (n : Nat) (v0 : Nat) (v3 : Int32) (v4 : Int64) (v6 : Int32) (H : Heap) (locs : List Loc) (ls : Array Slot), s_X7_mixedWallet_L71 st h n v0 v3 v4 v6 = some r → Rl D ids A h s H → H.size = z → va_S A s.heap H locs → lv_has ls 11 [(0, .ref v0), (3, .int v3), (4, .long v4), (6, .int v6)] → W p l e rm_X7_mixedWallet s m args below meth c H locs 0 0 (MQ below (mQl D ids A r h z) args s 0 0 A) (F0 m 71 ls []) := by
  intro n
  induction n with
  | zero => intro v0 v3 v4 v6 H locs ls hrun; exact absurd hrun (by intro h9; cases h9)
  | succ n ih =>
    intro v0 v3 v4 v6 H locs ls hrun hR hz hS hl
    rw [s_X7_mixedWallet_L71] at hrun
    refine lv_iload hx hb dX7_mixedWallet_71 (lv_at hl 3 rfl) ?_
    refine lv_iconst (v := 4) hx hb dX7_mixedWallet_73 (by decide) ?_
    refine lv_icmp_ge (tgt := 116) hx hb dX7_mixedWallet_74 (by decide) (fun hc => ?_) (fun hc => ?_)
    · have hrun := mt_t hrun hc
      refine lv_iconst (v := 0) hx hb dX7_mixedWallet_116 (by decide) ?_
      refine lv_istore (lv' := [(6, .int 0), (0, .ref v0), (3, .int v3), (4, .long v4)]) hx hb dX7_mixedWallet_117 hl (by decide) rfl (fun ls hl => ?_)
      exact k_X7_mixedWallet_L119 hx hb hr hml hown hts hlocks hin hE hA _ _ _ _ _ _ _ _ hrun hR hz hS (lv_sub hl [1, 2, 3, 0] rfl)
    · have hrun := mt_f hrun hc
      refine lv_iconst (v := 0) hx hb dX7_mixedWallet_77 (by decide) ?_
      refine lv_istore (lv' := [(7, .int 0), (0, .ref v0), (3, .int v3), (4, .long v4), (6, .int v6)]) hx hb dX7_mixedWallet_78 hl (by decide) rfl (fun ls hl => ?_)
      exact k_X7_mixedWallet_L80 hx hb hr hml hown hts hlocks hin hE hA ih _ _ _ _ _ _ _ _ _ hrun hR hz hS (lv_sub hl [1, 2, 3, 4, 0] rfl)
set_option maxRecDepth 100000 in
set_option maxHeartbeats 4000000 in
theorem k_X7_mixedWallet_L33 {p : Program} {l : Launch} {e : Env} {s : State} {m : MethodId} {args : Array Value} {below : List Frame} {meth : Method} {c : Code} {D : va_G} {ids : m_I3} {st : m_T} {A : Nat → Prop} {z : Nat} {r : Int64} (hx : p.tables.exec = Jvm.exec) (hb : c.code = cX7_mixedWallet) (hr : meth.sig.returnType = some .long) (hml : c.maxLocals = 11) (hown : s.vm.findClass RX7 = some m.cls) (hts : ∀ w ∈ (m_ws yX7_mixedWallet cX7_mixedWallet 11 (some .long)), w.before args s = true) (hlocks : meth.locks = false) (hin : meth.name = yX7_mixedWallet.name) (hE : m_EV st A s s.heap) (hA : ∀ q, s.heap.size ≤ q → A q) {h : mH} {k16 : Nat → Int32 → Int64 → Nat → Int32 → Int32 → Option (Int64)} (hk16 : ∀ (v0 : Nat) (v3 : Int32) (v4 : Int64) (v6 : Nat) (v7 : Int32) (v8 : Int32) (H : Heap) (locs : List Loc) (ls : Array Slot), k16 v0 v3 v4 v6 v7 v8 = some r → Rl D ids A h s H → H.size = z → va_S A s.heap H locs → lv_has ls 11 [(0, .ref v0), (3, .int v3), (4, .long v4), (6, .ref v6), (7, .int v7), (8, .int v8)] → W p l e rm_X7_mixedWallet s m args below meth c H locs 0 0 (MQ below (mQl D ids A r h z) args s 0 0 A) (F0 m 16 ls [])) : ∀ (n : Nat) (v0 : Nat) (v3 : Int32) (v4 : Int64) (v6 : Nat) (v7 : Int32) (v8 : Int32) (v9 : Int32) (v10 : Int32) (H : Heap) (locs : List Loc) (ls : Array Slot), s_X7_mixedWallet_L33 st k16 h n v0 v3 v4 v6 v7 v8 v9 v10 = some r → Rl D ids A h s H → H.size = z → va_S A s.heap H locs → lv_has ls 11 [(0, .ref v0), (3, .int v3), (4, .long v4), (6, .ref v6), (7, .int v7), (8, .int v8), (9, .int v9), (10, .int v10)] → W p l e rm_X7_mixedWallet s m args below meth c H locs 0 0 (MQ below (mQl D ids A r h z) args s 0 0 A) (F0 m 33 ls []) := by
  intro n
  induction n with
  | zero => intro v0 v3 v4 v6 v7 v8 v9 v10 H locs ls hrun; exact absurd hrun (by intro h9; cases h9)
  | succ n ih =>
    intro v0 v3 v4 v6 v7 v8 v9 v10 H locs ls hrun hR hz hS hl
    rw [s_X7_mixedWallet_L33] at hrun
    refine lv_iload hx hb dX7_mixedWallet_33 (lv_at hl 7 rfl) ?_
    refine lv_iconst (v := 4) hx hb dX7_mixedWallet_35 (by decide) ?_
    refine lv_icmp_ge (tgt := 62) hx hb dX7_mixedWallet_36 (by decide) (fun hc => ?_) (fun hc => ?_)
    · have hrun := mt_t hrun hc
      refine lv_iinc (v := v8 + 1) (lv' := [(8, .int (v8 + 1)), (0, .ref v0), (3, .int v3), (4, .long v4), (6, .ref v6), (7, .int v7), (9, .int v9), (10, .int v10)]) hx hb dX7_mixedWallet_62 hl (k := 5) rfl rfl (by decide) rfl (fun ls hl => ?_)
      refine lv_goto (tgt := 16) hx hb dX7_mixedWallet_65 (by decide) ?_
      exact hk16 _ _ _ _ _ _ _ _ _ hrun hR hz hS (lv_sub hl [1, 2, 3, 4, 5, 0] rfl)
    · have hrun := mt_f hrun hc
      refine lv_lload hx hb dX7_mixedWallet_39 (lv_at hl 2 rfl) ?_
      refine lv_aload_n hx hb dX7_mixedWallet_41 rfl (lv_at hl 0 rfl) ?_
      refine lv_iload_n hx hb dX7_mixedWallet_42 rfl (lv_at hl 1 rfl) ?_
      refine lv_iload hx hb dX7_mixedWallet_43 (lv_at hl 6 rfl) ?_
      refine lv_iload hx hb dX7_mixedWallet_45 (lv_at hl 7 rfl) ?_
      obtain ⟨_, ho9, hrun⟩ := m_bind hrun
      obtain ⟨fs9, ho9⟩ := m_is_spec ho9
      obtain ⟨x47, hc9, hrun⟩ := m_bind hrun
      refine mr_calli (mr_runV (As := [.int v3, .int v9, .int v10]) (rest := [.long v4]) hx hb hml hown hts (c_X7_dayNumber l D ids st z hc9) yk_X7_dayNumber ys_X7_dayNumber wm_1_157 ⟨(Nat.le_of_ble_eq_true rfl), (Nat.le_of_ble_eq_true rfl)⟩ (mr_recv (ci := 5) hR hE hz hS hA rfl ho9) hl.1 rfl (Nat.le_of_ble_eq_true rfl) dX7_mixedWallet_47 ⟨(Nat.le_of_ble_eq_true rfl), (Nat.le_of_ble_eq_true rfl)⟩) hR hz hS hA (fun H locs hR hz hS => ?_)
      refine lv_i2l (v := x47.toInt64) hx hb dX7_mixedWallet_50 rfl ?_
      obtain ⟨x51, hc9, hrun⟩ := m_bind hrun
      refine mr_calll (mr_runS (As := [.long v4, .long x47.toInt64]) (rest := []) hx hb hml hown hts (c_X7_mixed l D ids st z hc9) yk_X7_mixed ys_X7_mixed wm_1_130 ⟨(Nat.le_of_ble_eq_true rfl), (Nat.le_of_ble_eq_true rfl)⟩ (mr_recvS hR hE hz hS hA) hl.1 rfl (Nat.le_of_ble_eq_true rfl) dX7_mixedWallet_51 ⟨(Nat.le_of_ble_eq_true rfl), (Nat.le_of_ble_eq_true rfl)⟩) hR hz hS hA (fun H locs hR hz hS => ?_)
      refine lv_lstore (lv' := [(4, .long x51), (0, .ref v0), (3, .int v3), (6, .ref v6), (7, .int v7), (8, .int v8), (9, .int v9), (10, .int v10)]) hx hb dX7_mixedWallet_54 hl (by decide) rfl (fun ls hl => ?_)
      refine lv_iinc (v := v10 + 1) (lv' := [(10, .int (v10 + 1)), (4, .long x51), (0, .ref v0), (3, .int v3), (6, .ref v6), (7, .int v7), (8, .int v8), (9, .int v9)]) hx hb dX7_mixedWallet_56 hl (k := 7) rfl rfl (by decide) rfl (fun ls hl => ?_)
      refine lv_goto (tgt := 33) hx hb dX7_mixedWallet_59 (by decide) ?_
      exact ih _ _ _ _ _ _ _ _ _ _ _ hrun hR hz hS (lv_sub hl [2, 3, 1, 4, 5, 6, 7, 0] rfl)
set_option maxRecDepth 100000 in
set_option maxHeartbeats 4000000 in
theorem k_X7_mixedWallet_L16 {p : Program} {l : Launch} {e : Env} {s : State} {m : MethodId} {args : Array Value} {below : List Frame} {meth : Method} {c : Code} {D : va_G} {ids : m_I3} {st : m_T} {A : Nat → Prop} {z : Nat} {r : Int64} (hx : p.tables.exec = Jvm.exec) (hb : c.code = cX7_mixedWallet) (hr : meth.sig.returnType = some .long) (hml : c.maxLocals = 11) (hown : s.vm.findClass RX7 = some m.cls) (hts : ∀ w ∈ (m_ws yX7_mixedWallet cX7_mixedWallet 11 (some .long)), w.before args s = true) (hlocks : meth.locks = false) (hin : meth.name = yX7_mixedWallet.name) (hE : m_EV st A s s.heap) (hA : ∀ q, s.heap.size ≤ q → A q) {h : mH} : ∀ (n : Nat) (v0 : Nat) (v3 : Int32) (v4 : Int64) (v6 : Nat) (v7 : Int32) (v8 : Int32) (H : Heap) (locs : List Loc) (ls : Array Slot), s_X7_mixedWallet_L16 st h n v0 v3 v4 v6 v7 v8 = some r → Rl D ids A h s H → H.size = z → va_S A s.heap H locs → lv_has ls 11 [(0, .ref v0), (3, .int v3), (4, .long v4), (6, .ref v6), (7, .int v7), (8, .int v8)] → W p l e rm_X7_mixedWallet s m args below meth c H locs 0 0 (MQ below (mQl D ids A r h z) args s 0 0 A) (F0 m 16 ls []) := by
  intro n
  induction n with
  | zero => intro v0 v3 v4 v6 v7 v8 H locs ls hrun; exact absurd hrun (by intro h9; cases h9)
  | succ n ih =>
    intro v0 v3 v4 v6 v7 v8 H locs ls hrun hR hz hS hl
    rw [s_X7_mixedWallet_L16] at hrun
    refine lv_iload hx hb dX7_mixedWallet_16 (lv_at hl 5 rfl) ?_
    refine lv_iload hx hb dX7_mixedWallet_18 (lv_at hl 4 rfl) ?_
    refine lv_icmp_ge (tgt := 68) hx hb dX7_mixedWallet_20 (by decide) (fun hc => ?_) (fun hc => ?_)
    · have hrun := mt_t hrun hc
      refine lv_iconst (v := 0) hx hb dX7_mixedWallet_68 (by decide) ?_
      refine lv_istore (lv' := [(6, .int 0), (0, .ref v0), (3, .int v3), (4, .long v4), (7, .int v7), (8, .int v8)]) hx hb dX7_mixedWallet_69 hl (by decide) rfl (fun ls hl => ?_)
      exact k_X7_mixedWallet_L71 hx hb hr hml hown hts hlocks hin hE hA _ _ _ _ _ _ _ _ hrun hR hz hS (lv_sub hl [1, 2, 3, 0] rfl)
    · have hrun := mt_f hrun hc
      refine lv_aload hx hb dX7_mixedWallet_23 (lv_at hl 3 rfl) ?_
      refine lv_iload hx hb dX7_mixedWallet_25 (lv_at hl 5 rfl) ?_
      obtain ⟨x27, hc9, hrun⟩ := m_bind hrun
      refine mr_iald hx hb hR hc9 dX7_mixedWallet_27 ?_
      refine lv_istore (lv' := [(9, .int x27), (0, .ref v0), (3, .int v3), (4, .long v4), (6, .ref v6), (7, .int v7), (8, .int v8)]) hx hb dX7_mixedWallet_28 hl (by decide) rfl (fun ls hl => ?_)
      refine lv_iconst (v := 0) hx hb dX7_mixedWallet_30 (by decide) ?_
      refine lv_istore (lv' := [(10, .int 0), (9, .int x27), (0, .ref v0), (3, .int v3), (4, .long v4), (6, .ref v6), (7, .int v7), (8, .int v8)]) hx hb dX7_mixedWallet_31 hl (by decide) rfl (fun ls hl => ?_)
      exact k_X7_mixedWallet_L33 hx hb hr hml hown hts hlocks hin hE hA ih _ _ _ _ _ _ _ _ _ _ _ _ hrun hR hz hS (lv_sub hl [2, 3, 4, 5, 6, 7, 1, 0] rfl)
set_option maxRecDepth 100000 in
set_option maxHeartbeats 4000000 in
theorem c_X7_mixedWallet (l : Launch) (D : va_G) (ids : m_I3) (st : m_T) (z : Nat) {h : mH} {v0 : Nat} {v1 : Int64} {v3 : Int32} {r : Int64} (hrun : s_X7_mixedWallet st h v0 v1 v3 = some r) : Met l yX7_mixedWallet (m_ws yX7_mixedWallet cX7_mixedWallet 11 (some .long)) rm_X7_mixedWallet (mPc D ids st [.ref v0, .long v1, .int v3] h z) (mQl D ids (m_A h z) r h z) rm_X7_mixedWallet.cells rm_X7_mixedWallet.slots (m_A h z) := by
  refine mr_of (cc := cX7_mixedWallet) (maxL := 11) (ret := some .long) (by decide) rfl (Nat.le_of_ble_eq_true rfl) ?_
  intro p e s m below meth c ls hx hb hr hml hown hts hlocks hin hR hE hz hl
  have hA : ∀ q, s.heap.size ≤ q → m_A h z q := fun q hq => Or.inr (by rw [← hz]; exact hq)
  have hS : va_S (m_A h z) s.heap s.heap [] := va_S.rf
  have hl : lv_has ls 11 [(0, .ref v0), (1, .long v1), (3, .int v3)] := hl
  unfold s_X7_mixedWallet at hrun
  refine lv_lload_n hx hb dX7_mixedWallet_0 rfl (lv_at hl 1 rfl) ?_
  refine lv_lstore (lv' := [(4, .long v1), (0, .ref v0), (1, .long v1), (3, .int v3)]) hx hb dX7_mixedWallet_1 hl (by decide) rfl (fun ls hl => ?_)
  refine mr_gets (n := "HASHED_DAYS") (k := 3) hx hb hE (List.mem_of_getElem? (i := 3) rfl) hS hown (hts _ (m_ws_in wm_1_155)) dX7_mixedWallet_3 ?_
  refine lv_astore (lv' := [(6, .ref (st.2 3)), (4, .long v1), (0, .ref v0), (1, .long v1), (3, .int v3)]) hx hb dX7_mixedWallet_6 hl (by decide) rfl (fun ls hl => ?_)
  refine lv_aload hx hb dX7_mixedWallet_8 (lv_at hl 0 rfl) ?_
  obtain ⟨x10, hc9, hrun⟩ := m_bind hrun
  refine mr_ilen hx hb hR hc9 dX7_mixedWallet_10 ?_
  refine lv_istore (lv' := [(7, .int x10), (6, .ref (st.2 3)), (4, .long v1), (0, .ref v0), (1, .long v1), (3, .int v3)]) hx hb dX7_mixedWallet_11 hl (by decide) rfl (fun ls hl => ?_)
  refine lv_iconst (v := 0) hx hb dX7_mixedWallet_13 (by decide) ?_
  refine lv_istore (lv' := [(8, .int 0), (7, .int x10), (6, .ref (st.2 3)), (4, .long v1), (0, .ref v0), (1, .long v1), (3, .int v3)]) hx hb dX7_mixedWallet_14 hl (by decide) rfl (fun ls hl => ?_)
  exact k_X7_mixedWallet_L16 hx hb hr hml hown hts hlocks hin hE hA _ _ _ _ _ _ _ _ _ _ hrun hR hz hS (lv_sub hl [4, 6, 3, 2, 1, 0] rfl)
/-! X7_bitsOfShare -/
abbrev rm_X7_bitsOfShare : Room := { frames := 0, cells := 0, slots := 0, locals := 0 }
theorem yk_X7_bitsOfShare : m_K yX7_bitsOfShare cX7_bitsOfShare 8 (some .long) 1 := ⟨wm_1_209, wm_0_1, by decide +kernel⟩
theorem ys_X7_bitsOfShare : Cond.static yX7_bitsOfShare ∈ wT := wm_1_208
set_option maxRecDepth 100000 in
set_option maxHeartbeats 4000000 in
theorem k_X7_bitsOfShare_b49 {p : Program} {l : Launch} {e : Env} {s : State} {m : MethodId} {args : Array Value} {below : List Frame} {meth : Method} {c : Code} {D : va_G} {ids : m_I3} {st : m_T} {A : Nat → Prop} {z : Nat} {r : Int64} (hx : p.tables.exec = Jvm.exec) (hb : c.code = cX7_bitsOfShare) (hr : meth.sig.returnType = some .long) (hml : c.maxLocals = 8) (hown : s.vm.findClass RX7 = some m.cls) (hts : ∀ w ∈ (m_ws yX7_bitsOfShare cX7_bitsOfShare 8 (some .long)), w.before args s = true) (hlocks : meth.locks = false) (hin : meth.name = yX7_bitsOfShare.name) (hE : m_EV st A s s.heap) (hA : ∀ q, s.heap.size ≤ q → A q) {h : mH} (v2 : UInt64) (v4 : Int64) (H : Heap) (locs : List Loc) (ls : Array Slot) (hrun : s_X7_bitsOfShare_b49 h v2 v4 = some r) (hR : Rl D ids A h s H) (hz : H.size = z) (hS : va_S A s.heap H locs) (hl : lv_has ls 8 [(2, .double v2), (4, .long v4)]) : W p l e rm_X7_bitsOfShare s m args below meth c H locs 0 0 (MQ below (mQl D ids A r h z) args s 0 0 A) (F0 m 49 ls []) := by
  unfold s_X7_bitsOfShare_b49 at hrun
  refine lv_dload_n hx hb dX7_bitsOfShare_49 rfl (lv_at hl 0 rfl) ?_
  refine lv_dconst1 hx hb dX7_bitsOfShare_50 ?_
  obtain ⟨x51, hc9, hrun⟩ := m_bind hrun
  obtain ⟨hn9, he9⟩ := m_d_spec hc9
  refine lv_dsub hx hb dX7_bitsOfShare_51 hn9 ?_
  rw [he9]
  refine lv_ldc2d (v := 4841369599423283200) hx hb hown (hts _ (m_ws_in wm_1_212)) dX7_bitsOfShare_52 ?_
  obtain ⟨x55, hc9, hrun⟩ := m_bind hrun
  obtain ⟨hn9, he9⟩ := m_d_spec hc9
  refine lv_dmul hx hb dX7_bitsOfShare_55 hn9 ?_
  rw [he9]
  refine lv_d2l hx hb dX7_bitsOfShare_56 ?_
  refine lv_lstore (lv' := [(6, .long (FP.d2l x55)), (2, .double v2), (4, .long v4)]) hx hb dX7_bitsOfShare_57 hl (by decide) rfl (fun ls hl => ?_)
  refine lv_lload hx hb dX7_bitsOfShare_59 (lv_at hl 2 rfl) ?_
  refine lv_bipush (v := 52) hx hb dX7_bitsOfShare_61 (by decide) ?_
  refine lv_lshl (v := v4 <<< ((52 : Int32).toInt64 &&& 63)) hx hb dX7_bitsOfShare_63 rfl ?_
  refine lv_lload hx hb dX7_bitsOfShare_64 (lv_at hl 0 rfl) ?_
  refine lv_ladd hx hb dX7_bitsOfShare_66 ?_
  obtain rfl := Option.some.inj hrun
  exact mr_lret hx hb hr hlocks hR hz hS dX7_bitsOfShare_67
set_option maxRecDepth 100000 in
set_option maxHeartbeats 4000000 in
theorem k_X7_bitsOfShare_L18 {p : Program} {l : Launch} {e : Env} {s : State} {m : MethodId} {args : Array Value} {below : List Frame} {meth : Method} {c : Code} {D : va_G} {ids : m_I3} {st : m_T} {A : Nat → Prop} {z : Nat} {r : Int64} (hx : p.tables.exec = Jvm.exec) (hb : c.code = cX7_bitsOfShare) (hr : meth.sig.returnType = some .long) (hml : c.maxLocals = 8) (hown : s.vm.findClass RX7 = some m.cls) (hts : ∀ w ∈ (m_ws yX7_bitsOfShare cX7_bitsOfShare 8 (some .long)), w.before args s = true) (hlocks : meth.locks = false) (hin : meth.name = yX7_bitsOfShare.name) (hE : m_EV st A s s.heap) (hA : ∀ q, s.heap.size ≤ q → A q) {h : mH} : ∀ (n : Nat) (v2 : UInt64) (v4 : Int64) (v6 : Int32) (H : Heap) (locs : List Loc) (ls : Array Slot), s_X7_bitsOfShare_L18 h n v2 v4 v6 = some r → Rl D ids A h s H → H.size = z → va_S A s.heap H locs → lv_has ls 8 [(2, .double v2), (4, .long v4), (6, .int v6)] → W p l e rm_X7_bitsOfShare s m args below meth c H locs 0 0 (MQ below (mQl D ids A r h z) args s 0 0 A) (F0 m 18 ls []) := by
  intro n
  induction n with
  | zero => intro v2 v4 v6 H locs ls hrun; exact absurd hrun (by intro h9; cases h9)
  | succ n ih =>
    intro v2 v4 v6 H locs ls hrun hR hz hS hl
    rw [s_X7_bitsOfShare_L18] at hrun
    refine lv_iload hx hb dX7_bitsOfShare_18 (lv_at hl 2 rfl) ?_
    refine lv_bipush (v := 64) hx hb dX7_bitsOfShare_20 (by decide) ?_
    refine lv_icmp_ge (tgt := 49) hx hb dX7_bitsOfShare_22 (by decide) (fun hc => ?_) (fun hc => ?_)
    · have hrun := mt_t hrun hc
      exact k_X7_bitsOfShare_b49 hx hb hr hml hown hts hlocks hin hE hA _ _ _ _ _ hrun hR hz hS (lv_sub hl [0, 1] rfl)
    · have hrun := mt_f hrun hc
      refine lv_dload_n hx hb dX7_bitsOfShare_25 rfl (lv_at hl 0 rfl) ?_
      refine lv_dconst1 hx hb dX7_bitsOfShare_26 ?_
      refine lv_dcmp hx hb dX7_bitsOfShare_27 ?_
      refine lv_if_ge (tgt := 49) hx hb dX7_bitsOfShare_28 (by decide) (fun hc => ?_) (fun hc => ?_)
      · have hrun := mt_t hrun hc
        exact k_X7_bitsOfShare_b49 hx hb hr hml hown hts hlocks hin hE hA _ _ _ _ _ hrun hR hz hS (lv_sub hl [0, 1] rfl)
      · have hrun := mt_f hrun hc
        refine lv_dload_n hx hb dX7_bitsOfShare_31 rfl (lv_at hl 0 rfl) ?_
        refine lv_ldc2d (v := 4611686018427387904) hx hb hown (hts _ (m_ws_in wm_1_211)) dX7_bitsOfShare_32 ?_
        obtain ⟨x35, hc9, hrun⟩ := m_bind hrun
        obtain ⟨hn9, he9⟩ := m_d_spec hc9
        refine lv_dmul hx hb dX7_bitsOfShare_35 hn9 ?_
        rw [he9]
        refine lv_dstore_n (lv' := [(2, .double x35), (4, .long v4), (6, .int v6)]) hx hb dX7_bitsOfShare_36 rfl hl (by decide) rfl (fun ls hl => ?_)
        refine lv_lload hx hb dX7_bitsOfShare_37 (lv_at hl 1 rfl) ?_
        refine lv_lconst (v := 1) hx hb dX7_bitsOfShare_39 rfl ?_
        refine lv_lsub hx hb dX7_bitsOfShare_40 ?_
        refine lv_lstore (lv' := [(4, .long (v4 - 1)), (2, .double x35), (6, .int v6)]) hx hb dX7_bitsOfShare_41 hl (by decide) rfl (fun ls hl => ?_)
        refine lv_iinc (v := v6 + 1) (lv' := [(6, .int (v6 + 1)), (4, .long (v4 - 1)), (2, .double x35)]) hx hb dX7_bitsOfShare_43 hl (k := 2) rfl rfl (by decide) rfl (fun ls hl => ?_)
        refine lv_goto (tgt := 18) hx hb dX7_bitsOfShare_46 (by decide) ?_
        exact ih _ _ _ _ _ _ hrun hR hz hS (lv_sub hl [2, 1, 0] rfl)
set_option maxRecDepth 100000 in
set_option maxHeartbeats 4000000 in
theorem c_X7_bitsOfShare (l : Launch) (D : va_G) (ids : m_I3) (st : m_T) (z : Nat) {h : mH} {v0 : UInt64} {r : Int64} (hrun : s_X7_bitsOfShare h v0 = some r) : Met l yX7_bitsOfShare (m_ws yX7_bitsOfShare cX7_bitsOfShare 8 (some .long)) rm_X7_bitsOfShare (mPc D ids st [.double v0] h z) (mQl D ids (m_A h z) r h z) rm_X7_bitsOfShare.cells rm_X7_bitsOfShare.slots (m_A h z) := by
  refine mr_of (cc := cX7_bitsOfShare) (maxL := 8) (ret := some .long) (by decide) rfl (Nat.le_of_ble_eq_true rfl) ?_
  intro p e s m below meth c ls hx hb hr hml hown hts hlocks hin hR hE hz hl
  have hA : ∀ q, s.heap.size ≤ q → m_A h z q := fun q hq => Or.inr (by rw [← hz]; exact hq)
  have hS : va_S (m_A h z) s.heap s.heap [] := va_S.rf
  have hl : lv_has ls 8 [(0, .double v0)] := hl
  unfold s_X7_bitsOfShare at hrun
  refine lv_dload_n hx hb dX7_bitsOfShare_0 rfl (lv_at hl 0 rfl) ?_
  refine lv_dconst0 hx hb dX7_bitsOfShare_1 ?_
  refine lv_dcmp hx hb dX7_bitsOfShare_2 ?_
  refine lv_if_gt (tgt := 8) hx hb dX7_bitsOfShare_3 (by decide) (fun hc => ?_) (fun hc => ?_)
  · have hrun := mt_t hrun hc
    refine lv_dload_n hx hb dX7_bitsOfShare_8 rfl (lv_at hl 0 rfl) ?_
    refine lv_dstore_n (lv' := [(2, .double v0), (0, .double v0)]) hx hb dX7_bitsOfShare_9 rfl hl (by decide) rfl (fun ls hl => ?_)
    refine lv_ldc2 (v := 1023) hx hb hown (hts _ (m_ws_in wm_1_210)) dX7_bitsOfShare_10 ?_
    refine lv_lstore (lv' := [(4, .long 1023), (2, .double v0), (0, .double v0)]) hx hb dX7_bitsOfShare_13 hl (by decide) rfl (fun ls hl => ?_)
    refine lv_iconst (v := 0) hx hb dX7_bitsOfShare_15 (by decide) ?_
    refine lv_istore (lv' := [(6, .int 0), (4, .long 1023), (2, .double v0), (0, .double v0)]) hx hb dX7_bitsOfShare_16 hl (by decide) rfl (fun ls hl => ?_)
    exact k_X7_bitsOfShare_L18 hx hb hr hml hown hts hlocks hin hE hA _ _ _ _ _ _ _ hrun hR hz hS (lv_sub hl [2, 1, 0] rfl)
  · have hrun := mt_f hrun hc
    refine lv_lconst (v := 0) hx hb dX7_bitsOfShare_6 rfl ?_
    obtain rfl := Option.some.inj hrun
    exact mr_lret hx hb hr hlocks hR hz hS dX7_bitsOfShare_7
/-! X7_digest -/
abbrev rm_X7_digest : Room := { frames := 6, cells := 0, slots := 0, locals := 142 }
theorem yk_X7_digest : m_K yX7_digest cX7_digest 5 (some .long) 0 := ⟨wm_1_117, wm_0_1, by decide +kernel⟩
theorem ys_X7_digest : Cond.instanceMethod yX7_digest ∈ wT ∧ Cond.selects RX7 yX7_digest yX7_digest ∈ wT := ⟨wm_1_115, wm_1_116⟩
set_option maxRecDepth 100000 in
set_option maxHeartbeats 4000000 in
theorem k_X7_digest_L116 {p : Program} {l : Launch} {e : Env} {s : State} {m : MethodId} {args : Array Value} {below : List Frame} {meth : Method} {c : Code} {D : va_G} {ids : m_I3} {st : m_T} {A : Nat → Prop} {z : Nat} {r : Int64} {hF : mH} (hx : p.tables.exec = Jvm.exec) (hb : c.code = cX7_digest) (hr : meth.sig.returnType = some .long) (hml : c.maxLocals = 5) (hown : s.vm.findClass RX7 = some m.cls) (hts : ∀ w ∈ (m_ws yX7_digest cX7_digest 5 (some .long)), w.before args s = true) (hlocks : meth.locks = false) (hin : meth.name = yX7_digest.name) (hE : m_EV st A s s.heap) (hA : ∀ q, s.heap.size ≤ q → A q) : ∀ (n : Nat) (h : mH) (v0 : Nat) (v1 : Int64) (v3 : Int32) (H : Heap) (locs : List Loc) (ls : Array Slot), s_X7_digest_L116 st n h v0 v1 v3 = some (r, hF) → Rl D ids A h s H → H.size = z → va_S A s.heap H locs → lv_has ls 5 [(0, .ref v0), (1, .long v1), (3, .int v3)] → W p l e rm_X7_digest s m args below meth c H locs 0 0 (MQ below (mQl D ids A r hF z) args s 0 0 A) (F0 m 116 ls []) := by
  intro n
  induction n with
  | zero => intro h v0 v1 v3 H locs ls hrun; exact absurd hrun (by intro h9; cases h9)
  | succ n ih =>
    intro h v0 v1 v3 H locs ls hrun hR hz hS hl
    rw [s_X7_digest_L116] at hrun
    refine lv_iload_n hx hb dX7_digest_116 rfl (lv_at hl 2 rfl) ?_
    refine lv_iconst (v := 4) hx hb dX7_digest_117 (by decide) ?_
    refine lv_icmp_ge (tgt := 148) hx hb dX7_digest_118 (by decide) (fun hc => ?_) (fun hc => ?_)
    · have hrun := mt_t hrun hc
      refine lv_lload_n hx hb dX7_digest_148 rfl (lv_at hl 1 rfl) ?_
      refine lv_aload_n hx hb dX7_digest_149 rfl (lv_at hl 0 rfl) ?_
      obtain ⟨_, ho9, hrun⟩ := m_bind hrun
      obtain ⟨fs9, ho9⟩ := m_is_spec ho9
      obtain ⟨x150, hc9, hrun⟩ := m_bind hrun
      refine mr_calli (mr_runV (As := []) (rest := [.long v1]) hx hb hml hown hts (c_X7_leaky l D ids st z hc9) yk_X7_leaky ys_X7_leaky wm_1_204 ⟨(Nat.le_of_ble_eq_true rfl), (Nat.le_of_ble_eq_true rfl)⟩ (mr_recv (ci := 5) hR hE hz hS hA rfl ho9) hl.1 rfl (Nat.le_of_ble_eq_true rfl) dX7_digest_150 ⟨(Nat.le_of_ble_eq_true rfl), (Nat.le_of_ble_eq_true rfl)⟩) hR hz hS hA (fun H locs hR hz hS => ?_)
      refine lv_i2l (v := x150.toInt64) hx hb dX7_digest_153 rfl ?_
      obtain ⟨x154, hc9, hrun⟩ := m_bind hrun
      refine mr_calll (mr_runS (As := [.long v1, .long x150.toInt64]) (rest := []) hx hb hml hown hts (c_X7_mixed l D ids st z hc9) yk_X7_mixed ys_X7_mixed wm_1_130 ⟨(Nat.le_of_ble_eq_true rfl), (Nat.le_of_ble_eq_true rfl)⟩ (mr_recvS hR hE hz hS hA) hl.1 rfl (Nat.le_of_ble_eq_true rfl) dX7_digest_154 ⟨(Nat.le_of_ble_eq_true rfl), (Nat.le_of_ble_eq_true rfl)⟩) hR hz hS hA (fun H locs hR hz hS => ?_)
      refine lv_lstore_n (lv' := [(1, .long x154), (0, .ref v0), (3, .int v3)]) hx hb dX7_digest_157 rfl hl (by decide) rfl (fun ls hl => ?_)
      refine lv_lload_n hx hb dX7_digest_158 rfl (lv_at hl 0 rfl) ?_
      refine lv_aload_n hx hb dX7_digest_159 rfl (lv_at hl 1 rfl) ?_
      obtain ⟨_, ho9, hrun⟩ := m_bind hrun
      obtain ⟨fs9, ho9⟩ := m_is_spec ho9
      obtain ⟨x160, hc9, hrun⟩ := m_bind hrun
      refine mr_calli (mr_runV (As := []) (rest := [.long x154]) hx hb hml hown hts (c_X7_leastCap l D ids st z hc9) yk_X7_leastCap ys_X7_leastCap wm_1_205 ⟨(Nat.le_of_ble_eq_true rfl), (Nat.le_of_ble_eq_true rfl)⟩ (mr_recv (ci := 5) hR hE hz hS hA rfl ho9) hl.1 rfl (Nat.le_of_ble_eq_true rfl) dX7_digest_160 ⟨(Nat.le_of_ble_eq_true rfl), (Nat.le_of_ble_eq_true rfl)⟩) hR hz hS hA (fun H locs hR hz hS => ?_)
      refine lv_i2l (v := x160.toInt64) hx hb dX7_digest_163 rfl ?_
      obtain ⟨x164, hc9, hrun⟩ := m_bind hrun
      refine mr_calll (mr_runS (As := [.long x154, .long x160.toInt64]) (rest := []) hx hb hml hown hts (c_X7_mixed l D ids st z hc9) yk_X7_mixed ys_X7_mixed wm_1_130 ⟨(Nat.le_of_ble_eq_true rfl), (Nat.le_of_ble_eq_true rfl)⟩ (mr_recvS hR hE hz hS hA) hl.1 rfl (Nat.le_of_ble_eq_true rfl) dX7_digest_164 ⟨(Nat.le_of_ble_eq_true rfl), (Nat.le_of_ble_eq_true rfl)⟩) hR hz hS hA (fun H locs hR hz hS => ?_)
      refine lv_lstore_n (lv' := [(1, .long x164), (0, .ref v0), (3, .int v3)]) hx hb dX7_digest_167 rfl hl (by decide) rfl (fun ls hl => ?_)
      refine lv_lload_n hx hb dX7_digest_168 rfl (lv_at hl 0 rfl) ?_
      refine lv_aload_n hx hb dX7_digest_169 rfl (lv_at hl 1 rfl) ?_
      obtain ⟨_, ho9, hrun⟩ := m_bind hrun
      obtain ⟨fs9, ho9⟩ := m_is_spec ho9
      obtain ⟨x170, hc9, hrun⟩ := m_bind hrun
      refine mr_calld (mr_runV (As := []) (rest := [.long x164]) hx hb hml hown hts (c_X7_capShare l D ids st z hc9) yk_X7_capShare ys_X7_capShare wm_1_206 ⟨(Nat.le_of_ble_eq_true rfl), (Nat.le_of_ble_eq_true rfl)⟩ (mr_recv (ci := 5) hR hE hz hS hA rfl ho9) hl.1 rfl (Nat.le_of_ble_eq_true rfl) dX7_digest_170 ⟨(Nat.le_of_ble_eq_true rfl), (Nat.le_of_ble_eq_true rfl)⟩) hR hz hS hA (fun H locs hR hz hS => ?_)
      obtain ⟨x173, hc9, hrun⟩ := m_bind hrun
      refine mr_calll (mr_runS (As := [.double x170]) (rest := [.long x164]) hx hb hml hown hts (c_X7_bitsOfShare l D ids st z hc9) yk_X7_bitsOfShare ys_X7_bitsOfShare wm_1_207 ⟨(Nat.le_of_ble_eq_true rfl), (Nat.le_of_ble_eq_true rfl)⟩ (mr_recvS hR hE hz hS hA) hl.1 rfl (Nat.le_of_ble_eq_true rfl) dX7_digest_173 ⟨(Nat.le_of_ble_eq_true rfl), (Nat.le_of_ble_eq_true rfl)⟩) hR hz hS hA (fun H locs hR hz hS => ?_)
      obtain ⟨x176, hc9, hrun⟩ := m_bind hrun
      refine mr_calll (mr_runS (As := [.long x164, .long x173]) (rest := []) hx hb hml hown hts (c_X7_mixed l D ids st z hc9) yk_X7_mixed ys_X7_mixed wm_1_130 ⟨(Nat.le_of_ble_eq_true rfl), (Nat.le_of_ble_eq_true rfl)⟩ (mr_recvS hR hE hz hS hA) hl.1 rfl (Nat.le_of_ble_eq_true rfl) dX7_digest_176 ⟨(Nat.le_of_ble_eq_true rfl), (Nat.le_of_ble_eq_true rfl)⟩) hR hz hS hA (fun H locs hR hz hS => ?_)
      refine lv_lstore_n (lv' := [(1, .long x176), (0, .ref v0), (3, .int v3)]) hx hb dX7_digest_179 rfl hl (by decide) rfl (fun ls hl => ?_)
      refine lv_lload_n hx hb dX7_digest_180 rfl (lv_at hl 0 rfl) ?_
      refine lv_aload_n hx hb dX7_digest_181 rfl (lv_at hl 1 rfl) ?_
      obtain ⟨x182, hc9, hrun⟩ := m_bind hrun
      refine mr_get (C := RX7) (T := TX7) (N := 8) (ci := 5) hx hb hts (fun w q => m_ws_in (wi_X7 w q)) hown hR rfl 6 (by decide) (hts _ (m_ws_in wm_1_17)) (fun _ h9 => h9) (m_gi_spec hc9) dX7_digest_182 ?_
      refine lv_i2l (v := x182.toInt64) hx hb dX7_digest_185 rfl ?_
      obtain ⟨x186, hc9, hrun⟩ := m_bind hrun
      refine mr_calll (mr_runS (As := [.long x176, .long x182.toInt64]) (rest := []) hx hb hml hown hts (c_X7_mixed l D ids st z hc9) yk_X7_mixed ys_X7_mixed wm_1_130 ⟨(Nat.le_of_ble_eq_true rfl), (Nat.le_of_ble_eq_true rfl)⟩ (mr_recvS hR hE hz hS hA) hl.1 rfl (Nat.le_of_ble_eq_true rfl) dX7_digest_186 ⟨(Nat.le_of_ble_eq_true rfl), (Nat.le_of_ble_eq_true rfl)⟩) hR hz hS hA (fun H locs hR hz hS => ?_)
      refine lv_lstore_n (lv' := [(1, .long x186), (0, .ref v0), (3, .int v3)]) hx hb dX7_digest_189 rfl hl (by decide) rfl (fun ls hl => ?_)
      refine lv_lload_n hx hb dX7_digest_190 rfl (lv_at hl 0 rfl) ?_
      refine lv_aload_n hx hb dX7_digest_191 rfl (lv_at hl 1 rfl) ?_
      obtain ⟨x192, hc9, hrun⟩ := m_bind hrun
      refine mr_get (C := RX7) (T := TX7) (N := 8) (ci := 5) hx hb hts (fun w q => m_ws_in (wi_X7 w q)) hown hR rfl 5 (by decide) (hts _ (m_ws_in wm_1_16)) (fun _ h9 => h9) (m_gr_spec hc9) dX7_digest_192 ?_
      refine lv_aload_n hx hb dX7_digest_195 rfl (lv_at hl 1 rfl) ?_
      obtain ⟨x196, hc9, hrun⟩ := m_bind hrun
      refine mr_get (C := RX7) (T := TX7) (N := 8) (ci := 5) hx hb hts (fun w q => m_ws_in (wi_X7 w q)) hown hR rfl 6 (by decide) (hts _ (m_ws_in wm_1_17)) (fun _ h9 => h9) (m_gi_spec hc9) dX7_digest_196 ?_
      obtain ⟨x199, hc9, hrun⟩ := m_bind hrun
      refine mr_calll (mr_runS (As := [.long x186, .ref x192, .int x196]) (rest := []) hx hb hml hown hts (c_X1_mixedAll l D ids st z hc9) yk_X1_mixedAll ys_X1_mixedAll wm_1_134 ⟨(Nat.le_of_ble_eq_true rfl), (Nat.le_of_ble_eq_true rfl)⟩ (mr_recvS hR hE hz hS hA) hl.1 rfl (Nat.le_of_ble_eq_true rfl) dX7_digest_199 ⟨(Nat.le_of_ble_eq_true rfl), (Nat.le_of_ble_eq_true rfl)⟩) hR hz hS hA (fun H locs hR hz hS => ?_)
      obtain ⟨rfl, rfl⟩ := Prod.mk.inj (Option.some.inj hrun)
      exact mr_lret hx hb hr hlocks hR hz hS dX7_digest_202
    · have hrun := mt_f hrun hc
      refine lv_lload_n hx hb dX7_digest_121 rfl (lv_at hl 1 rfl) ?_
      refine lv_aload_n hx hb dX7_digest_122 rfl (lv_at hl 0 rfl) ?_
      refine lv_iload_n hx hb dX7_digest_123 rfl (lv_at hl 2 rfl) ?_
      refine lv_bipush (v := 6) hx hb dX7_digest_124 (by decide) ?_
      refine lv_sipush (v := 500) hx hb dX7_digest_126 (by decide) ?_
      refine lv_iconst (v := 4) hx hb dX7_digest_129 (by decide) ?_
      refine lv_iconst (v := 1) hx hb dX7_digest_130 (by decide) ?_
      obtain ⟨x131, hc9, hrun⟩ := m_bind hrun
      refine mr_calli (mr_runS (As := [.int v3, .int 6, .int 500, .int 4, .int 1]) (rest := [.ref v0, .long v1]) hx hb hml hown hts (c_X4_make l D ids st z hc9) yk_X4_make ys_X4_make wm_1_176 ⟨(Nat.le_of_ble_eq_true rfl), (Nat.le_of_ble_eq_true rfl)⟩ (mr_recvS hR hE hz hS hA) hl.1 rfl (Nat.le_of_ble_eq_true rfl) dX7_digest_131 ⟨(Nat.le_of_ble_eq_true rfl), (Nat.le_of_ble_eq_true rfl)⟩) hR hz hS hA (fun H locs hR hz hS => ?_)
      obtain ⟨_, ho9, hrun⟩ := m_bind hrun
      obtain ⟨fs9, ho9⟩ := m_is_spec ho9
      obtain ⟨⟨x134, h134⟩, hc9, hrun⟩ := m_bind hrun
      refine mr_calli (mr_runV (As := [.int x131]) (rest := [.long v1]) hx hb hml hown hts (c_X7_raisedChange l D ids st z hc9) yk_X7_raisedChange ys_X7_raisedChange wm_1_177 ⟨(Nat.le_of_ble_eq_true rfl), (Nat.le_of_ble_eq_true rfl)⟩ (mr_recv (ci := 5) hR hE hz hS hA rfl ho9) hl.1 rfl (Nat.le_of_ble_eq_true rfl) dX7_digest_134 ⟨(Nat.le_of_ble_eq_true rfl), (Nat.le_of_ble_eq_true rfl)⟩) hR hz hS hA (fun H locs hR hz hS => ?_)
      refine lv_i2l (v := x134.toInt64) hx hb dX7_digest_137 rfl ?_
      obtain ⟨x138, hc9, hrun⟩ := m_bind hrun
      refine mr_calll (mr_runS (As := [.long v1, .long x134.toInt64]) (rest := []) hx hb hml hown hts (c_X7_mixed l D ids st z hc9) yk_X7_mixed ys_X7_mixed wm_1_130 ⟨(Nat.le_of_ble_eq_true rfl), (Nat.le_of_ble_eq_true rfl)⟩ (mr_recvS hR hE hz hS hA) hl.1 rfl (Nat.le_of_ble_eq_true rfl) dX7_digest_138 ⟨(Nat.le_of_ble_eq_true rfl), (Nat.le_of_ble_eq_true rfl)⟩) hR hz hS hA (fun H locs hR hz hS => ?_)
      refine lv_lstore_n (lv' := [(1, .long x138), (0, .ref v0), (3, .int v3)]) hx hb dX7_digest_141 rfl hl (by decide) rfl (fun ls hl => ?_)
      refine lv_iinc (v := v3 + 1) (lv' := [(3, .int (v3 + 1)), (1, .long x138), (0, .ref v0)]) hx hb dX7_digest_142 hl (k := 2) rfl rfl (by decide) rfl (fun ls hl => ?_)
      refine lv_goto (tgt := 116) hx hb dX7_digest_145 (by decide) ?_
      exact ih _ _ _ _ _ _ _ hrun hR hz hS (lv_sub hl [2, 1, 0] rfl)
set_option maxRecDepth 100000 in
set_option maxHeartbeats 4000000 in
theorem k_X7_digest_L96 {p : Program} {l : Launch} {e : Env} {s : State} {m : MethodId} {args : Array Value} {below : List Frame} {meth : Method} {c : Code} {D : va_G} {ids : m_I3} {st : m_T} {A : Nat → Prop} {z : Nat} {r : Int64} {hF : mH} (hx : p.tables.exec = Jvm.exec) (hb : c.code = cX7_digest) (hr : meth.sig.returnType = some .long) (hml : c.maxLocals = 5) (hown : s.vm.findClass RX7 = some m.cls) (hts : ∀ w ∈ (m_ws yX7_digest cX7_digest 5 (some .long)), w.before args s = true) (hlocks : meth.locks = false) (hin : meth.name = yX7_digest.name) (hE : m_EV st A s s.heap) (hA : ∀ q, s.heap.size ≤ q → A q) : ∀ (n : Nat) (h : mH) (v0 : Nat) (v1 : Int64) (v3 : Int32) (H : Heap) (locs : List Loc) (ls : Array Slot), s_X7_digest_L96 st n h v0 v1 v3 = some (r, hF) → Rl D ids A h s H → H.size = z → va_S A s.heap H locs → lv_has ls 5 [(0, .ref v0), (1, .long v1), (3, .int v3)] → W p l e rm_X7_digest s m args below meth c H locs 0 0 (MQ below (mQl D ids A r hF z) args s 0 0 A) (F0 m 96 ls []) := by
  intro n
  induction n with
  | zero => intro h v0 v1 v3 H locs ls hrun; exact absurd hrun (by intro h9; cases h9)
  | succ n ih =>
    intro h v0 v1 v3 H locs ls hrun hR hz hS hl
    rw [s_X7_digest_L96] at hrun
    refine lv_iload_n hx hb dX7_digest_96 rfl (lv_at hl 2 rfl) ?_
    refine lv_iconst (v := 4) hx hb dX7_digest_97 (by decide) ?_
    refine lv_icmp_ge (tgt := 114) hx hb dX7_digest_98 (by decide) (fun hc => ?_) (fun hc => ?_)
    · have hrun := mt_t hrun hc
      refine lv_iconst (v := 0) hx hb dX7_digest_114 (by decide) ?_
      refine lv_istore_n (lv' := [(3, .int 0), (0, .ref v0), (1, .long v1)]) hx hb dX7_digest_115 rfl hl (by decide) rfl (fun ls hl => ?_)
      exact k_X7_digest_L116 hx hb hr hml hown hts hlocks hin hE hA _ _ _ _ _ _ _ _ hrun hR hz hS (lv_sub hl [1, 2, 0] rfl)
    · have hrun := mt_f hrun hc
      refine lv_aload_n hx hb dX7_digest_101 rfl (lv_at hl 0 rfl) ?_
      refine lv_lload_n hx hb dX7_digest_102 rfl (lv_at hl 1 rfl) ?_
      refine lv_iload_n hx hb dX7_digest_103 rfl (lv_at hl 2 rfl) ?_
      obtain ⟨_, ho9, hrun⟩ := m_bind hrun
      obtain ⟨fs9, ho9⟩ := m_is_spec ho9
      obtain ⟨x104, hc9, hrun⟩ := m_bind hrun
      refine mr_calll (mr_runV (As := [.long v1, .int v3]) (rest := []) hx hb hml hown hts (c_X7_mixedWallet l D ids st z hc9) yk_X7_mixedWallet ys_X7_mixedWallet wm_1_151 ⟨(Nat.le_of_ble_eq_true rfl), (Nat.le_of_ble_eq_true rfl)⟩ (mr_recv (ci := 5) hR hE hz hS hA rfl ho9) hl.1 rfl (Nat.le_of_ble_eq_true rfl) dX7_digest_104 ⟨(Nat.le_of_ble_eq_true rfl), (Nat.le_of_ble_eq_true rfl)⟩) hR hz hS hA (fun H locs hR hz hS => ?_)
      refine lv_lstore_n (lv' := [(1, .long x104), (0, .ref v0), (3, .int v3)]) hx hb dX7_digest_107 rfl hl (by decide) rfl (fun ls hl => ?_)
      refine lv_iinc (v := v3 + 1) (lv' := [(3, .int (v3 + 1)), (1, .long x104), (0, .ref v0)]) hx hb dX7_digest_108 hl (k := 2) rfl rfl (by decide) rfl (fun ls hl => ?_)
      refine lv_goto (tgt := 96) hx hb dX7_digest_111 (by decide) ?_
      exact ih _ _ _ _ _ _ _ hrun hR hz hS (lv_sub hl [2, 1, 0] rfl)
set_option maxRecDepth 100000 in
set_option maxHeartbeats 4000000 in
theorem k_X7_digest_L62 {p : Program} {l : Launch} {e : Env} {s : State} {m : MethodId} {args : Array Value} {below : List Frame} {meth : Method} {c : Code} {D : va_G} {ids : m_I3} {st : m_T} {A : Nat → Prop} {z : Nat} {r : Int64} {hF : mH} (hx : p.tables.exec = Jvm.exec) (hb : c.code = cX7_digest) (hr : meth.sig.returnType = some .long) (hml : c.maxLocals = 5) (hown : s.vm.findClass RX7 = some m.cls) (hts : ∀ w ∈ (m_ws yX7_digest cX7_digest 5 (some .long)), w.before args s = true) (hlocks : meth.locks = false) (hin : meth.name = yX7_digest.name) (hE : m_EV st A s s.heap) (hA : ∀ q, s.heap.size ≤ q → A q) {k45 : mH → Nat → Int64 → Int32 → Option (Int64 × mH)} (hk45 : ∀ (h : mH) (v0 : Nat) (v1 : Int64) (v3 : Int32) (H : Heap) (locs : List Loc) (ls : Array Slot), k45 h v0 v1 v3 = some (r, hF) → Rl D ids A h s H → H.size = z → va_S A s.heap H locs → lv_has ls 5 [(0, .ref v0), (1, .long v1), (3, .int v3)] → W p l e rm_X7_digest s m args below meth c H locs 0 0 (MQ below (mQl D ids A r hF z) args s 0 0 A) (F0 m 45 ls [])) : ∀ (n : Nat) (h : mH) (v0 : Nat) (v1 : Int64) (v3 : Int32) (v4 : Int32) (H : Heap) (locs : List Loc) (ls : Array Slot), s_X7_digest_L62 st k45 n h v0 v1 v3 v4 = some (r, hF) → Rl D ids A h s H → H.size = z → va_S A s.heap H locs → lv_has ls 5 [(0, .ref v0), (1, .long v1), (3, .int v3), (4, .int v4)] → W p l e rm_X7_digest s m args below meth c H locs 0 0 (MQ below (mQl D ids A r hF z) args s 0 0 A) (F0 m 62 ls []) := by
  intro n
  induction n with
  | zero => intro h v0 v1 v3 v4 H locs ls hrun; exact absurd hrun (by intro h9; cases h9)
  | succ n ih =>
    intro h v0 v1 v3 v4 H locs ls hrun hR hz hS hl
    rw [s_X7_digest_L62] at hrun
    refine lv_iload hx hb dX7_digest_62 (lv_at hl 3 rfl) ?_
    refine lv_bipush (v := 8) hx hb dX7_digest_64 (by decide) ?_
    refine lv_icmp_ge (tgt := 88) hx hb dX7_digest_66 (by decide) (fun hc => ?_) (fun hc => ?_)
    · have hrun := mt_t hrun hc
      refine lv_iinc (v := v3 + 1) (lv' := [(3, .int (v3 + 1)), (0, .ref v0), (1, .long v1), (4, .int v4)]) hx hb dX7_digest_88 hl (k := 2) rfl rfl (by decide) rfl (fun ls hl => ?_)
      refine lv_goto (tgt := 45) hx hb dX7_digest_91 (by decide) ?_
      exact hk45 _ _ _ _ _ _ _ hrun hR hz hS (lv_sub hl [1, 2, 0] rfl)
    · have hrun := mt_f hrun hc
      refine lv_lload_n hx hb dX7_digest_69 rfl (lv_at hl 1 rfl) ?_
      refine lv_aload_n hx hb dX7_digest_70 rfl (lv_at hl 0 rfl) ?_
      refine lv_iload_n hx hb dX7_digest_71 rfl (lv_at hl 2 rfl) ?_
      refine lv_iload hx hb dX7_digest_72 (lv_at hl 3 rfl) ?_
      obtain ⟨_, ho9, hrun⟩ := m_bind hrun
      obtain ⟨fs9, ho9⟩ := m_is_spec ho9
      obtain ⟨x74, hc9, hrun⟩ := m_bind hrun
      refine mr_calli (mr_runV (As := [.int v3, .int v4]) (rest := [.long v1]) hx hb hml hown hts (c_X7_tapProperty l D ids st z hc9) yk_X7_tapProperty ys_X7_tapProperty wm_1_138 ⟨(Nat.le_of_ble_eq_true rfl), (Nat.le_of_ble_eq_true rfl)⟩ (mr_recv (ci := 5) hR hE hz hS hA rfl ho9) hl.1 rfl (Nat.le_of_ble_eq_true rfl) dX7_digest_74 ⟨(Nat.le_of_ble_eq_true rfl), (Nat.le_of_ble_eq_true rfl)⟩) hR hz hS hA (fun H locs hR hz hS => ?_)
      refine lv_i2l (v := x74.toInt64) hx hb dX7_digest_77 rfl ?_
      obtain ⟨x78, hc9, hrun⟩ := m_bind hrun
      refine mr_calll (mr_runS (As := [.long v1, .long x74.toInt64]) (rest := []) hx hb hml hown hts (c_X7_mixed l D ids st z hc9) yk_X7_mixed ys_X7_mixed wm_1_130 ⟨(Nat.le_of_ble_eq_true rfl), (Nat.le_of_ble_eq_true rfl)⟩ (mr_recvS hR hE hz hS hA) hl.1 rfl (Nat.le_of_ble_eq_true rfl) dX7_digest_78 ⟨(Nat.le_of_ble_eq_true rfl), (Nat.le_of_ble_eq_true rfl)⟩) hR hz hS hA (fun H locs hR hz hS => ?_)
      refine lv_lstore_n (lv' := [(1, .long x78), (0, .ref v0), (3, .int v3), (4, .int v4)]) hx hb dX7_digest_81 rfl hl (by decide) rfl (fun ls hl => ?_)
      refine lv_iinc (v := v4 + 1) (lv' := [(4, .int (v4 + 1)), (1, .long x78), (0, .ref v0), (3, .int v3)]) hx hb dX7_digest_82 hl (k := 3) rfl rfl (by decide) rfl (fun ls hl => ?_)
      refine lv_goto (tgt := 62) hx hb dX7_digest_85 (by decide) ?_
      exact ih _ _ _ _ _ _ _ _ hrun hR hz hS (lv_sub hl [2, 1, 3, 0] rfl)
set_option maxRecDepth 100000 in
set_option maxHeartbeats 4000000 in
theorem k_X7_digest_L45 {p : Program} {l : Launch} {e : Env} {s : State} {m : MethodId} {args : Array Value} {below : List Frame} {meth : Method} {c : Code} {D : va_G} {ids : m_I3} {st : m_T} {A : Nat → Prop} {z : Nat} {r : Int64} {hF : mH} (hx : p.tables.exec = Jvm.exec) (hb : c.code = cX7_digest) (hr : meth.sig.returnType = some .long) (hml : c.maxLocals = 5) (hown : s.vm.findClass RX7 = some m.cls) (hts : ∀ w ∈ (m_ws yX7_digest cX7_digest 5 (some .long)), w.before args s = true) (hlocks : meth.locks = false) (hin : meth.name = yX7_digest.name) (hE : m_EV st A s s.heap) (hA : ∀ q, s.heap.size ≤ q → A q) : ∀ (n : Nat) (h : mH) (v0 : Nat) (v1 : Int64) (v3 : Int32) (H : Heap) (locs : List Loc) (ls : Array Slot), s_X7_digest_L45 st n h v0 v1 v3 = some (r, hF) → Rl D ids A h s H → H.size = z → va_S A s.heap H locs → lv_has ls 5 [(0, .ref v0), (1, .long v1), (3, .int v3)] → W p l e rm_X7_digest s m args below meth c H locs 0 0 (MQ below (mQl D ids A r hF z) args s 0 0 A) (F0 m 45 ls []) := by
  intro n
  induction n with
  | zero => intro h v0 v1 v3 H locs ls hrun; exact absurd hrun (by intro h9; cases h9)
  | succ n ih =>
    intro h v0 v1 v3 H locs ls hrun hR hz hS hl
    rw [s_X7_digest_L45] at hrun
    refine lv_iload_n hx hb dX7_digest_45 rfl (lv_at hl 2 rfl) ?_
    refine lv_aload_n hx hb dX7_digest_46 rfl (lv_at hl 0 rfl) ?_
    obtain ⟨x47, hc9, hrun⟩ := m_bind hrun
    refine mr_get (C := RX7) (T := TX7) (N := 8) (ci := 5) hx hb hts (fun w q => m_ws_in (wi_X7 w q)) hown hR rfl 0 (by decide) (hts _ (m_ws_in wm_1_11)) (fun _ h9 => h9) (m_gr_spec hc9) dX7_digest_47 ?_
    obtain ⟨x50, hc9, hrun⟩ := m_bind hrun
    refine mr_getN (C := RX3) (T := TX3) (N := 10) (ci := 2) hx hb hts (fun w q => m_ws_in (wi_X3 w q)) hown hR rfl 0 (by decide) (hE.nf (i := 3) rfl) (fun _ h9 => h9) (m_gr_spec hc9) dX7_digest_50 ?_
    obtain ⟨x53, hc9, hrun⟩ := m_bind hrun
    refine mr_getN (C := RX5) (T := TX5) (N := 2) (ci := 3) hx hb hts (fun w q => m_ws_in (wi_X5 w q)) hown hR rfl 1 (by decide) (hE.nf (i := 0) rfl) (fun _ h9 => h9) (m_gi_spec hc9) dX7_digest_53 ?_
    refine lv_icmp_ge (tgt := 94) hx hb dX7_digest_56 (by decide) (fun hc => ?_) (fun hc => ?_)
    · have hrun := mt_t hrun hc
      refine lv_iconst (v := 0) hx hb dX7_digest_94 (by decide) ?_
      refine lv_istore_n (lv' := [(3, .int 0), (0, .ref v0), (1, .long v1)]) hx hb dX7_digest_95 rfl hl (by decide) rfl (fun ls hl => ?_)
      exact k_X7_digest_L96 hx hb hr hml hown hts hlocks hin hE hA _ _ _ _ _ _ _ _ hrun hR hz hS (lv_sub hl [1, 2, 0] rfl)
    · have hrun := mt_f hrun hc
      refine lv_iconst (v := 0) hx hb dX7_digest_59 (by decide) ?_
      refine lv_istore (lv' := [(4, .int 0), (0, .ref v0), (1, .long v1), (3, .int v3)]) hx hb dX7_digest_60 hl (by decide) rfl (fun ls hl => ?_)
      exact k_X7_digest_L62 hx hb hr hml hown hts hlocks hin hE hA ih _ _ _ _ _ _ _ _ _ hrun hR hz hS (lv_sub hl [1, 2, 3, 0] rfl)
set_option maxRecDepth 100000 in
set_option maxHeartbeats 4000000 in
theorem k_X7_digest_L6 {p : Program} {l : Launch} {e : Env} {s : State} {m : MethodId} {args : Array Value} {below : List Frame} {meth : Method} {c : Code} {D : va_G} {ids : m_I3} {st : m_T} {A : Nat → Prop} {z : Nat} {r : Int64} {hF : mH} (hx : p.tables.exec = Jvm.exec) (hb : c.code = cX7_digest) (hr : meth.sig.returnType = some .long) (hml : c.maxLocals = 5) (hown : s.vm.findClass RX7 = some m.cls) (hts : ∀ w ∈ (m_ws yX7_digest cX7_digest 5 (some .long)), w.before args s = true) (hlocks : meth.locks = false) (hin : meth.name = yX7_digest.name) (hE : m_EV st A s s.heap) (hA : ∀ q, s.heap.size ≤ q → A q) : ∀ (n : Nat) (h : mH) (v0 : Nat) (v1 : Int64) (v3 : Int32) (H : Heap) (locs : List Loc) (ls : Array Slot), s_X7_digest_L6 st n h v0 v1 v3 = some (r, hF) → Rl D ids A h s H → H.size = z → va_S A s.heap H locs → lv_has ls 5 [(0, .ref v0), (1, .long v1), (3, .int v3)] → W p l e rm_X7_digest s m args below meth c H locs 0 0 (MQ below (mQl D ids A r hF z) args s 0 0 A) (F0 m 6 ls []) := by
  intro n
  induction n with
  | zero => intro h v0 v1 v3 H locs ls hrun; exact absurd hrun (by intro h9; cases h9)
  | succ n ih =>
    intro h v0 v1 v3 H locs ls hrun hR hz hS hl
    rw [s_X7_digest_L6] at hrun
    refine lv_iload_n hx hb dX7_digest_6 rfl (lv_at hl 2 rfl) ?_
    refine lv_bipush (v := 10) hx hb dX7_digest_7 (by decide) ?_
    refine lv_icmp_ge (tgt := 29) hx hb dX7_digest_9 (by decide) (fun hc => ?_) (fun hc => ?_)
    · have hrun := mt_t hrun hc
      refine lv_lload_n hx hb dX7_digest_29 rfl (lv_at hl 1 rfl) ?_
      refine lv_aload_n hx hb dX7_digest_30 rfl (lv_at hl 0 rfl) ?_
      obtain ⟨x31, hc9, hrun⟩ := m_bind hrun
      refine mr_get (C := RX7) (T := TX7) (N := 8) (ci := 5) hx hb hts (fun w q => m_ws_in (wi_X7 w q)) hown hR rfl 0 (by decide) (hts _ (m_ws_in wm_1_11)) (fun _ h9 => h9) (m_gr_spec hc9) dX7_digest_31 ?_
      obtain ⟨x34, hc9, hrun⟩ := m_bind hrun
      refine mr_getN (C := RX3) (T := TX3) (N := 10) (ci := 2) hx hb hts (fun w q => m_ws_in (wi_X3 w q)) hown hR rfl 1 (by decide) (hE.nf (i := 4) rfl) (fun _ h9 => h9) (m_gr_spec hc9) dX7_digest_34 ?_
      refine lv_bipush (v := 6) hx hb dX7_digest_37 (by decide) ?_
      obtain ⟨x39, hc9, hrun⟩ := m_bind hrun
      refine mr_calll (mr_runS (As := [.long v1, .ref x34, .int 6]) (rest := []) hx hb hml hown hts (c_X1_mixedAll l D ids st z hc9) yk_X1_mixedAll ys_X1_mixedAll wm_1_134 ⟨(Nat.le_of_ble_eq_true rfl), (Nat.le_of_ble_eq_true rfl)⟩ (mr_recvS hR hE hz hS hA) hl.1 rfl (Nat.le_of_ble_eq_true rfl) dX7_digest_39 ⟨(Nat.le_of_ble_eq_true rfl), (Nat.le_of_ble_eq_true rfl)⟩) hR hz hS hA (fun H locs hR hz hS => ?_)
      refine lv_lstore_n (lv' := [(1, .long x39), (0, .ref v0), (3, .int v3)]) hx hb dX7_digest_42 rfl hl (by decide) rfl (fun ls hl => ?_)
      refine lv_iconst (v := 0) hx hb dX7_digest_43 (by decide) ?_
      refine lv_istore_n (lv' := [(3, .int 0), (1, .long x39), (0, .ref v0)]) hx hb dX7_digest_44 rfl hl (by decide) rfl (fun ls hl => ?_)
      exact k_X7_digest_L45 hx hb hr hml hown hts hlocks hin hE hA _ _ _ _ _ _ _ _ hrun hR hz hS (lv_sub hl [2, 1, 0] rfl)
    · have hrun := mt_f hrun hc
      refine lv_lload_n hx hb dX7_digest_12 rfl (lv_at hl 1 rfl) ?_
      refine lv_aload_n hx hb dX7_digest_13 rfl (lv_at hl 0 rfl) ?_
      refine lv_iload_n hx hb dX7_digest_14 rfl (lv_at hl 2 rfl) ?_
      obtain ⟨_, ho9, hrun⟩ := m_bind hrun
      obtain ⟨fs9, ho9⟩ := m_is_spec ho9
      obtain ⟨x15, hc9, hrun⟩ := m_bind hrun
      refine mr_calli (mr_runV (As := [.int v3]) (rest := [.long v1]) hx hb hml hown hts (c_X7_countNumber l D ids st z hc9) yk_X7_countNumber ys_X7_countNumber wm_1_119 ⟨(Nat.le_of_ble_eq_true rfl), (Nat.le_of_ble_eq_true rfl)⟩ (mr_recv (ci := 5) hR hE hz hS hA rfl ho9) hl.1 rfl (Nat.le_of_ble_eq_true rfl) dX7_digest_15 ⟨(Nat.le_of_ble_eq_true rfl), (Nat.le_of_ble_eq_true rfl)⟩) hR hz hS hA (fun H locs hR hz hS => ?_)
      refine lv_i2l (v := x15.toInt64) hx hb dX7_digest_18 rfl ?_
      obtain ⟨x19, hc9, hrun⟩ := m_bind hrun
      refine mr_calll (mr_runS (As := [.long v1, .long x15.toInt64]) (rest := []) hx hb hml hown hts (c_X7_mixed l D ids st z hc9) yk_X7_mixed ys_X7_mixed wm_1_130 ⟨(Nat.le_of_ble_eq_true rfl), (Nat.le_of_ble_eq_true rfl)⟩ (mr_recvS hR hE hz hS hA) hl.1 rfl (Nat.le_of_ble_eq_true rfl) dX7_digest_19 ⟨(Nat.le_of_ble_eq_true rfl), (Nat.le_of_ble_eq_true rfl)⟩) hR hz hS hA (fun H locs hR hz hS => ?_)
      refine lv_lstore_n (lv' := [(1, .long x19), (0, .ref v0), (3, .int v3)]) hx hb dX7_digest_22 rfl hl (by decide) rfl (fun ls hl => ?_)
      refine lv_iinc (v := v3 + 1) (lv' := [(3, .int (v3 + 1)), (1, .long x19), (0, .ref v0)]) hx hb dX7_digest_23 hl (k := 2) rfl rfl (by decide) rfl (fun ls hl => ?_)
      refine lv_goto (tgt := 6) hx hb dX7_digest_26 (by decide) ?_
      exact ih _ _ _ _ _ _ _ hrun hR hz hS (lv_sub hl [2, 1, 0] rfl)
set_option maxRecDepth 100000 in
set_option maxHeartbeats 4000000 in
theorem c_X7_digest (l : Launch) (D : va_G) (ids : m_I3) (st : m_T) (z : Nat) {h : mH} {v0 : Nat} {r : Int64} {hF : mH} (hrun : s_X7_digest st h v0 = some (r, hF)) : Met l yX7_digest (m_ws yX7_digest cX7_digest 5 (some .long)) rm_X7_digest (mPc D ids st [.ref v0] h z) (mQl D ids (m_A h z) r hF z) rm_X7_digest.cells rm_X7_digest.slots (m_A h z) := by
  refine mr_of (cc := cX7_digest) (maxL := 5) (ret := some .long) (by decide) rfl (Nat.le_of_ble_eq_true rfl) ?_
  intro p e s m below meth c ls hx hb hr hml hown hts hlocks hin hR hE hz hl
  have hA : ∀ q, s.heap.size ≤ q → m_A h z q := fun q hq => Or.inr (by rw [← hz]; exact hq)
  have hS : va_S (m_A h z) s.heap s.heap [] := va_S.rf
  have hl : lv_has ls 5 [(0, .ref v0)] := hl
  unfold s_X7_digest at hrun
  refine lv_ldc2 (v := 3023) hx hb hown (hts _ (m_ws_in wm_1_118)) dX7_digest_0 ?_
  refine lv_lstore_n (lv' := [(1, .long 3023), (0, .ref v0)]) hx hb dX7_digest_3 rfl hl (by decide) rfl (fun ls hl => ?_)
  refine lv_iconst (v := 0) hx hb dX7_digest_4 (by decide) ?_
  refine lv_istore_n (lv' := [(3, .int 0), (1, .long 3023), (0, .ref v0)]) hx hb dX7_digest_5 rfl hl (by decide) rfl (fun ls hl => ?_)
  exact k_X7_digest_L6 hx hb hr hml hown hts hlocks hin hE hA _ _ _ _ _ _ _ _ hrun hR hz hS (lv_sub hl [2, 1, 0] rfl)
