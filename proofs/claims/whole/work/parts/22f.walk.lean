/-! the machine does it: laid by program -/
/-! Jxe99ae_isNaN_b9ae7 -/
abbrev rm_Jxe99ae_isNaN_b9ae7 : Room := { frames := 0, cells := 0, slots := 0, locals := 0 }
theorem yk_Jxe99ae_isNaN_b9ae7 : m_K yJxe99ae_isNaN_b9ae7 cJxe99ae_isNaN_b9ae7 2 (some .boolean) 1 := ⟨wm_4_85, wm_0_17, by decide +kernel⟩
theorem ys_Jxe99ae_isNaN_b9ae7 : Cond.static yJxe99ae_isNaN_b9ae7 ∈ wT := wm_4_84
set_option maxRecDepth 100000 in
set_option maxHeartbeats 4000000 in
theorem k_Jxe99ae_isNaN_b9ae7_b11 {p : Program} {l : Launch} {e : Env} {s : State} {m : MethodId} {args : Array Value} {below : List Frame} {meth : Method} {c : Code} {D : va_G} {ids : m_I3} {st : m_T} {A : Nat → Prop} {z : Nat} {r : Int32} (hx : p.tables.exec = Jvm.exec) (hb : c.code = cJxe99ae_isNaN_b9ae7) (hr : meth.sig.returnType = some .boolean) (hml : c.maxLocals = 2) (hown : s.vm.findClass RJxe99ae = some m.cls) (hts : ∀ w ∈ (m_ws yJxe99ae_isNaN_b9ae7 cJxe99ae_isNaN_b9ae7 2 (some .boolean)), w.before args s = true) (hlocks : meth.locks = false) (hin : meth.name = yJxe99ae_isNaN_b9ae7.name) (hE : m_EV st A s s.heap) (hA : ∀ q, s.heap.size ≤ q → A q) {h : mH} (t0 : Int32) (H : Heap) (locs : List Loc) (ls : Array Slot) (hrun : s_Jxe99ae_isNaN_b9ae7_b11 h t0 = some r) (hR : Rl D ids A h s H) (hz : H.size = z) (hS : va_S A s.heap H locs) (hl : lv_has ls 2 []) : W p l e rm_Jxe99ae_isNaN_b9ae7 s m args below meth c H locs 0 0 (MQ below (mQi D ids A r h z) args s 0 0 A) (F0 m 11 ls [.int t0]) := by
  unfold s_Jxe99ae_isNaN_b9ae7_b11 at hrun
  obtain ⟨w9, hzr, hrun⟩ := m_bind hrun
  obtain rfl := Option.some.inj hrun
  exact mr_zret hzr hx hb hr hlocks hR hz hS dJxe99ae_isNaN_b9ae7_11
set_option maxRecDepth 100000 in
set_option maxHeartbeats 4000000 in
theorem c_Jxe99ae_isNaN_b9ae7 (l : Launch) (D : va_G) (ids : m_I3) (st : m_T) (z : Nat) {h : mH} {v0 : UInt64} {r : Int32} (hrun : s_Jxe99ae_isNaN_b9ae7 h v0 = some r) : Met l yJxe99ae_isNaN_b9ae7 (m_ws yJxe99ae_isNaN_b9ae7 cJxe99ae_isNaN_b9ae7 2 (some .boolean)) rm_Jxe99ae_isNaN_b9ae7 (mPc D ids st [.double v0] h z) (mQi D ids (m_A h z) r h z) rm_Jxe99ae_isNaN_b9ae7.cells rm_Jxe99ae_isNaN_b9ae7.slots (m_A h z) := by
  refine mr_of (cc := cJxe99ae_isNaN_b9ae7) (maxL := 2) (ret := some .boolean) (by decide) rfl (Nat.le_of_ble_eq_true rfl) ?_
  intro p e s m below meth c ls hx hb hr hml hown hts hlocks hin hR hE hz hl
  have hA : ∀ q, s.heap.size ≤ q → m_A h z q := fun q hq => Or.inr (by rw [← hz]; exact hq)
  have hS : va_S (m_A h z) s.heap s.heap [] := va_S.rf
  have hl : lv_has ls 2 [(0, .double v0)] := hl
  unfold s_Jxe99ae_isNaN_b9ae7 at hrun
  refine lv_dload_n hx hb dJxe99ae_isNaN_b9ae7_0 rfl (lv_at hl 0 rfl) ?_
  refine lv_dload_n hx hb dJxe99ae_isNaN_b9ae7_1 rfl (lv_at hl 0 rfl) ?_
  refine lv_dcmp hx hb dJxe99ae_isNaN_b9ae7_2 ?_
  refine lv_if_eq (tgt := 10) hx hb dJxe99ae_isNaN_b9ae7_3 (by decide) (fun hc => ?_) (fun hc => ?_)
  · have hrun := mt_t hrun hc
    refine lv_iconst (v := 0) hx hb dJxe99ae_isNaN_b9ae7_10 (by decide) ?_
    exact k_Jxe99ae_isNaN_b9ae7_b11 hx hb hr hml hown hts hlocks hin hE hA _ _ _ _ hrun hR hz hS (lv_sub hl [] rfl)
  · have hrun := mt_f hrun hc
    refine lv_iconst (v := 1) hx hb dJxe99ae_isNaN_b9ae7_6 (by decide) ?_
    refine lv_goto (tgt := 11) hx hb dJxe99ae_isNaN_b9ae7_7 (by decide) ?_
    exact k_Jxe99ae_isNaN_b9ae7_b11 hx hb hr hml hown hts hlocks hin hE hA _ _ _ _ hrun hR hz hS (lv_sub hl [] rfl)
/-! Jxe99ae_doubleToLongBits_ccdee -/
abbrev rm_Jxe99ae_doubleToLongBits_ccdee : Room := { frames := 1, cells := 0, slots := 0, locals := 23 }
theorem yk_Jxe99ae_doubleToLongBits_ccdee : m_K yJxe99ae_doubleToLongBits_ccdee cJxe99ae_doubleToLongBits_ccdee 2 (some .long) 1 := ⟨wm_4_82, wm_0_17, by decide +kernel⟩
theorem ys_Jxe99ae_doubleToLongBits_ccdee : Cond.static yJxe99ae_doubleToLongBits_ccdee ∈ wT := wm_4_81
set_option maxRecDepth 100000 in
set_option maxHeartbeats 4000000 in
theorem c_Jxe99ae_doubleToLongBits_ccdee (l : Launch) (D : va_G) (ids : m_I3) (st : m_T) (z : Nat) {h : mH} {v0 : UInt64} {r : Int64} (hrun : s_Jxe99ae_doubleToLongBits_ccdee h v0 = some r) : Met l yJxe99ae_doubleToLongBits_ccdee (m_ws yJxe99ae_doubleToLongBits_ccdee cJxe99ae_doubleToLongBits_ccdee 2 (some .long)) rm_Jxe99ae_doubleToLongBits_ccdee (mPc D ids st [.double v0] h z) (mQl D ids (m_A h z) r h z) rm_Jxe99ae_doubleToLongBits_ccdee.cells rm_Jxe99ae_doubleToLongBits_ccdee.slots (m_A h z) := by
  refine mr_of (cc := cJxe99ae_doubleToLongBits_ccdee) (maxL := 2) (ret := some .long) (by decide) rfl (Nat.le_of_ble_eq_true rfl) ?_
  intro p e s m below meth c ls hx hb hr hml hown hts hlocks hin hR hE hz hl
  have hA : ∀ q, s.heap.size ≤ q → m_A h z q := fun q hq => Or.inr (by rw [← hz]; exact hq)
  have hS : va_S (m_A h z) s.heap s.heap [] := va_S.rf
  have hl : lv_has ls 2 [(0, .double v0)] := hl
  unfold s_Jxe99ae_doubleToLongBits_ccdee at hrun
  refine lv_dload_n hx hb dJxe99ae_doubleToLongBits_ccdee_0 rfl (lv_at hl 0 rfl) ?_
  obtain ⟨x1, hc9, hrun⟩ := m_bind hrun
  refine mr_calli (mr_runS (As := [.double v0]) (rest := []) hx hb hml hown hts (c_Jxe99ae_isNaN_b9ae7 l D ids st z hc9) yk_Jxe99ae_isNaN_b9ae7 ys_Jxe99ae_isNaN_b9ae7 wm_4_83 ⟨(Nat.le_of_ble_eq_true rfl), (Nat.le_of_ble_eq_true rfl)⟩ (mr_recvS hR hE hz hS hA) hl.1 rfl (Nat.le_of_ble_eq_true rfl) dJxe99ae_doubleToLongBits_ccdee_1 ⟨(Nat.le_of_ble_eq_true rfl), (Nat.le_of_ble_eq_true rfl)⟩) hR hz hS hA (fun H locs hR hz hS => ?_)
  refine lv_if_ne (tgt := 12) hx hb dJxe99ae_doubleToLongBits_ccdee_4 (by decide) (fun hc => ?_) (fun hc => ?_)
  · have hrun := mt_f hrun hc
    refine lv_ldc2 (v := 9221120237041090560) hx hb hown (hts _ (m_ws_in wm_4_89)) dJxe99ae_doubleToLongBits_ccdee_12 ?_
    obtain rfl := Option.some.inj hrun
    exact mr_lret hx hb hr hlocks hR hz hS dJxe99ae_doubleToLongBits_ccdee_15
  · have hrun := mt_t hrun hc
    refine lv_dload_n hx hb dJxe99ae_doubleToLongBits_ccdee_7 rfl (lv_at hl 0 rfl) ?_
    refine vn_d2l hx hb (hml.trans hl.1.symm) hown (hts _ (m_ws_in wm_4_86)) (hts _ (m_ws_in wm_4_88)) (hts _ (m_ws_in wm_4_87)) (hts _ (m_ws_in wm_0_17)) (Nat.le_of_ble_eq_true rfl) (Nat.le_of_ble_eq_true rfl) dJxe99ae_doubleToLongBits_ccdee_8 ?_
    obtain rfl := Option.some.inj hrun
    exact mr_lret hx hb hr hlocks hR hz hS dJxe99ae_doubleToLongBits_ccdee_11
/-! X8_digest -/
abbrev rm_X8_digest : Room := { frames := 9, cells := 0, slots := 0, locals := 210 }
theorem yk_X8_digest : m_K yX8_digest cX8_digest 2 (some .long) 0 := ⟨wm_4_65, wm_0_10, by decide +kernel⟩
theorem ys_X8_digest : Cond.instanceMethod yX8_digest ∈ wT ∧ Cond.selects RX8 yX8_digest yX8_digest ∈ wT := ⟨wm_4_63, wm_4_64⟩
set_option maxRecDepth 100000 in
set_option maxHeartbeats 4000000 in
theorem k_X8_digest_L192 {p : Program} {l : Launch} {e : Env} {s : State} {m : MethodId} {args : Array Value} {below : List Frame} {meth : Method} {c : Code} {D : va_G} {ids : m_I3} {st : m_T} {A : Nat → Prop} {z : Nat} {r : Int64} {hF : mH} (hx : p.tables.exec = Jvm.exec) (hb : c.code = cX8_digest) (hr : meth.sig.returnType = some .long) (hml : c.maxLocals = 2) (hown : s.vm.findClass RX8 = some m.cls) (hts : ∀ w ∈ (m_ws yX8_digest cX8_digest 2 (some .long)), w.before args s = true) (hlocks : meth.locks = false) (hin : meth.name = yX8_digest.name) (hE : m_EV st A s s.heap) (hA : ∀ q, s.heap.size ≤ q → A q) : ∀ (n : Nat) (h : mH) (v0 : Nat) (v1 : Int32) (H : Heap) (locs : List Loc) (ls : Array Slot), s_X8_digest_L192 n h v0 v1 = some (r, hF) → Rl D ids A h s H → H.size = z → va_S A s.heap H locs → lv_has ls 2 [(0, .ref v0), (1, .int v1)] → W p l e rm_X8_digest s m args below meth c H locs 0 0 (MQ below (mQl D ids A r hF z) args s 0 0 A) (F0 m 192 ls []) := by
  intro n
  induction n with
  | zero => intro h v0 v1 H locs ls hrun; exact absurd hrun (by intro h9; cases h9)
  | succ n ih =>
    intro h v0 v1 H locs ls hrun hR hz hS hl
    rw [s_X8_digest_L192] at hrun
    refine lv_iload_n hx hb dX8_digest_192 rfl (lv_at hl 1 rfl) ?_
    refine lv_aload_n hx hb dX8_digest_193 rfl (lv_at hl 0 rfl) ?_
    obtain ⟨x194, hc9, hrun⟩ := m_bind hrun
    refine mr_get (C := RX8) (T := TX8) (N := 13) (ci := 6) hx hb hts (fun w q => m_ws_in (wi_X8 w q)) hown hR rfl 6 (by decide) (hts _ (m_ws_in wm_3_39)) (fun _ h9 => h9) (m_gi_spec hc9) dX8_digest_194 ?_
    refine lv_icmp_ge (tgt := 217) hx hb dX8_digest_197 (by decide) (fun hc => ?_) (fun hc => ?_)
    · have hrun := mt_t hrun hc
      refine lv_aload_n hx hb dX8_digest_217 rfl (lv_at hl 0 rfl) ?_
      obtain ⟨x218, hc9, hrun⟩ := m_bind hrun
      refine mr_get (C := RX8) (T := TX8) (N := 13) (ci := 6) hx hb hts (fun w q => m_ws_in (wi_X8 w q)) hown hR rfl 12 (by decide) (hts _ (m_ws_in wm_3_45)) (fun _ h9 => h9) (m_gl_spec hc9) dX8_digest_218 ?_
      obtain ⟨rfl, rfl⟩ := Prod.mk.inj (Option.some.inj hrun)
      exact mr_lret hx hb hr hlocks hR hz hS dX8_digest_221
    · have hrun := mt_f hrun hc
      refine lv_aload_n hx hb dX8_digest_200 rfl (lv_at hl 0 rfl) ?_
      refine lv_aload_n hx hb dX8_digest_201 rfl (lv_at hl 0 rfl) ?_
      obtain ⟨x202, hc9, hrun⟩ := m_bind hrun
      refine mr_get (C := RX8) (T := TX8) (N := 13) (ci := 6) hx hb hts (fun w q => m_ws_in (wi_X8 w q)) hown hR rfl 5 (by decide) (hts _ (m_ws_in wm_3_38)) (fun _ h9 => h9) (m_gr_spec hc9) dX8_digest_202 ?_
      refine lv_iload_n hx hb dX8_digest_205 rfl (lv_at hl 1 rfl) ?_
      obtain ⟨x206, hc9, hrun⟩ := m_bind hrun
      refine mr_iald hx hb hR hc9 dX8_digest_206 ?_
      refine lv_i2l (v := x206.toInt64) hx hb dX8_digest_207 rfl ?_
      obtain ⟨_, ho9, hrun⟩ := m_bind hrun
      obtain ⟨fs9, ho9⟩ := m_is_spec ho9
      obtain ⟨h208, hc9, hrun⟩ := m_bind hrun
      refine mr_callv (mr_runV (As := [.long x206.toInt64]) (rest := []) hx hb hml hown hts (c_X8_hashes l D ids st z hc9) yk_X8_hashes ys_X8_hashes wm_4_67 ⟨(Nat.le_of_ble_eq_true rfl), (Nat.le_of_ble_eq_true rfl)⟩ (mr_recv (ci := 6) hR hE hz hS hA rfl ho9) hl.1 rfl (Nat.le_of_ble_eq_true rfl) dX8_digest_208 ⟨(Nat.le_of_ble_eq_true rfl), (Nat.le_of_ble_eq_true rfl)⟩) hR hz hS hA (fun H locs hR hz hS => ?_)
      refine lv_iinc (v := v1 + 1) (lv' := [(1, .int (v1 + 1)), (0, .ref v0)]) hx hb dX8_digest_211 hl (k := 1) rfl rfl (by decide) rfl (fun ls hl => ?_)
      refine lv_goto (tgt := 192) hx hb dX8_digest_214 (by decide) ?_
      exact ih _ _ _ _ _ _ hrun hR hz hS (lv_sub hl [1, 0] rfl)
set_option maxRecDepth 100000 in
set_option maxHeartbeats 4000000 in
theorem k_X8_digest_L124 {p : Program} {l : Launch} {e : Env} {s : State} {m : MethodId} {args : Array Value} {below : List Frame} {meth : Method} {c : Code} {D : va_G} {ids : m_I3} {st : m_T} {A : Nat → Prop} {z : Nat} {r : Int64} {hF : mH} (hx : p.tables.exec = Jvm.exec) (hb : c.code = cX8_digest) (hr : meth.sig.returnType = some .long) (hml : c.maxLocals = 2) (hown : s.vm.findClass RX8 = some m.cls) (hts : ∀ w ∈ (m_ws yX8_digest cX8_digest 2 (some .long)), w.before args s = true) (hlocks : meth.locks = false) (hin : meth.name = yX8_digest.name) (hE : m_EV st A s s.heap) (hA : ∀ q, s.heap.size ≤ q → A q) : ∀ (n : Nat) (h : mH) (v0 : Nat) (v1 : Int32) (H : Heap) (locs : List Loc) (ls : Array Slot), s_X8_digest_L124 n h v0 v1 = some (r, hF) → Rl D ids A h s H → H.size = z → va_S A s.heap H locs → lv_has ls 2 [(0, .ref v0), (1, .int v1)] → W p l e rm_X8_digest s m args below meth c H locs 0 0 (MQ below (mQl D ids A r hF z) args s 0 0 A) (F0 m 124 ls []) := by
  intro n
  induction n with
  | zero => intro h v0 v1 H locs ls hrun; exact absurd hrun (by intro h9; cases h9)
  | succ n ih =>
    intro h v0 v1 H locs ls hrun hR hz hS hl
    rw [s_X8_digest_L124] at hrun
    refine lv_iload_n hx hb dX8_digest_124 rfl (lv_at hl 1 rfl) ?_
    refine lv_iconst (v := 4) hx hb dX8_digest_125 (by decide) ?_
    refine lv_icmp_ge (tgt := 152) hx hb dX8_digest_126 (by decide) (fun hc => ?_) (fun hc => ?_)
    · have hrun := mt_t hrun hc
      refine lv_aload_n hx hb dX8_digest_152 rfl (lv_at hl 0 rfl) ?_
      refine lv_aload_n hx hb dX8_digest_153 rfl (lv_at hl 0 rfl) ?_
      obtain ⟨_, ho9, hrun⟩ := m_bind hrun
      obtain ⟨fs9, ho9⟩ := m_is_spec ho9
      obtain ⟨⟨x154, h154⟩, hc9, hrun⟩ := m_bind hrun
      refine mr_calli (mr_runV (As := []) (rest := [.ref v0]) hx hb hml hown hts (c_X8_leakyOne l D ids st z hc9) yk_X8_leakyOne ys_X8_leakyOne wm_4_42 ⟨(Nat.le_of_ble_eq_true rfl), (Nat.le_of_ble_eq_true rfl)⟩ (mr_recv (ci := 6) hR hE hz hS hA rfl ho9) hl.1 rfl (Nat.le_of_ble_eq_true rfl) dX8_digest_154 ⟨(Nat.le_of_ble_eq_true rfl), (Nat.le_of_ble_eq_true rfl)⟩) hR hz hS hA (fun H locs hR hz hS => ?_)
      refine lv_i2l (v := x154.toInt64) hx hb dX8_digest_157 rfl ?_
      obtain ⟨_, ho9, hrun⟩ := m_bind hrun
      obtain ⟨fs9, ho9⟩ := m_is_spec ho9
      obtain ⟨h158, hc9, hrun⟩ := m_bind hrun
      refine mr_callv (mr_runV (As := [.long x154.toInt64]) (rest := []) hx hb hml hown hts (c_X8_hashes l D ids st z hc9) yk_X8_hashes ys_X8_hashes wm_4_67 ⟨(Nat.le_of_ble_eq_true rfl), (Nat.le_of_ble_eq_true rfl)⟩ (mr_recv (ci := 6) hR hE hz hS hA rfl ho9) hl.1 rfl (Nat.le_of_ble_eq_true rfl) dX8_digest_158 ⟨(Nat.le_of_ble_eq_true rfl), (Nat.le_of_ble_eq_true rfl)⟩) hR hz hS hA (fun H locs hR hz hS => ?_)
      refine lv_aload_n hx hb dX8_digest_161 rfl (lv_at hl 0 rfl) ?_
      refine lv_aload_n hx hb dX8_digest_162 rfl (lv_at hl 0 rfl) ?_
      obtain ⟨_, ho9, hrun⟩ := m_bind hrun
      obtain ⟨fs9, ho9⟩ := m_is_spec ho9
      obtain ⟨⟨x163, h163⟩, hc9, hrun⟩ := m_bind hrun
      refine mr_calli (mr_runV (As := []) (rest := [.ref v0]) hx hb hml hown hts (c_X8_least l D ids st z hc9) yk_X8_least ys_X8_least wm_4_50 ⟨(Nat.le_of_ble_eq_true rfl), (Nat.le_of_ble_eq_true rfl)⟩ (mr_recv (ci := 6) hR hE hz hS hA rfl ho9) hl.1 rfl (Nat.le_of_ble_eq_true rfl) dX8_digest_163 ⟨(Nat.le_of_ble_eq_true rfl), (Nat.le_of_ble_eq_true rfl)⟩) hR hz hS hA (fun H locs hR hz hS => ?_)
      refine lv_i2l (v := x163.toInt64) hx hb dX8_digest_166 rfl ?_
      obtain ⟨_, ho9, hrun⟩ := m_bind hrun
      obtain ⟨fs9, ho9⟩ := m_is_spec ho9
      obtain ⟨h167, hc9, hrun⟩ := m_bind hrun
      refine mr_callv (mr_runV (As := [.long x163.toInt64]) (rest := []) hx hb hml hown hts (c_X8_hashes l D ids st z hc9) yk_X8_hashes ys_X8_hashes wm_4_67 ⟨(Nat.le_of_ble_eq_true rfl), (Nat.le_of_ble_eq_true rfl)⟩ (mr_recv (ci := 6) hR hE hz hS hA rfl ho9) hl.1 rfl (Nat.le_of_ble_eq_true rfl) dX8_digest_167 ⟨(Nat.le_of_ble_eq_true rfl), (Nat.le_of_ble_eq_true rfl)⟩) hR hz hS hA (fun H locs hR hz hS => ?_)
      refine lv_aload_n hx hb dX8_digest_170 rfl (lv_at hl 0 rfl) ?_
      refine lv_aload_n hx hb dX8_digest_171 rfl (lv_at hl 0 rfl) ?_
      obtain ⟨_, ho9, hrun⟩ := m_bind hrun
      obtain ⟨fs9, ho9⟩ := m_is_spec ho9
      obtain ⟨⟨x172, h172⟩, hc9, hrun⟩ := m_bind hrun
      refine mr_calld (mr_runV (As := []) (rest := [.ref v0]) hx hb hml hown hts (c_X8_share l D ids st z hc9) yk_X8_share ys_X8_share wm_4_58 ⟨(Nat.le_of_ble_eq_true rfl), (Nat.le_of_ble_eq_true rfl)⟩ (mr_recv (ci := 6) hR hE hz hS hA rfl ho9) hl.1 rfl (Nat.le_of_ble_eq_true rfl) dX8_digest_172 ⟨(Nat.le_of_ble_eq_true rfl), (Nat.le_of_ble_eq_true rfl)⟩) hR hz hS hA (fun H locs hR hz hS => ?_)
      obtain ⟨x175, hc9, hrun⟩ := m_bind hrun
      refine mr_calll (mr_runS (As := [.double x172]) (rest := [.ref v0]) hx hb hml hown hts (c_Jxe99ae_doubleToLongBits_ccdee l D ids st z hc9) yk_Jxe99ae_doubleToLongBits_ccdee ys_Jxe99ae_doubleToLongBits_ccdee wm_4_80 ⟨(Nat.le_of_ble_eq_true rfl), (Nat.le_of_ble_eq_true rfl)⟩ (mr_recvS hR hE hz hS hA) hl.1 rfl (Nat.le_of_ble_eq_true rfl) dX8_digest_175 ⟨(Nat.le_of_ble_eq_true rfl), (Nat.le_of_ble_eq_true rfl)⟩) hR hz hS hA (fun H locs hR hz hS => ?_)
      obtain ⟨_, ho9, hrun⟩ := m_bind hrun
      obtain ⟨fs9, ho9⟩ := m_is_spec ho9
      obtain ⟨h178, hc9, hrun⟩ := m_bind hrun
      refine mr_callv (mr_runV (As := [.long x175]) (rest := []) hx hb hml hown hts (c_X8_hashes l D ids st z hc9) yk_X8_hashes ys_X8_hashes wm_4_67 ⟨(Nat.le_of_ble_eq_true rfl), (Nat.le_of_ble_eq_true rfl)⟩ (mr_recv (ci := 6) hR hE hz hS hA rfl ho9) hl.1 rfl (Nat.le_of_ble_eq_true rfl) dX8_digest_178 ⟨(Nat.le_of_ble_eq_true rfl), (Nat.le_of_ble_eq_true rfl)⟩) hR hz hS hA (fun H locs hR hz hS => ?_)
      refine lv_aload_n hx hb dX8_digest_181 rfl (lv_at hl 0 rfl) ?_
      refine lv_aload_n hx hb dX8_digest_182 rfl (lv_at hl 0 rfl) ?_
      obtain ⟨x183, hc9, hrun⟩ := m_bind hrun
      refine mr_get (C := RX8) (T := TX8) (N := 13) (ci := 6) hx hb hts (fun w q => m_ws_in (wi_X8 w q)) hown hR rfl 6 (by decide) (hts _ (m_ws_in wm_3_39)) (fun _ h9 => h9) (m_gi_spec hc9) dX8_digest_183 ?_
      refine lv_i2l (v := x183.toInt64) hx hb dX8_digest_186 rfl ?_
      obtain ⟨_, ho9, hrun⟩ := m_bind hrun
      obtain ⟨fs9, ho9⟩ := m_is_spec ho9
      obtain ⟨h187, hc9, hrun⟩ := m_bind hrun
      refine mr_callv (mr_runV (As := [.long x183.toInt64]) (rest := []) hx hb hml hown hts (c_X8_hashes l D ids st z hc9) yk_X8_hashes ys_X8_hashes wm_4_67 ⟨(Nat.le_of_ble_eq_true rfl), (Nat.le_of_ble_eq_true rfl)⟩ (mr_recv (ci := 6) hR hE hz hS hA rfl ho9) hl.1 rfl (Nat.le_of_ble_eq_true rfl) dX8_digest_187 ⟨(Nat.le_of_ble_eq_true rfl), (Nat.le_of_ble_eq_true rfl)⟩) hR hz hS hA (fun H locs hR hz hS => ?_)
      refine lv_iconst (v := 0) hx hb dX8_digest_190 (by decide) ?_
      refine lv_istore_n (lv' := [(1, .int 0), (0, .ref v0)]) hx hb dX8_digest_191 rfl hl (by decide) rfl (fun ls hl => ?_)
      exact k_X8_digest_L192 hx hb hr hml hown hts hlocks hin hE hA _ _ _ _ _ _ _ hrun hR hz hS (lv_sub hl [1, 0] rfl)
    · have hrun := mt_f hrun hc
      refine lv_aload_n hx hb dX8_digest_129 rfl (lv_at hl 0 rfl) ?_
      refine lv_aload_n hx hb dX8_digest_130 rfl (lv_at hl 0 rfl) ?_
      refine lv_iload_n hx hb dX8_digest_131 rfl (lv_at hl 1 rfl) ?_
      refine lv_bipush (v := 6) hx hb dX8_digest_132 (by decide) ?_
      refine lv_sipush (v := 500) hx hb dX8_digest_134 (by decide) ?_
      refine lv_iconst (v := 4) hx hb dX8_digest_137 (by decide) ?_
      refine lv_iconst (v := 1) hx hb dX8_digest_138 (by decide) ?_
      obtain ⟨_, ho9, hrun⟩ := m_bind hrun
      obtain ⟨fs9, ho9⟩ := m_is_spec ho9
      obtain ⟨⟨x139, h139⟩, hc9, hrun⟩ := m_bind hrun
      refine mr_calli (mr_runV (As := [.int v1, .int 6, .int 500, .int 4, .int 1]) (rest := [.ref v0]) hx hb hml hown hts (c_X8_would l D ids st z hc9) yk_X8_would ys_X8_would wm_4_30 ⟨(Nat.le_of_ble_eq_true rfl), (Nat.le_of_ble_eq_true rfl)⟩ (mr_recv (ci := 6) hR hE hz hS hA rfl ho9) hl.1 rfl (Nat.le_of_ble_eq_true rfl) dX8_digest_139 ⟨(Nat.le_of_ble_eq_true rfl), (Nat.le_of_ble_eq_true rfl)⟩) hR hz hS hA (fun H locs hR hz hS => ?_)
      refine lv_i2l (v := x139.toInt64) hx hb dX8_digest_142 rfl ?_
      obtain ⟨_, ho9, hrun⟩ := m_bind hrun
      obtain ⟨fs9, ho9⟩ := m_is_spec ho9
      obtain ⟨h143, hc9, hrun⟩ := m_bind hrun
      refine mr_callv (mr_runV (As := [.long x139.toInt64]) (rest := []) hx hb hml hown hts (c_X8_hashes l D ids st z hc9) yk_X8_hashes ys_X8_hashes wm_4_67 ⟨(Nat.le_of_ble_eq_true rfl), (Nat.le_of_ble_eq_true rfl)⟩ (mr_recv (ci := 6) hR hE hz hS hA rfl ho9) hl.1 rfl (Nat.le_of_ble_eq_true rfl) dX8_digest_143 ⟨(Nat.le_of_ble_eq_true rfl), (Nat.le_of_ble_eq_true rfl)⟩) hR hz hS hA (fun H locs hR hz hS => ?_)
      refine lv_iinc (v := v1 + 1) (lv' := [(1, .int (v1 + 1)), (0, .ref v0)]) hx hb dX8_digest_146 hl (k := 1) rfl rfl (by decide) rfl (fun ls hl => ?_)
      refine lv_goto (tgt := 124) hx hb dX8_digest_149 (by decide) ?_
      exact ih _ _ _ _ _ _ hrun hR hz hS (lv_sub hl [1, 0] rfl)
set_option maxRecDepth 100000 in
set_option maxHeartbeats 4000000 in
theorem k_X8_digest_L106 {p : Program} {l : Launch} {e : Env} {s : State} {m : MethodId} {args : Array Value} {below : List Frame} {meth : Method} {c : Code} {D : va_G} {ids : m_I3} {st : m_T} {A : Nat → Prop} {z : Nat} {r : Int64} {hF : mH} (hx : p.tables.exec = Jvm.exec) (hb : c.code = cX8_digest) (hr : meth.sig.returnType = some .long) (hml : c.maxLocals = 2) (hown : s.vm.findClass RX8 = some m.cls) (hts : ∀ w ∈ (m_ws yX8_digest cX8_digest 2 (some .long)), w.before args s = true) (hlocks : meth.locks = false) (hin : meth.name = yX8_digest.name) (hE : m_EV st A s s.heap) (hA : ∀ q, s.heap.size ≤ q → A q) : ∀ (n : Nat) (h : mH) (v0 : Nat) (v1 : Int32) (H : Heap) (locs : List Loc) (ls : Array Slot), s_X8_digest_L106 n h v0 v1 = some (r, hF) → Rl D ids A h s H → H.size = z → va_S A s.heap H locs → lv_has ls 2 [(0, .ref v0), (1, .int v1)] → W p l e rm_X8_digest s m args below meth c H locs 0 0 (MQ below (mQl D ids A r hF z) args s 0 0 A) (F0 m 106 ls []) := by
  intro n
  induction n with
  | zero => intro h v0 v1 H locs ls hrun; exact absurd hrun (by intro h9; cases h9)
  | succ n ih =>
    intro h v0 v1 H locs ls hrun hR hz hS hl
    rw [s_X8_digest_L106] at hrun
    refine lv_iload_n hx hb dX8_digest_106 rfl (lv_at hl 1 rfl) ?_
    refine lv_iconst (v := 4) hx hb dX8_digest_107 (by decide) ?_
    refine lv_icmp_ge (tgt := 122) hx hb dX8_digest_108 (by decide) (fun hc => ?_) (fun hc => ?_)
    · have hrun := mt_t hrun hc
      refine lv_iconst (v := 0) hx hb dX8_digest_122 (by decide) ?_
      refine lv_istore_n (lv' := [(1, .int 0), (0, .ref v0)]) hx hb dX8_digest_123 rfl hl (by decide) rfl (fun ls hl => ?_)
      exact k_X8_digest_L124 hx hb hr hml hown hts hlocks hin hE hA _ _ _ _ _ _ _ hrun hR hz hS (lv_sub hl [1, 0] rfl)
    · have hrun := mt_f hrun hc
      refine lv_aload_n hx hb dX8_digest_111 rfl (lv_at hl 0 rfl) ?_
      refine lv_iload_n hx hb dX8_digest_112 rfl (lv_at hl 1 rfl) ?_
      obtain ⟨_, ho9, hrun⟩ := m_bind hrun
      obtain ⟨fs9, ho9⟩ := m_is_spec ho9
      obtain ⟨h113, hc9, hrun⟩ := m_bind hrun
      refine mr_callv (mr_runV (As := [.int v1]) (rest := []) hx hb hml hown hts (c_X8_hashesWallet l D ids st z hc9) yk_X8_hashesWallet ys_X8_hashesWallet wm_4_72 ⟨(Nat.le_of_ble_eq_true rfl), (Nat.le_of_ble_eq_true rfl)⟩ (mr_recv (ci := 6) hR hE hz hS hA rfl ho9) hl.1 rfl (Nat.le_of_ble_eq_true rfl) dX8_digest_113 ⟨(Nat.le_of_ble_eq_true rfl), (Nat.le_of_ble_eq_true rfl)⟩) hR hz hS hA (fun H locs hR hz hS => ?_)
      refine lv_iinc (v := v1 + 1) (lv' := [(1, .int (v1 + 1)), (0, .ref v0)]) hx hb dX8_digest_116 hl (k := 1) rfl rfl (by decide) rfl (fun ls hl => ?_)
      refine lv_goto (tgt := 106) hx hb dX8_digest_119 (by decide) ?_
      exact ih _ _ _ _ _ _ hrun hR hz hS (lv_sub hl [1, 0] rfl)
set_option maxRecDepth 100000 in
set_option maxHeartbeats 4000000 in
theorem k_X8_digest_L67 {p : Program} {l : Launch} {e : Env} {s : State} {m : MethodId} {args : Array Value} {below : List Frame} {meth : Method} {c : Code} {D : va_G} {ids : m_I3} {st : m_T} {A : Nat → Prop} {z : Nat} {r : Int64} {hF : mH} (hx : p.tables.exec = Jvm.exec) (hb : c.code = cX8_digest) (hr : meth.sig.returnType = some .long) (hml : c.maxLocals = 2) (hown : s.vm.findClass RX8 = some m.cls) (hts : ∀ w ∈ (m_ws yX8_digest cX8_digest 2 (some .long)), w.before args s = true) (hlocks : meth.locks = false) (hin : meth.name = yX8_digest.name) (hE : m_EV st A s s.heap) (hA : ∀ q, s.heap.size ≤ q → A q) : ∀ (n : Nat) (h : mH) (v0 : Nat) (v1 : Int32) (H : Heap) (locs : List Loc) (ls : Array Slot), s_X8_digest_L67 n h v0 v1 = some (r, hF) → Rl D ids A h s H → H.size = z → va_S A s.heap H locs → lv_has ls 2 [(0, .ref v0), (1, .int v1)] → W p l e rm_X8_digest s m args below meth c H locs 0 0 (MQ below (mQl D ids A r hF z) args s 0 0 A) (F0 m 67 ls []) := by
  intro n
  induction n with
  | zero => intro h v0 v1 H locs ls hrun; exact absurd hrun (by intro h9; cases h9)
  | succ n ih =>
    intro h v0 v1 H locs ls hrun hR hz hS hl
    rw [s_X8_digest_L67] at hrun
    refine lv_iload_n hx hb dX8_digest_67 rfl (lv_at hl 1 rfl) ?_
    refine lv_bipush (v := 8) hx hb dX8_digest_68 (by decide) ?_
    refine lv_aload_n hx hb dX8_digest_70 rfl (lv_at hl 0 rfl) ?_
    obtain ⟨x71, hc9, hrun⟩ := m_bind hrun
    refine mr_get (C := RX8) (T := TX8) (N := 13) (ci := 6) hx hb hts (fun w q => m_ws_in (wi_X8 w q)) hown hR rfl 1 (by decide) (hts _ (m_ws_in wm_3_34)) (fun _ h9 => h9) (m_gr_spec hc9) dX8_digest_71 ?_
    refine lv_bipush (v := 9) hx hb dX8_digest_74 (by decide) ?_
    obtain ⟨x76, hc9, hrun⟩ := m_bind hrun
    refine mr_iald hx hb hR hc9 dX8_digest_76 ?_
    refine lv_imul hx hb dX8_digest_77 ?_
    refine lv_icmp_ge (tgt := 104) hx hb dX8_digest_78 (by decide) (fun hc => ?_) (fun hc => ?_)
    · have hrun := mt_t hrun hc
      refine lv_iconst (v := 0) hx hb dX8_digest_104 (by decide) ?_
      refine lv_istore_n (lv' := [(1, .int 0), (0, .ref v0)]) hx hb dX8_digest_105 rfl hl (by decide) rfl (fun ls hl => ?_)
      exact k_X8_digest_L106 hx hb hr hml hown hts hlocks hin hE hA _ _ _ _ _ _ _ hrun hR hz hS (lv_sub hl [1, 0] rfl)
    · have hrun := mt_f hrun hc
      refine lv_aload_n hx hb dX8_digest_81 rfl (lv_at hl 0 rfl) ?_
      refine lv_aload_n hx hb dX8_digest_82 rfl (lv_at hl 0 rfl) ?_
      refine lv_iload_n hx hb dX8_digest_83 rfl (lv_at hl 1 rfl) ?_
      refine lv_bipush (v := 8) hx hb dX8_digest_84 (by decide) ?_
      obtain ⟨x86, hc9, hrun⟩ := m_bind hrun
      obtain ⟨hn9, rfl⟩ := m_div_spec hc9
      refine lv_idiv hx hb dX8_digest_86 hn9 ?_
      refine lv_topi (fun x86 ex86 => ?_)
      try rw [← ex86] at hrun
      refine lv_iload_n hx hb dX8_digest_87 rfl (lv_at hl 1 rfl) ?_
      refine lv_bipush (v := 8) hx hb dX8_digest_88 (by decide) ?_
      obtain ⟨x90, hc9, hrun⟩ := m_bind hrun
      obtain ⟨hn9, rfl⟩ := m_rem_spec hc9
      refine lv_irem hx hb dX8_digest_90 hn9 ?_
      refine lv_topi (fun x90 ex90 => ?_)
      try rw [← ex90] at hrun
      obtain ⟨_, ho9, hrun⟩ := m_bind hrun
      obtain ⟨fs9, ho9⟩ := m_is_spec ho9
      obtain ⟨x91, hc9, hrun⟩ := m_bind hrun
      refine mr_calli (mr_runV (As := [.int x86, .int x90]) (rest := [.ref v0]) hx hb hml hown hts (c_X8_tellsTap l D ids st z hc9) yk_X8_tellsTap ys_X8_tellsTap wm_3_222 ⟨(Nat.le_of_ble_eq_true rfl), (Nat.le_of_ble_eq_true rfl)⟩ (mr_recv (ci := 6) hR hE hz hS hA rfl ho9) hl.1 rfl (Nat.le_of_ble_eq_true rfl) dX8_digest_91 ⟨(Nat.le_of_ble_eq_true rfl), (Nat.le_of_ble_eq_true rfl)⟩) hR hz hS hA (fun H locs hR hz hS => ?_)
      refine lv_i2l (v := x91.toInt64) hx hb dX8_digest_94 rfl ?_
      obtain ⟨_, ho9, hrun⟩ := m_bind hrun
      obtain ⟨fs9, ho9⟩ := m_is_spec ho9
      obtain ⟨h95, hc9, hrun⟩ := m_bind hrun
      refine mr_callv (mr_runV (As := [.long x91.toInt64]) (rest := []) hx hb hml hown hts (c_X8_hashes l D ids st z hc9) yk_X8_hashes ys_X8_hashes wm_4_67 ⟨(Nat.le_of_ble_eq_true rfl), (Nat.le_of_ble_eq_true rfl)⟩ (mr_recv (ci := 6) hR hE hz hS hA rfl ho9) hl.1 rfl (Nat.le_of_ble_eq_true rfl) dX8_digest_95 ⟨(Nat.le_of_ble_eq_true rfl), (Nat.le_of_ble_eq_true rfl)⟩) hR hz hS hA (fun H locs hR hz hS => ?_)
      refine lv_iinc (v := v1 + 1) (lv' := [(1, .int (v1 + 1)), (0, .ref v0)]) hx hb dX8_digest_98 hl (k := 1) rfl rfl (by decide) rfl (fun ls hl => ?_)
      refine lv_goto (tgt := 67) hx hb dX8_digest_101 (by decide) ?_
      exact ih _ _ _ _ _ _ hrun hR hz hS (lv_sub hl [1, 0] rfl)
set_option maxRecDepth 100000 in
set_option maxHeartbeats 4000000 in
theorem k_X8_digest_L38 {p : Program} {l : Launch} {e : Env} {s : State} {m : MethodId} {args : Array Value} {below : List Frame} {meth : Method} {c : Code} {D : va_G} {ids : m_I3} {st : m_T} {A : Nat → Prop} {z : Nat} {r : Int64} {hF : mH} (hx : p.tables.exec = Jvm.exec) (hb : c.code = cX8_digest) (hr : meth.sig.returnType = some .long) (hml : c.maxLocals = 2) (hown : s.vm.findClass RX8 = some m.cls) (hts : ∀ w ∈ (m_ws yX8_digest cX8_digest 2 (some .long)), w.before args s = true) (hlocks : meth.locks = false) (hin : meth.name = yX8_digest.name) (hE : m_EV st A s s.heap) (hA : ∀ q, s.heap.size ≤ q → A q) : ∀ (n : Nat) (h : mH) (v0 : Nat) (v1 : Int32) (H : Heap) (locs : List Loc) (ls : Array Slot), s_X8_digest_L38 n h v0 v1 = some (r, hF) → Rl D ids A h s H → H.size = z → va_S A s.heap H locs → lv_has ls 2 [(0, .ref v0), (1, .int v1)] → W p l e rm_X8_digest s m args below meth c H locs 0 0 (MQ below (mQl D ids A r hF z) args s 0 0 A) (F0 m 38 ls []) := by
  intro n
  induction n with
  | zero => intro h v0 v1 H locs ls hrun; exact absurd hrun (by intro h9; cases h9)
  | succ n ih =>
    intro h v0 v1 H locs ls hrun hR hz hS hl
    rw [s_X8_digest_L38] at hrun
    refine lv_iload_n hx hb dX8_digest_38 rfl (lv_at hl 1 rfl) ?_
    refine lv_bipush (v := 6) hx hb dX8_digest_39 (by decide) ?_
    refine lv_icmp_ge (tgt := 61) hx hb dX8_digest_41 (by decide) (fun hc => ?_) (fun hc => ?_)
    · have hrun := mt_t hrun hc
      refine lv_aload_n hx hb dX8_digest_61 rfl (lv_at hl 0 rfl) ?_
      obtain ⟨_, ho9, hrun⟩ := m_bind hrun
      obtain ⟨fs9, ho9⟩ := m_is_spec ho9
      obtain ⟨h62, hc9, hrun⟩ := m_bind hrun
      refine mr_callv (mr_runV (As := []) (rest := []) hx hb hml hown hts (c_X8_laysRides l D ids st z hc9) yk_X8_laysRides ys_X8_laysRides wm_3_130 ⟨(Nat.le_of_ble_eq_true rfl), (Nat.le_of_ble_eq_true rfl)⟩ (mr_recv (ci := 6) hR hE hz hS hA rfl ho9) hl.1 rfl (Nat.le_of_ble_eq_true rfl) dX8_digest_62 ⟨(Nat.le_of_ble_eq_true rfl), (Nat.le_of_ble_eq_true rfl)⟩) hR hz hS hA (fun H locs hR hz hS => ?_)
      refine lv_iconst (v := 0) hx hb dX8_digest_65 (by decide) ?_
      refine lv_istore_n (lv' := [(1, .int 0), (0, .ref v0)]) hx hb dX8_digest_66 rfl hl (by decide) rfl (fun ls hl => ?_)
      exact k_X8_digest_L67 hx hb hr hml hown hts hlocks hin hE hA _ _ _ _ _ _ _ hrun hR hz hS (lv_sub hl [1, 0] rfl)
    · have hrun := mt_f hrun hc
      refine lv_aload_n hx hb dX8_digest_44 rfl (lv_at hl 0 rfl) ?_
      refine lv_aload_n hx hb dX8_digest_45 rfl (lv_at hl 0 rfl) ?_
      obtain ⟨x46, hc9, hrun⟩ := m_bind hrun
      refine mr_get (C := RX8) (T := TX8) (N := 13) (ci := 6) hx hb hts (fun w q => m_ws_in (wi_X8 w q)) hown hR rfl 1 (by decide) (hts _ (m_ws_in wm_3_34)) (fun _ h9 => h9) (m_gr_spec hc9) dX8_digest_46 ?_
      refine lv_iload_n hx hb dX8_digest_49 rfl (lv_at hl 1 rfl) ?_
      obtain ⟨x50, hc9, hrun⟩ := m_bind hrun
      refine mr_iald hx hb hR hc9 dX8_digest_50 ?_
      refine lv_i2l (v := x50.toInt64) hx hb dX8_digest_51 rfl ?_
      obtain ⟨_, ho9, hrun⟩ := m_bind hrun
      obtain ⟨fs9, ho9⟩ := m_is_spec ho9
      obtain ⟨h52, hc9, hrun⟩ := m_bind hrun
      refine mr_callv (mr_runV (As := [.long x50.toInt64]) (rest := []) hx hb hml hown hts (c_X8_hashes l D ids st z hc9) yk_X8_hashes ys_X8_hashes wm_4_67 ⟨(Nat.le_of_ble_eq_true rfl), (Nat.le_of_ble_eq_true rfl)⟩ (mr_recv (ci := 6) hR hE hz hS hA rfl ho9) hl.1 rfl (Nat.le_of_ble_eq_true rfl) dX8_digest_52 ⟨(Nat.le_of_ble_eq_true rfl), (Nat.le_of_ble_eq_true rfl)⟩) hR hz hS hA (fun H locs hR hz hS => ?_)
      refine lv_iinc (v := v1 + 1) (lv' := [(1, .int (v1 + 1)), (0, .ref v0)]) hx hb dX8_digest_55 hl (k := 1) rfl rfl (by decide) rfl (fun ls hl => ?_)
      refine lv_goto (tgt := 38) hx hb dX8_digest_58 (by decide) ?_
      exact ih _ _ _ _ _ _ hrun hR hz hS (lv_sub hl [1, 0] rfl)
set_option maxRecDepth 100000 in
set_option maxHeartbeats 4000000 in
theorem k_X8_digest_L14 {p : Program} {l : Launch} {e : Env} {s : State} {m : MethodId} {args : Array Value} {below : List Frame} {meth : Method} {c : Code} {D : va_G} {ids : m_I3} {st : m_T} {A : Nat → Prop} {z : Nat} {r : Int64} {hF : mH} (hx : p.tables.exec = Jvm.exec) (hb : c.code = cX8_digest) (hr : meth.sig.returnType = some .long) (hml : c.maxLocals = 2) (hown : s.vm.findClass RX8 = some m.cls) (hts : ∀ w ∈ (m_ws yX8_digest cX8_digest 2 (some .long)), w.before args s = true) (hlocks : meth.locks = false) (hin : meth.name = yX8_digest.name) (hE : m_EV st A s s.heap) (hA : ∀ q, s.heap.size ≤ q → A q) : ∀ (n : Nat) (h : mH) (v0 : Nat) (v1 : Int32) (H : Heap) (locs : List Loc) (ls : Array Slot), s_X8_digest_L14 n h v0 v1 = some (r, hF) → Rl D ids A h s H → H.size = z → va_S A s.heap H locs → lv_has ls 2 [(0, .ref v0), (1, .int v1)] → W p l e rm_X8_digest s m args below meth c H locs 0 0 (MQ below (mQl D ids A r hF z) args s 0 0 A) (F0 m 14 ls []) := by
  intro n
  induction n with
  | zero => intro h v0 v1 H locs ls hrun; exact absurd hrun (by intro h9; cases h9)
  | succ n ih =>
    intro h v0 v1 H locs ls hrun hR hz hS hl
    rw [s_X8_digest_L14] at hrun
    refine lv_iload_n hx hb dX8_digest_14 rfl (lv_at hl 1 rfl) ?_
    refine lv_bipush (v := 10) hx hb dX8_digest_15 (by decide) ?_
    refine lv_icmp_ge (tgt := 36) hx hb dX8_digest_17 (by decide) (fun hc => ?_) (fun hc => ?_)
    · have hrun := mt_t hrun hc
      refine lv_iconst (v := 0) hx hb dX8_digest_36 (by decide) ?_
      refine lv_istore_n (lv' := [(1, .int 0), (0, .ref v0)]) hx hb dX8_digest_37 rfl hl (by decide) rfl (fun ls hl => ?_)
      exact k_X8_digest_L38 hx hb hr hml hown hts hlocks hin hE hA _ _ _ _ _ _ _ hrun hR hz hS (lv_sub hl [1, 0] rfl)
    · have hrun := mt_f hrun hc
      refine lv_aload_n hx hb dX8_digest_20 rfl (lv_at hl 0 rfl) ?_
      refine lv_aload_n hx hb dX8_digest_21 rfl (lv_at hl 0 rfl) ?_
      refine lv_iload_n hx hb dX8_digest_22 rfl (lv_at hl 1 rfl) ?_
      obtain ⟨_, ho9, hrun⟩ := m_bind hrun
      obtain ⟨fs9, ho9⟩ := m_is_spec ho9
      obtain ⟨⟨x23, h23⟩, hc9, hrun⟩ := m_bind hrun
      refine mr_calli (mr_runV (As := [.int v1]) (rest := [.ref v0]) hx hb hml hown hts (c_X8_counts l D ids st z hc9) yk_X8_counts ys_X8_counts wm_4_2 ⟨(Nat.le_of_ble_eq_true rfl), (Nat.le_of_ble_eq_true rfl)⟩ (mr_recv (ci := 6) hR hE hz hS hA rfl ho9) hl.1 rfl (Nat.le_of_ble_eq_true rfl) dX8_digest_23 ⟨(Nat.le_of_ble_eq_true rfl), (Nat.le_of_ble_eq_true rfl)⟩) hR hz hS hA (fun H locs hR hz hS => ?_)
      refine lv_i2l (v := x23.toInt64) hx hb dX8_digest_26 rfl ?_
      obtain ⟨_, ho9, hrun⟩ := m_bind hrun
      obtain ⟨fs9, ho9⟩ := m_is_spec ho9
      obtain ⟨h27, hc9, hrun⟩ := m_bind hrun
      refine mr_callv (mr_runV (As := [.long x23.toInt64]) (rest := []) hx hb hml hown hts (c_X8_hashes l D ids st z hc9) yk_X8_hashes ys_X8_hashes wm_4_67 ⟨(Nat.le_of_ble_eq_true rfl), (Nat.le_of_ble_eq_true rfl)⟩ (mr_recv (ci := 6) hR hE hz hS hA rfl ho9) hl.1 rfl (Nat.le_of_ble_eq_true rfl) dX8_digest_27 ⟨(Nat.le_of_ble_eq_true rfl), (Nat.le_of_ble_eq_true rfl)⟩) hR hz hS hA (fun H locs hR hz hS => ?_)
      refine lv_iinc (v := v1 + 1) (lv' := [(1, .int (v1 + 1)), (0, .ref v0)]) hx hb dX8_digest_30 hl (k := 1) rfl rfl (by decide) rfl (fun ls hl => ?_)
      refine lv_goto (tgt := 14) hx hb dX8_digest_33 (by decide) ?_
      exact ih _ _ _ _ _ _ hrun hR hz hS (lv_sub hl [1, 0] rfl)
set_option maxRecDepth 100000 in
set_option maxHeartbeats 4000000 in
theorem c_X8_digest (l : Launch) (D : va_G) (ids : m_I3) (st : m_T) (z : Nat) {h : mH} {v0 : Nat} {r : Int64} {hF : mH} (hrun : s_X8_digest h v0 = some (r, hF)) : Met l yX8_digest (m_ws yX8_digest cX8_digest 2 (some .long)) rm_X8_digest (mPc D ids st [.ref v0] h z) (mQl D ids (m_A h z) r hF z) rm_X8_digest.cells rm_X8_digest.slots (m_A h z) := by
  refine mr_of (cc := cX8_digest) (maxL := 2) (ret := some .long) (by decide) rfl (Nat.le_of_ble_eq_true rfl) ?_
  intro p e s m below meth c ls hx hb hr hml hown hts hlocks hin hR hE hz hl
  have hA : ∀ q, s.heap.size ≤ q → m_A h z q := fun q hq => Or.inr (by rw [← hz]; exact hq)
  have hS : va_S (m_A h z) s.heap s.heap [] := va_S.rf
  have hl : lv_has ls 2 [(0, .ref v0)] := hl
  unfold s_X8_digest at hrun
  refine lv_aload_n hx hb dX8_digest_0 rfl (lv_at hl 0 rfl) ?_
  refine lv_iconst (v := 0) hx hb dX8_digest_1 (by decide) ?_
  obtain ⟨h2, hc9, hrun⟩ := m_bind hrun
  refine mr_put (C := RX8) (T := TX8) (N := 13) (ci := 6) hx hb hts (fun w q => m_ws_in (wi_X8 w q)) tyX8 tyX8_ok nmX8 hown hR hz hS rfl 0 (by decide) (hts _ (m_ws_in wm_3_33)) (fun _ h9 => h9) rfl (tyX8_ok 0 (by decide)) rfl rfl hc9 dX8_digest_2 (fun H locs hR hz hS => ?_)
  refine lv_aload_n hx hb dX8_digest_5 rfl (lv_at hl 0 rfl) ?_
  refine lv_ldc2 (v := 3023) hx hb hown (hts _ (m_ws_in wm_4_66)) dX8_digest_6 ?_
  obtain ⟨h9, hc9, hrun⟩ := m_bind hrun
  refine mr_put (C := RX8) (T := TX8) (N := 13) (ci := 6) hx hb hts (fun w q => m_ws_in (wi_X8 w q)) tyX8 tyX8_ok nmX8 hown hR hz hS rfl 12 (by decide) (hts _ (m_ws_in wm_3_45)) (fun _ h9 => h9) rfl (tyX8_ok 12 (by decide)) rfl rfl hc9 dX8_digest_9 (fun H locs hR hz hS => ?_)
  refine lv_iconst (v := 0) hx hb dX8_digest_12 (by decide) ?_
  refine lv_istore_n (lv' := [(1, .int 0), (0, .ref v0)]) hx hb dX8_digest_13 rfl hl (by decide) rfl (fun ls hl => ?_)
  exact k_X8_digest_L14 hx hb hr hml hown hts hlocks hin hE hA _ _ _ _ _ _ _ hrun hR hz hS (lv_sub hl [1, 0] rfl)
/-! X5_init -/
abbrev rm_X5_init : Room := { frames := 1, cells := 1, slots := 61, locals := 20 }
theorem yk_X5_init : m_K yX5_init cX5_init 1 (none) 0 := ⟨wm_0_36, wm_0_3, by decide +kernel⟩
theorem ys_X5_init : Cond.instanceMethod yX5_init ∈ wT := wm_0_35
set_option maxRecDepth 100000 in
set_option maxHeartbeats 4000000 in
theorem c_X5_init (l : Launch) (D : va_G) (ids : m_I3) (st : m_T) (z : Nat) {h : mH} {v0 : Nat} {hF : mH} {zF : Nat} (hrun : s_X5_init h z v0 = some (hF, zF)) : Met l yX5_init (m_ws yX5_init cX5_init 1 (none)) rm_X5_init (mPc D ids st [.ref v0] h z) (mQv D ids (m_A h z) hF zF) rm_X5_init.cells rm_X5_init.slots (m_A h z) := by
  refine mr_of (cc := cX5_init) (maxL := 1) (ret := none) (by decide) rfl (Nat.le_of_ble_eq_true rfl) ?_
  intro p e s m below meth c ls hx hb hr hml hown hts hlocks hin hR hE hz hl
  have hA : ∀ q, s.heap.size ≤ q → m_A h z q := fun q hq => Or.inr (by rw [← hz]; exact hq)
  have hS : va_S (m_A h z) s.heap s.heap [] := va_S.rf
  have hl : lv_has ls 1 [(0, .ref v0)] := hl
  unfold s_X5_init at hrun
  refine lv_aload_n hx hb dX5_init_0 rfl (lv_at hl 0 rfl) ?_
  refine W.objInit hx hb hown (hts _ (m_ws_in wm_0_37)) (hts _ (m_ws_in wm_0_24)) (hts _ (m_ws_in wm_0_25)) rfl (by rw [hml]; exact hl.1) rfl dX5_init_1 (Nat.le_of_ble_eq_true rfl) (Nat.le_of_ble_eq_true rfl) ?_
  refine W.eq (g2 := F0 m 4 ls []) rfl ?_
  refine lv_aload_n hx hb dX5_init_4 rfl (lv_at hl 0 rfl) ?_
  refine lv_bipush (v := 61) hx hb dX5_init_5 (by decide) ?_
  obtain ⟨h7, hc9, hrun⟩ := m_bind hrun
  refine mr_newi (N := 61) hx hb (hts _ (m_ws_in wm_0_47)) hR hz hS hA (by decide) (by decide) (Nat.le_of_ble_eq_true rfl) (Nat.le_of_ble_eq_true rfl) (Nat.le_of_ble_eq_true rfl) dX5_init_7 (fun H hR hz hS => ?_)
  rw [Option.some.inj hc9] at hR
  obtain ⟨h9, hc9, hrun⟩ := m_bind hrun
  refine mr_putF (C := RX5) (T := TX5) (N := 2) (ci := 3) hx hb hts (fun w q => m_ws_in (wi_X5 w q)) tyX5 tyX5_ok nmX5 hown hR hz hS rfl 0 (by decide) (hts _ (m_ws_in wm_0_38)) (fun _ h9 => h9) rfl hin rfl (tyX5_ok 0 (by decide)) rfl rfl hc9 dX5_init_9 (fun H locs hR hz hS => ?_)
  refine lv_aload_n hx hb dX5_init_12 rfl (lv_at hl 0 rfl) ?_
  refine lv_iconst (v := 0) hx hb dX5_init_13 (by decide) ?_
  obtain ⟨h14, hc9, hrun⟩ := m_bind hrun
  refine mr_put (C := RX5) (T := TX5) (N := 2) (ci := 3) hx hb hts (fun w q => m_ws_in (wi_X5 w q)) tyX5 tyX5_ok nmX5 hown hR hz hS rfl 1 (by decide) (hts _ (m_ws_in wm_0_39)) (fun _ h9 => h9) rfl (tyX5_ok 1 (by decide)) rfl rfl hc9 dX5_init_14 (fun H locs hR hz hS => ?_)
  obtain ⟨rfl, rfl⟩ := Prod.mk.inj (Option.some.inj hrun)
  refine W.widen (k := 1) (n := 61) (Nat.le_of_ble_eq_true rfl) (Nat.le_of_ble_eq_true rfl) ?_
  exact mr_vret hx hb hr hlocks hR hz hS dX5_init_17
/-! X3_init -/
abbrev rm_X3_init : Room := { frames := 2, cells := 8, slots := 181, locals := 40 }
theorem yk_X3_init : m_K yX3_init cX3_init 1 (none) 0 := ⟨wm_0_30, wm_0_2, by decide +kernel⟩
theorem ys_X3_init : Cond.instanceMethod yX3_init ∈ wT := wm_0_29
set_option maxRecDepth 100000 in
set_option maxHeartbeats 4000000 in
theorem c_X3_init (l : Launch) (D : va_G) (ids : m_I3) (st : m_T) (z : Nat) {h : mH} {v0 : Nat} {hF : mH} {zF : Nat} (hrun : s_X3_init st h z v0 = some (hF, zF)) : Met l yX3_init (m_ws yX3_init cX3_init 1 (none)) rm_X3_init (mPc D ids st [.ref v0] h z) (mQv D ids (m_A h z) hF zF) rm_X3_init.cells rm_X3_init.slots (m_A h z) := by
  refine mr_of (cc := cX3_init) (maxL := 1) (ret := none) (by decide) rfl (Nat.le_of_ble_eq_true rfl) ?_
  intro p e s m below meth c ls hx hb hr hml hown hts hlocks hin hR hE hz hl
  have hA : ∀ q, s.heap.size ≤ q → m_A h z q := fun q hq => Or.inr (by rw [← hz]; exact hq)
  have hS : va_S (m_A h z) s.heap s.heap [] := va_S.rf
  have hl : lv_has ls 1 [(0, .ref v0)] := hl
  unfold s_X3_init at hrun
  refine lv_aload_n hx hb dX3_init_0 rfl (lv_at hl 0 rfl) ?_
  refine W.objInit hx hb hown (hts _ (m_ws_in wm_0_31)) (hts _ (m_ws_in wm_0_24)) (hts _ (m_ws_in wm_0_25)) rfl (by rw [hml]; exact hl.1) rfl dX3_init_1 (Nat.le_of_ble_eq_true rfl) (Nat.le_of_ble_eq_true rfl) ?_
  refine W.eq (g2 := F0 m 4 ls []) rfl ?_
  refine lv_aload_n hx hb dX3_init_4 rfl (lv_at hl 0 rfl) ?_
  obtain ⟨h5, hc9, hrun⟩ := m_bind hrun
  refine mr_new (C := RX5) (T := TX5) (N := 2) (ci := 3) (fs := [.null, .int 0]) hx hb hts (fun w q => m_ws_in (wi_X5 w q)) tyX5 tyX5_ok hown (hts _ (m_ws_in wm_0_32)) (hts _ (m_ws_in wm_0_33)) (hts _ (m_ws_in wm_0_3)) hR hz hS hA rfl (fun j hj => by rcases (show j = 0 ∨ j = 1 by omega) with rfl | rfl <;> rfl) (Nat.le_of_ble_eq_true rfl) (Nat.le_of_ble_eq_true rfl) dX3_init_5 (fun H hR hz hS => ?_)
  rw [Option.some.inj hc9] at hR
  refine lv_dup hx hb dX3_init_8 rfl ?_
  obtain ⟨⟨h9, z9⟩, hc9, hrun⟩ := m_bind hrun
  refine mr_callv (mr_runI (As := []) (rest := [.ref z, .ref v0]) hx hb hml hown hts (c_X5_init l D ids st (z + 1) hc9) yk_X5_init ys_X5_init rfl wm_0_34 ⟨(Nat.le_of_ble_eq_true rfl), (Nat.le_of_ble_eq_true rfl)⟩ (mr_recvS hR hE hz hS hA) hl.1 rfl (Nat.le_of_ble_eq_true rfl) dX3_init_9 ⟨(Nat.le_of_ble_eq_true rfl), (Nat.le_of_ble_eq_true rfl)⟩) hR hz hS hA (fun H locs hR hz hS => ?_)
  obtain ⟨h12, hc9, hrun⟩ := m_bind hrun
  refine mr_putF (C := RX3) (T := TX3) (N := 10) (ci := 2) hx hb hts (fun w q => m_ws_in (wi_X3 w q)) tyX3 tyX3_ok nmX3 hown hR hz hS rfl 0 (by decide) (hts _ (m_ws_in wm_0_56)) (fun _ h9 => h9) rfl hin rfl (tyX3_ok 0 (by decide)) rfl rfl hc9 dX3_init_12 (fun H locs hR hz hS => ?_)
  refine lv_aload_n hx hb dX3_init_15 rfl (lv_at hl 0 rfl) ?_
  refine lv_bipush (v := 6) hx hb dX3_init_16 (by decide) ?_
  obtain ⟨h18, hc9, hrun⟩ := m_bind hrun
  refine mr_newi (N := 6) hx hb (hts _ (m_ws_in wm_0_47)) hR hz hS hA (by decide) (by decide) (Nat.le_of_ble_eq_true rfl) (Nat.le_of_ble_eq_true rfl) (Nat.le_of_ble_eq_true rfl) dX3_init_18 (fun H hR hz hS => ?_)
  rw [Option.some.inj hc9] at hR
  obtain ⟨h20, hc9, hrun⟩ := m_bind hrun
  refine mr_putF (C := RX3) (T := TX3) (N := 10) (ci := 2) hx hb hts (fun w q => m_ws_in (wi_X3 w q)) tyX3 tyX3_ok nmX3 hown hR hz hS rfl 1 (by decide) (hts _ (m_ws_in wm_0_58)) (fun _ h9 => h9) rfl hin rfl (tyX3_ok 1 (by decide)) rfl rfl hc9 dX3_init_20 (fun H locs hR hz hS => ?_)
  refine lv_aload_n hx hb dX3_init_23 rfl (lv_at hl 0 rfl) ?_
  refine lv_bipush (v := 16) hx hb dX3_init_24 (by decide) ?_
  obtain ⟨h26, hc9, hrun⟩ := m_bind hrun
  refine mr_newi (N := 16) hx hb (hts _ (m_ws_in wm_0_47)) hR hz hS hA (by decide) (by decide) (Nat.le_of_ble_eq_true rfl) (Nat.le_of_ble_eq_true rfl) (Nat.le_of_ble_eq_true rfl) dX3_init_26 (fun H hR hz hS => ?_)
  rw [Option.some.inj hc9] at hR
  obtain ⟨h28, hc9, hrun⟩ := m_bind hrun
  refine mr_putF (C := RX3) (T := TX3) (N := 10) (ci := 2) hx hb hts (fun w q => m_ws_in (wi_X3 w q)) tyX3 tyX3_ok nmX3 hown hR hz hS rfl 2 (by decide) (hts _ (m_ws_in wm_0_60)) (fun _ h9 => h9) rfl hin rfl (tyX3_ok 2 (by decide)) rfl rfl hc9 dX3_init_28 (fun H locs hR hz hS => ?_)
  refine lv_aload_n hx hb dX3_init_31 rfl (lv_at hl 0 rfl) ?_
  refine lv_bipush (v := 16) hx hb dX3_init_32 (by decide) ?_
  obtain ⟨h34, hc9, hrun⟩ := m_bind hrun
  refine mr_newi (N := 16) hx hb (hts _ (m_ws_in wm_0_47)) hR hz hS hA (by decide) (by decide) (Nat.le_of_ble_eq_true rfl) (Nat.le_of_ble_eq_true rfl) (Nat.le_of_ble_eq_true rfl) dX3_init_34 (fun H hR hz hS => ?_)
  rw [Option.some.inj hc9] at hR
  obtain ⟨h36, hc9, hrun⟩ := m_bind hrun
  refine mr_putF (C := RX3) (T := TX3) (N := 10) (ci := 2) hx hb hts (fun w q => m_ws_in (wi_X3 w q)) tyX3 tyX3_ok nmX3 hown hR hz hS rfl 3 (by decide) (hts _ (m_ws_in wm_0_62)) (fun _ h9 => h9) rfl hin rfl (tyX3_ok 3 (by decide)) rfl rfl hc9 dX3_init_36 (fun H locs hR hz hS => ?_)
  refine lv_aload_n hx hb dX3_init_39 rfl (lv_at hl 0 rfl) ?_
  refine lv_bipush (v := 16) hx hb dX3_init_40 (by decide) ?_
  obtain ⟨h42, hc9, hrun⟩ := m_bind hrun
  refine mr_newi (N := 16) hx hb (hts _ (m_ws_in wm_0_47)) hR hz hS hA (by decide) (by decide) (Nat.le_of_ble_eq_true rfl) (Nat.le_of_ble_eq_true rfl) (Nat.le_of_ble_eq_true rfl) dX3_init_42 (fun H hR hz hS => ?_)
  rw [Option.some.inj hc9] at hR
  obtain ⟨h44, hc9, hrun⟩ := m_bind hrun
  refine mr_putF (C := RX3) (T := TX3) (N := 10) (ci := 2) hx hb hts (fun w q => m_ws_in (wi_X3 w q)) tyX3 tyX3_ok nmX3 hown hR hz hS rfl 4 (by decide) (hts _ (m_ws_in wm_0_64)) (fun _ h9 => h9) rfl hin rfl (tyX3_ok 4 (by decide)) rfl rfl hc9 dX3_init_44 (fun H locs hR hz hS => ?_)
  refine lv_aload_n hx hb dX3_init_47 rfl (lv_at hl 0 rfl) ?_
  refine lv_bipush (v := 32) hx hb dX3_init_48 (by decide) ?_
  obtain ⟨h50, hc9, hrun⟩ := m_bind hrun
  refine mr_newi (N := 32) hx hb (hts _ (m_ws_in wm_0_47)) hR hz hS hA (by decide) (by decide) (Nat.le_of_ble_eq_true rfl) (Nat.le_of_ble_eq_true rfl) (Nat.le_of_ble_eq_true rfl) dX3_init_50 (fun H hR hz hS => ?_)
  rw [Option.some.inj hc9] at hR
  obtain ⟨h52, hc9, hrun⟩ := m_bind hrun
  refine mr_putF (C := RX3) (T := TX3) (N := 10) (ci := 2) hx hb hts (fun w q => m_ws_in (wi_X3 w q)) tyX3 tyX3_ok nmX3 hown hR hz hS rfl 5 (by decide) (hts _ (m_ws_in wm_0_66)) (fun _ h9 => h9) rfl hin rfl (tyX3_ok 5 (by decide)) rfl rfl hc9 dX3_init_52 (fun H locs hR hz hS => ?_)
  refine lv_aload_n hx hb dX3_init_55 rfl (lv_at hl 0 rfl) ?_
  refine lv_bipush (v := 32) hx hb dX3_init_56 (by decide) ?_
  obtain ⟨h58, hc9, hrun⟩ := m_bind hrun
  refine mr_newi (N := 32) hx hb (hts _ (m_ws_in wm_0_47)) hR hz hS hA (by decide) (by decide) (Nat.le_of_ble_eq_true rfl) (Nat.le_of_ble_eq_true rfl) (Nat.le_of_ble_eq_true rfl) dX3_init_58 (fun H hR hz hS => ?_)
  rw [Option.some.inj hc9] at hR
  obtain ⟨h60, hc9, hrun⟩ := m_bind hrun
  refine mr_putF (C := RX3) (T := TX3) (N := 10) (ci := 2) hx hb hts (fun w q => m_ws_in (wi_X3 w q)) tyX3 tyX3_ok nmX3 hown hR hz hS rfl 6 (by decide) (hts _ (m_ws_in wm_0_67)) (fun _ h9 => h9) rfl hin rfl (tyX3_ok 6 (by decide)) rfl rfl hc9 dX3_init_60 (fun H locs hR hz hS => ?_)
  refine lv_aload_n hx hb dX3_init_63 rfl (lv_at hl 0 rfl) ?_
  refine lv_iconst (v := 0) hx hb dX3_init_64 (by decide) ?_
  obtain ⟨h65, hc9, hrun⟩ := m_bind hrun
  refine mr_put (C := RX3) (T := TX3) (N := 10) (ci := 2) hx hb hts (fun w q => m_ws_in (wi_X3 w q)) tyX3 tyX3_ok nmX3 hown hR hz hS rfl 7 (by decide) (hts _ (m_ws_in wm_0_68)) (fun _ h9 => h9) rfl (tyX3_ok 7 (by decide)) rfl rfl hc9 dX3_init_65 (fun H locs hR hz hS => ?_)
  refine lv_aload_n hx hb dX3_init_68 rfl (lv_at hl 0 rfl) ?_
  refine lv_iconst (v := 0) hx hb dX3_init_69 (by decide) ?_
  obtain ⟨h70, hc9, hrun⟩ := m_bind hrun
  refine mr_put (C := RX3) (T := TX3) (N := 10) (ci := 2) hx hb hts (fun w q => m_ws_in (wi_X3 w q)) tyX3 tyX3_ok nmX3 hown hR hz hS rfl 8 (by decide) (hts _ (m_ws_in wm_0_70)) (fun _ h9 => h9) rfl (tyX3_ok 8 (by decide)) rfl rfl hc9 dX3_init_70 (fun H locs hR hz hS => ?_)
  refine lv_aload_n hx hb dX3_init_73 rfl (lv_at hl 0 rfl) ?_
  refine lv_iconst (v := 0) hx hb dX3_init_74 (by decide) ?_
  obtain ⟨h75, hc9, hrun⟩ := m_bind hrun
  refine mr_put (C := RX3) (T := TX3) (N := 10) (ci := 2) hx hb hts (fun w q => m_ws_in (wi_X3 w q)) tyX3 tyX3_ok nmX3 hown hR hz hS rfl 9 (by decide) (hts _ (m_ws_in wm_0_72)) (fun _ h9 => h9) rfl (tyX3_ok 9 (by decide)) rfl rfl hc9 dX3_init_75 (fun H locs hR hz hS => ?_)
  refine mr_getsN (n := "FIRST_VALUES") (k := 0) hx hb hE (List.mem_of_getElem? (i := 0) rfl) hS hown (hE.nf (i := 2) rfl) dX3_init_78 ?_
  refine lv_aload_n hx hb dX3_init_81 rfl (lv_at hl 0 rfl) ?_
  obtain ⟨x82, hc9, hrun⟩ := m_bind hrun
  refine mr_get (C := RX3) (T := TX3) (N := 10) (ci := 2) hx hb hts (fun w q => m_ws_in (wi_X3 w q)) hown hR rfl 1 (by decide) (hts _ (m_ws_in wm_0_58)) (fun _ h9 => h9) (m_gr_spec hc9) dX3_init_82 ?_
  obtain ⟨h85, hc9, hrun⟩ := m_bind hrun
  refine mr_callv (mr_runS (As := [.ref (st.2 0), .ref x82]) (rest := []) hx hb hml hown hts (c_X1_copy l D ids st (z9 + 1 + 1 + 1 + 1 + 1 + 1) hc9) yk_X1_copy ys_X1_copy wm_0_50 ⟨(Nat.le_of_ble_eq_true rfl), (Nat.le_of_ble_eq_true rfl)⟩ (mr_recvS hR hE hz hS hA) hl.1 rfl (Nat.le_of_ble_eq_true rfl) dX3_init_85 ⟨(Nat.le_of_ble_eq_true rfl), (Nat.le_of_ble_eq_true rfl)⟩) hR hz hS hA (fun H locs hR hz hS => ?_)
  refine lv_aload_n hx hb dX3_init_88 rfl (lv_at hl 0 rfl) ?_
  obtain ⟨x89, hc9, hrun⟩ := m_bind hrun
  refine mr_get (C := RX3) (T := TX3) (N := 10) (ci := 2) hx hb hts (fun w q => m_ws_in (wi_X3 w q)) hown hR rfl 5 (by decide) (hts _ (m_ws_in wm_0_66)) (fun _ h9 => h9) (m_gr_spec hc9) dX3_init_89 ?_
  refine lv_iconst (v := (-1)) hx hb dX3_init_92 (by decide) ?_
  obtain ⟨h93, hc9, hrun⟩ := m_bind hrun
  refine mr_callv (mr_runS (As := [.ref x89, .int (-1)]) (rest := []) hx hb hml hown hts (c_X1_fill l D ids st (z9 + 1 + 1 + 1 + 1 + 1 + 1) hc9) yk_X1_fill ys_X1_fill wm_0_53 ⟨(Nat.le_of_ble_eq_true rfl), (Nat.le_of_ble_eq_true rfl)⟩ (mr_recvS hR hE hz hS hA) hl.1 rfl (Nat.le_of_ble_eq_true rfl) dX3_init_93 ⟨(Nat.le_of_ble_eq_true rfl), (Nat.le_of_ble_eq_true rfl)⟩) hR hz hS hA (fun H locs hR hz hS => ?_)
  refine lv_aload_n hx hb dX3_init_96 rfl (lv_at hl 0 rfl) ?_
  obtain ⟨x97, hc9, hrun⟩ := m_bind hrun
  refine mr_get (C := RX3) (T := TX3) (N := 10) (ci := 2) hx hb hts (fun w q => m_ws_in (wi_X3 w q)) hown hR rfl 6 (by decide) (hts _ (m_ws_in wm_0_67)) (fun _ h9 => h9) (m_gr_spec hc9) dX3_init_97 ?_
  refine lv_iconst (v := (-1)) hx hb dX3_init_100 (by decide) ?_
  obtain ⟨h101, hc9, hrun⟩ := m_bind hrun
  refine mr_callv (mr_runS (As := [.ref x97, .int (-1)]) (rest := []) hx hb hml hown hts (c_X1_fill l D ids st (z9 + 1 + 1 + 1 + 1 + 1 + 1) hc9) yk_X1_fill ys_X1_fill wm_0_53 ⟨(Nat.le_of_ble_eq_true rfl), (Nat.le_of_ble_eq_true rfl)⟩ (mr_recvS hR hE hz hS hA) hl.1 rfl (Nat.le_of_ble_eq_true rfl) dX3_init_101 ⟨(Nat.le_of_ble_eq_true rfl), (Nat.le_of_ble_eq_true rfl)⟩) hR hz hS hA (fun H locs hR hz hS => ?_)
  obtain ⟨rfl, rfl⟩ := Prod.mk.inj (Option.some.inj hrun)
  refine W.widen (k := 8) (n := 181) (Nat.le_of_ble_eq_true rfl) (Nat.le_of_ble_eq_true rfl) ?_
  exact mr_vret hx hb hr hlocks hR hz hS dX3_init_104
/-! X0_init -/
abbrev rm_X0_init : Room := { frames := 1, cells := 7, slots := 472, locals := 20 }
theorem yk_X0_init : m_K yX0_init cX0_init 1 (none) 0 := ⟨wm_0_99, wm_0_5, by decide +kernel⟩
theorem ys_X0_init : Cond.instanceMethod yX0_init ∈ wT := wm_0_98
set_option maxRecDepth 100000 in
set_option maxHeartbeats 4000000 in
theorem c_X0_init (l : Launch) (D : va_G) (ids : m_I3) (st : m_T) (z : Nat) {h : mH} {v0 : Nat} {hF : mH} {zF : Nat} (hrun : s_X0_init h z v0 = some (hF, zF)) : Met l yX0_init (m_ws yX0_init cX0_init 1 (none)) rm_X0_init (mPc D ids st [.ref v0] h z) (mQv D ids (m_A h z) hF zF) rm_X0_init.cells rm_X0_init.slots (m_A h z) := by
  refine mr_of (cc := cX0_init) (maxL := 1) (ret := none) (by decide) rfl (Nat.le_of_ble_eq_true rfl) ?_
  intro p e s m below meth c ls hx hb hr hml hown hts hlocks hin hR hE hz hl
  have hA : ∀ q, s.heap.size ≤ q → m_A h z q := fun q hq => Or.inr (by rw [← hz]; exact hq)
  have hS : va_S (m_A h z) s.heap s.heap [] := va_S.rf
  have hl : lv_has ls 1 [(0, .ref v0)] := hl
  unfold s_X0_init at hrun
  refine lv_aload_n hx hb dX0_init_0 rfl (lv_at hl 0 rfl) ?_
  refine W.objInit hx hb hown (hts _ (m_ws_in wm_0_100)) (hts _ (m_ws_in wm_0_24)) (hts _ (m_ws_in wm_0_25)) rfl (by rw [hml]; exact hl.1) rfl dX0_init_1 (Nat.le_of_ble_eq_true rfl) (Nat.le_of_ble_eq_true rfl) ?_
  refine W.eq (g2 := F0 m 4 ls []) rfl ?_
  refine lv_aload_n hx hb dX0_init_4 rfl (lv_at hl 0 rfl) ?_
  refine lv_bipush (v := 61) hx hb dX0_init_5 (by decide) ?_
  obtain ⟨h7, hc9, hrun⟩ := m_bind hrun
  refine mr_newi (N := 61) hx hb (hts _ (m_ws_in wm_0_47)) hR hz hS hA (by decide) (by decide) (Nat.le_of_ble_eq_true rfl) (Nat.le_of_ble_eq_true rfl) (Nat.le_of_ble_eq_true rfl) dX0_init_7 (fun H hR hz hS => ?_)
  rw [Option.some.inj hc9] at hR
  obtain ⟨h9, hc9, hrun⟩ := m_bind hrun
  refine mr_putF (C := RX0) (T := TX0) (N := 9) (ci := 0) hx hb hts (fun w q => m_ws_in (wi_X0 w q)) tyX0 tyX0_ok nmX0 hown hR hz hS rfl 0 (by decide) (hts _ (m_ws_in wm_0_101)) (fun _ h9 => h9) rfl hin rfl (tyX0_ok 0 (by decide)) rfl rfl hc9 dX0_init_9 (fun H locs hR hz hS => ?_)
  refine lv_aload_n hx hb dX0_init_12 rfl (lv_at hl 0 rfl) ?_
  refine lv_bipush (v := 61) hx hb dX0_init_13 (by decide) ?_
  obtain ⟨h15, hc9, hrun⟩ := m_bind hrun
  refine mr_newi (N := 61) hx hb (hts _ (m_ws_in wm_0_47)) hR hz hS hA (by decide) (by decide) (Nat.le_of_ble_eq_true rfl) (Nat.le_of_ble_eq_true rfl) (Nat.le_of_ble_eq_true rfl) dX0_init_15 (fun H hR hz hS => ?_)
  rw [Option.some.inj hc9] at hR
  obtain ⟨h17, hc9, hrun⟩ := m_bind hrun
  refine mr_putF (C := RX0) (T := TX0) (N := 9) (ci := 0) hx hb hts (fun w q => m_ws_in (wi_X0 w q)) tyX0 tyX0_ok nmX0 hown hR hz hS rfl 1 (by decide) (hts _ (m_ws_in wm_0_103)) (fun _ h9 => h9) rfl hin rfl (tyX0_ok 1 (by decide)) rfl rfl hc9 dX0_init_17 (fun H locs hR hz hS => ?_)
  refine lv_aload_n hx hb dX0_init_20 rfl (lv_at hl 0 rfl) ?_
  refine lv_bipush (v := 112) hx hb dX0_init_21 (by decide) ?_
  obtain ⟨h23, hc9, hrun⟩ := m_bind hrun
  refine mr_newi (N := 112) hx hb (hts _ (m_ws_in wm_0_47)) hR hz hS hA (by decide) (by decide) (Nat.le_of_ble_eq_true rfl) (Nat.le_of_ble_eq_true rfl) (Nat.le_of_ble_eq_true rfl) dX0_init_23 (fun H hR hz hS => ?_)
  rw [Option.some.inj hc9] at hR
  obtain ⟨h25, hc9, hrun⟩ := m_bind hrun
  refine mr_putF (C := RX0) (T := TX0) (N := 9) (ci := 0) hx hb hts (fun w q => m_ws_in (wi_X0 w q)) tyX0 tyX0_ok nmX0 hown hR hz hS rfl 2 (by decide) (hts _ (m_ws_in wm_0_105)) (fun _ h9 => h9) rfl hin rfl (tyX0_ok 2 (by decide)) rfl rfl hc9 dX0_init_25 (fun H locs hR hz hS => ?_)
  refine lv_aload_n hx hb dX0_init_28 rfl (lv_at hl 0 rfl) ?_
  refine lv_bipush (v := 112) hx hb dX0_init_29 (by decide) ?_
  obtain ⟨h31, hc9, hrun⟩ := m_bind hrun
  refine mr_newi (N := 112) hx hb (hts _ (m_ws_in wm_0_47)) hR hz hS hA (by decide) (by decide) (Nat.le_of_ble_eq_true rfl) (Nat.le_of_ble_eq_true rfl) (Nat.le_of_ble_eq_true rfl) dX0_init_31 (fun H hR hz hS => ?_)
  rw [Option.some.inj hc9] at hR
  obtain ⟨h33, hc9, hrun⟩ := m_bind hrun
  refine mr_putF (C := RX0) (T := TX0) (N := 9) (ci := 0) hx hb hts (fun w q => m_ws_in (wi_X0 w q)) tyX0 tyX0_ok nmX0 hown hR hz hS rfl 3 (by decide) (hts _ (m_ws_in wm_0_107)) (fun _ h9 => h9) rfl hin rfl (tyX0_ok 3 (by decide)) rfl rfl hc9 dX0_init_33 (fun H locs hR hz hS => ?_)
  refine lv_aload_n hx hb dX0_init_36 rfl (lv_at hl 0 rfl) ?_
  refine lv_bipush (v := 112) hx hb dX0_init_37 (by decide) ?_
  obtain ⟨h39, hc9, hrun⟩ := m_bind hrun
  refine mr_newi (N := 112) hx hb (hts _ (m_ws_in wm_0_47)) hR hz hS hA (by decide) (by decide) (Nat.le_of_ble_eq_true rfl) (Nat.le_of_ble_eq_true rfl) (Nat.le_of_ble_eq_true rfl) dX0_init_39 (fun H hR hz hS => ?_)
  rw [Option.some.inj hc9] at hR
  obtain ⟨h41, hc9, hrun⟩ := m_bind hrun
  refine mr_putF (C := RX0) (T := TX0) (N := 9) (ci := 0) hx hb hts (fun w q => m_ws_in (wi_X0 w q)) tyX0 tyX0_ok nmX0 hown hR hz hS rfl 4 (by decide) (hts _ (m_ws_in wm_0_109)) (fun _ h9 => h9) rfl hin rfl (tyX0_ok 4 (by decide)) rfl rfl hc9 dX0_init_41 (fun H locs hR hz hS => ?_)
  refine lv_aload_n hx hb dX0_init_44 rfl (lv_at hl 0 rfl) ?_
  refine lv_bipush (v := 10) hx hb dX0_init_45 (by decide) ?_
  obtain ⟨h47, hc9, hrun⟩ := m_bind hrun
  refine mr_newi (N := 10) hx hb (hts _ (m_ws_in wm_0_47)) hR hz hS hA (by decide) (by decide) (Nat.le_of_ble_eq_true rfl) (Nat.le_of_ble_eq_true rfl) (Nat.le_of_ble_eq_true rfl) dX0_init_47 (fun H hR hz hS => ?_)
  rw [Option.some.inj hc9] at hR
  obtain ⟨h49, hc9, hrun⟩ := m_bind hrun
  refine mr_putF (C := RX0) (T := TX0) (N := 9) (ci := 0) hx hb hts (fun w q => m_ws_in (wi_X0 w q)) tyX0 tyX0_ok nmX0 hown hR hz hS rfl 5 (by decide) (hts _ (m_ws_in wm_0_111)) (fun _ h9 => h9) rfl hin rfl (tyX0_ok 5 (by decide)) rfl rfl hc9 dX0_init_49 (fun H locs hR hz hS => ?_)
  refine lv_aload_n hx hb dX0_init_52 rfl (lv_at hl 0 rfl) ?_
  refine lv_iconst (v := 4) hx hb dX0_init_53 (by decide) ?_
  obtain ⟨h54, hc9, hrun⟩ := m_bind hrun
  refine mr_newi (N := 4) hx hb (hts _ (m_ws_in wm_0_47)) hR hz hS hA (by decide) (by decide) (Nat.le_of_ble_eq_true rfl) (Nat.le_of_ble_eq_true rfl) (Nat.le_of_ble_eq_true rfl) dX0_init_54 (fun H hR hz hS => ?_)
  rw [Option.some.inj hc9] at hR
  obtain ⟨h56, hc9, hrun⟩ := m_bind hrun
  refine mr_putF (C := RX0) (T := TX0) (N := 9) (ci := 0) hx hb hts (fun w q => m_ws_in (wi_X0 w q)) tyX0 tyX0_ok nmX0 hown hR hz hS rfl 6 (by decide) (hts _ (m_ws_in wm_0_113)) (fun _ h9 => h9) rfl hin rfl (tyX0_ok 6 (by decide)) rfl rfl hc9 dX0_init_56 (fun H locs hR hz hS => ?_)
  refine lv_aload_n hx hb dX0_init_59 rfl (lv_at hl 0 rfl) ?_
  refine lv_iconst (v := 0) hx hb dX0_init_60 (by decide) ?_
  obtain ⟨h61, hc9, hrun⟩ := m_bind hrun
  refine mr_put (C := RX0) (T := TX0) (N := 9) (ci := 0) hx hb hts (fun w q => m_ws_in (wi_X0 w q)) tyX0 tyX0_ok nmX0 hown hR hz hS rfl 7 (by decide) (hts _ (m_ws_in wm_0_114)) (fun _ h9 => h9) rfl (tyX0_ok 7 (by decide)) rfl rfl hc9 dX0_init_61 (fun H locs hR hz hS => ?_)
  refine lv_aload_n hx hb dX0_init_64 rfl (lv_at hl 0 rfl) ?_
  refine lv_iconst (v := 0) hx hb dX0_init_65 (by decide) ?_
  obtain ⟨h66, hc9, hrun⟩ := m_bind hrun
  refine mr_put (C := RX0) (T := TX0) (N := 9) (ci := 0) hx hb hts (fun w q => m_ws_in (wi_X0 w q)) tyX0 tyX0_ok nmX0 hown hR hz hS rfl 8 (by decide) (hts _ (m_ws_in wm_0_115)) (fun _ h9 => h9) rfl (tyX0_ok 8 (by decide)) rfl rfl hc9 dX0_init_66 (fun H locs hR hz hS => ?_)
  obtain ⟨rfl, rfl⟩ := Prod.mk.inj (Option.some.inj hrun)
  refine W.widen (k := 7) (n := 472) (Nat.le_of_ble_eq_true rfl) (Nat.le_of_ble_eq_true rfl) ?_
  exact mr_vret hx hb hr hlocks hR hz hS dX0_init_69
/-! X2_init -/
abbrev rm_X2_init : Room := { frames := 3, cells := 64, slots := 1343, locals := 60 }
theorem yk_X2_init : m_K yX2_init cX2_init 2 (none) 0 := ⟨wm_0_139, wm_0_6, by decide +kernel⟩
theorem ys_X2_init : Cond.instanceMethod yX2_init ∈ wT := wm_0_138
set_option maxRecDepth 100000 in
set_option maxHeartbeats 4000000 in
theorem k_X2_init_L15_7 {p : Program} {l : Launch} {e : Env} {s : State} {m : MethodId} {args : Array Value} {below : List Frame} {meth : Method} {c : Code} {D : va_G} {ids : m_I3} {st : m_T} {A : Nat → Prop} {hF : mH} {zF : Nat} (hx : p.tables.exec = Jvm.exec) (hb : c.code = cX2_init) (hr : meth.sig.returnType = none) (hml : c.maxLocals = 2) (hown : s.vm.findClass RX2 = some m.cls) (hts : ∀ w ∈ (m_ws yX2_init cX2_init 2 (none)), w.before args s = true) (hlocks : meth.locks = false) (hin : meth.name = yX2_init.name) (hE : m_EV st A s s.heap) (hA : ∀ q, s.heap.size ≤ q → A q) (h : mH) (z : Nat) (v0 : Nat) (v1 : Int32) (H : Heap) (locs : List Loc) (ls : Array Slot) (hrun : s_X2_init_L15_7 st h z v0 v1 = some (hF, zF)) (hR : Rl D ids A h s H) (hz : H.size = z) (hS : va_S A s.heap H locs) (hl : lv_has ls 2 [(0, .ref v0), (1, .int v1)]) : W p l e rm_X2_init s m args below meth c H locs 64 1343 (MQ below (mQv D ids A hF zF) args s 64 1343 A) (F0 m 15 ls []) := by
  unfold s_X2_init_L15_7 at hrun
  exact absurd hrun (fun h9 => nomatch h9)
set_option maxRecDepth 100000 in
set_option maxHeartbeats 4000000 in
theorem k_X2_init_L15_6 {p : Program} {l : Launch} {e : Env} {s : State} {m : MethodId} {args : Array Value} {below : List Frame} {meth : Method} {c : Code} {D : va_G} {ids : m_I3} {st : m_T} {A : Nat → Prop} {hF : mH} {zF : Nat} (hx : p.tables.exec = Jvm.exec) (hb : c.code = cX2_init) (hr : meth.sig.returnType = none) (hml : c.maxLocals = 2) (hown : s.vm.findClass RX2 = some m.cls) (hts : ∀ w ∈ (m_ws yX2_init cX2_init 2 (none)), w.before args s = true) (hlocks : meth.locks = false) (hin : meth.name = yX2_init.name) (hE : m_EV st A s s.heap) (hA : ∀ q, s.heap.size ≤ q → A q) (h : mH) (z : Nat) (v0 : Nat) (v1 : Int32) (H : Heap) (locs : List Loc) (ls : Array Slot) (hrun : s_X2_init_L15_6 st h z v0 v1 = some (hF, zF)) (hR : Rl D ids A h s H) (hz : H.size = z) (hS : va_S A s.heap H locs) (hl : lv_has ls 2 [(0, .ref v0), (1, .int v1)]) : W p l e rm_X2_init s m args below meth c H locs 55 1152 (MQ below (mQv D ids A hF zF) args s 64 1343 A) (F0 m 15 ls []) := by
  unfold s_X2_init_L15_6 at hrun
  refine lv_iload_n hx hb dX2_init_15 rfl (lv_at hl 1 rfl) ?_
  refine lv_aload_n hx hb dX2_init_16 rfl (lv_at hl 0 rfl) ?_
  obtain ⟨x17, hc9, hrun⟩ := m_bind hrun
  refine mr_get (C := RX2) (T := TX2) (N := 3) (ci := 1) hx hb hts (fun w q => m_ws_in (wi_X2 w q)) hown hR rfl 0 (by decide) (hts _ (m_ws_in wm_0_144)) (fun _ h9 => h9) (m_gr_spec hc9) dX2_init_17 ?_
  obtain ⟨x20, hc9, hrun⟩ := m_bind hrun
  refine mr_alen hx hb hR hc9 dX2_init_20 ?_
  refine lv_icmp_ge (tgt := 43) hx hb dX2_init_21 (by decide) (fun hc => ?_) (fun hc => ?_)
  · have hrun := mt_t hrun hc
    refine lv_aload_n hx hb dX2_init_43 rfl (lv_at hl 0 rfl) ?_
    refine lv_iconst (v := 0) hx hb dX2_init_44 (by decide) ?_
    obtain ⟨h45, hc9, hrun⟩ := m_bind hrun
    refine mr_put (C := RX2) (T := TX2) (N := 3) (ci := 1) hx hb hts (fun w q => m_ws_in (wi_X2 w q)) tyX2 tyX2_ok nmX2 hown hR hz hS rfl 1 (by decide) (hts _ (m_ws_in wm_0_145)) (fun _ h9 => h9) rfl (tyX2_ok 1 (by decide)) rfl rfl hc9 dX2_init_45 (fun H locs hR hz hS => ?_)
    refine lv_aload_n hx hb dX2_init_48 rfl (lv_at hl 0 rfl) ?_
    refine lv_iconst (v := 0) hx hb dX2_init_49 (by decide) ?_
    obtain ⟨h50, hc9, hrun⟩ := m_bind hrun
    refine mr_put (C := RX2) (T := TX2) (N := 3) (ci := 1) hx hb hts (fun w q => m_ws_in (wi_X2 w q)) tyX2 tyX2_ok nmX2 hown hR hz hS rfl 2 (by decide) (hts _ (m_ws_in wm_0_146)) (fun _ h9 => h9) rfl (tyX2_ok 2 (by decide)) rfl rfl hc9 dX2_init_50 (fun H locs hR hz hS => ?_)
    obtain ⟨rfl, rfl⟩ := Prod.mk.inj (Option.some.inj hrun)
    refine W.widen (k := 64) (n := 1343) (Nat.le_of_ble_eq_true rfl) (Nat.le_of_ble_eq_true rfl) ?_
    exact mr_vret hx hb hr hlocks hR hz hS dX2_init_53
  · have hrun := mt_f hrun hc
    refine lv_aload_n hx hb dX2_init_24 rfl (lv_at hl 0 rfl) ?_
    obtain ⟨x25, hc9, hrun⟩ := m_bind hrun
    refine mr_get (C := RX2) (T := TX2) (N := 3) (ci := 1) hx hb hts (fun w q => m_ws_in (wi_X2 w q)) hown hR rfl 0 (by decide) (hts _ (m_ws_in wm_0_144)) (fun _ h9 => h9) (m_gr_spec hc9) dX2_init_25 ?_
    refine lv_iload_n hx hb dX2_init_28 rfl (lv_at hl 1 rfl) ?_
    obtain ⟨h29, hc9, hrun⟩ := m_bind hrun
    refine mr_new (C := RX3) (T := TX3) (N := 10) (ci := 2) (fs := [.null, .null, .null, .null, .null, .null, .null, .int 0, .int 0, .int 0]) hx hb hts (fun w q => m_ws_in (wi_X3 w q)) tyX3 tyX3_ok hown (hts _ (m_ws_in wm_0_141)) (hts _ (m_ws_in wm_0_27)) (hts _ (m_ws_in wm_0_2)) hR hz hS hA rfl (fun j hj => by rcases (show j = 0 ∨ j = 1 ∨ j = 2 ∨ j = 3 ∨ j = 4 ∨ j = 5 ∨ j = 6 ∨ j = 7 ∨ j = 8 ∨ j = 9 by omega) with rfl | rfl | rfl | rfl | rfl | rfl | rfl | rfl | rfl | rfl <;> rfl) (Nat.le_of_ble_eq_true rfl) (Nat.le_of_ble_eq_true rfl) dX2_init_29 (fun H hR hz hS => ?_)
    rw [Option.some.inj hc9] at hR
    refine lv_dup hx hb dX2_init_32 rfl ?_
    obtain ⟨⟨h33, z33⟩, hc9, hrun⟩ := m_bind hrun
    refine mr_callv (mr_runI (As := []) (rest := [.ref z, .int v1, .ref x25]) hx hb hml hown hts (c_X3_init l D ids st (z + 1) hc9) yk_X3_init ys_X3_init rfl wm_0_143 ⟨(Nat.le_of_ble_eq_true rfl), (Nat.le_of_ble_eq_true rfl)⟩ (mr_recvS hR hE hz hS hA) hl.1 rfl (Nat.le_of_ble_eq_true rfl) dX2_init_33 ⟨(Nat.le_of_ble_eq_true rfl), (Nat.le_of_ble_eq_true rfl)⟩) hR hz hS hA (fun H locs hR hz hS => ?_)
    obtain ⟨h36, hc9, hrun⟩ := m_bind hrun
    refine mr_aast hx hb hR hz hS hc9 dX2_init_36 (fun H locs hR hz hS => ?_)
    refine lv_iinc (v := v1 + 1) (lv' := [(1, .int (v1 + 1)), (0, .ref v0)]) hx hb dX2_init_37 hl (k := 1) rfl rfl (by decide) rfl (fun ls hl => ?_)
    refine lv_goto (tgt := 15) hx hb dX2_init_40 (by decide) ?_
    exact k_X2_init_L15_7 hx hb hr hml hown hts hlocks hin hE hA _ _ _ _ _ _ _ hrun hR hz hS (lv_sub hl [1, 0] rfl)
set_option maxRecDepth 100000 in
set_option maxHeartbeats 4000000 in
theorem k_X2_init_L15_5 {p : Program} {l : Launch} {e : Env} {s : State} {m : MethodId} {args : Array Value} {below : List Frame} {meth : Method} {c : Code} {D : va_G} {ids : m_I3} {st : m_T} {A : Nat → Prop} {hF : mH} {zF : Nat} (hx : p.tables.exec = Jvm.exec) (hb : c.code = cX2_init) (hr : meth.sig.returnType = none) (hml : c.maxLocals = 2) (hown : s.vm.findClass RX2 = some m.cls) (hts : ∀ w ∈ (m_ws yX2_init cX2_init 2 (none)), w.before args s = true) (hlocks : meth.locks = false) (hin : meth.name = yX2_init.name) (hE : m_EV st A s s.heap) (hA : ∀ q, s.heap.size ≤ q → A q) (h : mH) (z : Nat) (v0 : Nat) (v1 : Int32) (H : Heap) (locs : List Loc) (ls : Array Slot) (hrun : s_X2_init_L15_5 st h z v0 v1 = some (hF, zF)) (hR : Rl D ids A h s H) (hz : H.size = z) (hS : va_S A s.heap H locs) (hl : lv_has ls 2 [(0, .ref v0), (1, .int v1)]) : W p l e rm_X2_init s m args below meth c H locs 46 961 (MQ below (mQv D ids A hF zF) args s 64 1343 A) (F0 m 15 ls []) := by
  unfold s_X2_init_L15_5 at hrun
  refine lv_iload_n hx hb dX2_init_15 rfl (lv_at hl 1 rfl) ?_
  refine lv_aload_n hx hb dX2_init_16 rfl (lv_at hl 0 rfl) ?_
  obtain ⟨x17, hc9, hrun⟩ := m_bind hrun
  refine mr_get (C := RX2) (T := TX2) (N := 3) (ci := 1) hx hb hts (fun w q => m_ws_in (wi_X2 w q)) hown hR rfl 0 (by decide) (hts _ (m_ws_in wm_0_144)) (fun _ h9 => h9) (m_gr_spec hc9) dX2_init_17 ?_
  obtain ⟨x20, hc9, hrun⟩ := m_bind hrun
  refine mr_alen hx hb hR hc9 dX2_init_20 ?_
  refine lv_icmp_ge (tgt := 43) hx hb dX2_init_21 (by decide) (fun hc => ?_) (fun hc => ?_)
  · have hrun := mt_t hrun hc
    refine lv_aload_n hx hb dX2_init_43 rfl (lv_at hl 0 rfl) ?_
    refine lv_iconst (v := 0) hx hb dX2_init_44 (by decide) ?_
    obtain ⟨h45, hc9, hrun⟩ := m_bind hrun
    refine mr_put (C := RX2) (T := TX2) (N := 3) (ci := 1) hx hb hts (fun w q => m_ws_in (wi_X2 w q)) tyX2 tyX2_ok nmX2 hown hR hz hS rfl 1 (by decide) (hts _ (m_ws_in wm_0_145)) (fun _ h9 => h9) rfl (tyX2_ok 1 (by decide)) rfl rfl hc9 dX2_init_45 (fun H locs hR hz hS => ?_)
    refine lv_aload_n hx hb dX2_init_48 rfl (lv_at hl 0 rfl) ?_
    refine lv_iconst (v := 0) hx hb dX2_init_49 (by decide) ?_
    obtain ⟨h50, hc9, hrun⟩ := m_bind hrun
    refine mr_put (C := RX2) (T := TX2) (N := 3) (ci := 1) hx hb hts (fun w q => m_ws_in (wi_X2 w q)) tyX2 tyX2_ok nmX2 hown hR hz hS rfl 2 (by decide) (hts _ (m_ws_in wm_0_146)) (fun _ h9 => h9) rfl (tyX2_ok 2 (by decide)) rfl rfl hc9 dX2_init_50 (fun H locs hR hz hS => ?_)
    obtain ⟨rfl, rfl⟩ := Prod.mk.inj (Option.some.inj hrun)
    refine W.widen (k := 64) (n := 1343) (Nat.le_of_ble_eq_true rfl) (Nat.le_of_ble_eq_true rfl) ?_
    exact mr_vret hx hb hr hlocks hR hz hS dX2_init_53
  · have hrun := mt_f hrun hc
    refine lv_aload_n hx hb dX2_init_24 rfl (lv_at hl 0 rfl) ?_
    obtain ⟨x25, hc9, hrun⟩ := m_bind hrun
    refine mr_get (C := RX2) (T := TX2) (N := 3) (ci := 1) hx hb hts (fun w q => m_ws_in (wi_X2 w q)) hown hR rfl 0 (by decide) (hts _ (m_ws_in wm_0_144)) (fun _ h9 => h9) (m_gr_spec hc9) dX2_init_25 ?_
    refine lv_iload_n hx hb dX2_init_28 rfl (lv_at hl 1 rfl) ?_
    obtain ⟨h29, hc9, hrun⟩ := m_bind hrun
    refine mr_new (C := RX3) (T := TX3) (N := 10) (ci := 2) (fs := [.null, .null, .null, .null, .null, .null, .null, .int 0, .int 0, .int 0]) hx hb hts (fun w q => m_ws_in (wi_X3 w q)) tyX3 tyX3_ok hown (hts _ (m_ws_in wm_0_141)) (hts _ (m_ws_in wm_0_27)) (hts _ (m_ws_in wm_0_2)) hR hz hS hA rfl (fun j hj => by rcases (show j = 0 ∨ j = 1 ∨ j = 2 ∨ j = 3 ∨ j = 4 ∨ j = 5 ∨ j = 6 ∨ j = 7 ∨ j = 8 ∨ j = 9 by omega) with rfl | rfl | rfl | rfl | rfl | rfl | rfl | rfl | rfl | rfl <;> rfl) (Nat.le_of_ble_eq_true rfl) (Nat.le_of_ble_eq_true rfl) dX2_init_29 (fun H hR hz hS => ?_)
    rw [Option.some.inj hc9] at hR
    refine lv_dup hx hb dX2_init_32 rfl ?_
    obtain ⟨⟨h33, z33⟩, hc9, hrun⟩ := m_bind hrun
    refine mr_callv (mr_runI (As := []) (rest := [.ref z, .int v1, .ref x25]) hx hb hml hown hts (c_X3_init l D ids st (z + 1) hc9) yk_X3_init ys_X3_init rfl wm_0_143 ⟨(Nat.le_of_ble_eq_true rfl), (Nat.le_of_ble_eq_true rfl)⟩ (mr_recvS hR hE hz hS hA) hl.1 rfl (Nat.le_of_ble_eq_true rfl) dX2_init_33 ⟨(Nat.le_of_ble_eq_true rfl), (Nat.le_of_ble_eq_true rfl)⟩) hR hz hS hA (fun H locs hR hz hS => ?_)
    obtain ⟨h36, hc9, hrun⟩ := m_bind hrun
    refine mr_aast hx hb hR hz hS hc9 dX2_init_36 (fun H locs hR hz hS => ?_)
    refine lv_iinc (v := v1 + 1) (lv' := [(1, .int (v1 + 1)), (0, .ref v0)]) hx hb dX2_init_37 hl (k := 1) rfl rfl (by decide) rfl (fun ls hl => ?_)
    refine lv_goto (tgt := 15) hx hb dX2_init_40 (by decide) ?_
    exact k_X2_init_L15_6 hx hb hr hml hown hts hlocks hin hE hA _ _ _ _ _ _ _ hrun hR hz hS (lv_sub hl [1, 0] rfl)
set_option maxRecDepth 100000 in
set_option maxHeartbeats 4000000 in
theorem k_X2_init_L15_4 {p : Program} {l : Launch} {e : Env} {s : State} {m : MethodId} {args : Array Value} {below : List Frame} {meth : Method} {c : Code} {D : va_G} {ids : m_I3} {st : m_T} {A : Nat → Prop} {hF : mH} {zF : Nat} (hx : p.tables.exec = Jvm.exec) (hb : c.code = cX2_init) (hr : meth.sig.returnType = none) (hml : c.maxLocals = 2) (hown : s.vm.findClass RX2 = some m.cls) (hts : ∀ w ∈ (m_ws yX2_init cX2_init 2 (none)), w.before args s = true) (hlocks : meth.locks = false) (hin : meth.name = yX2_init.name) (hE : m_EV st A s s.heap) (hA : ∀ q, s.heap.size ≤ q → A q) (h : mH) (z : Nat) (v0 : Nat) (v1 : Int32) (H : Heap) (locs : List Loc) (ls : Array Slot) (hrun : s_X2_init_L15_4 st h z v0 v1 = some (hF, zF)) (hR : Rl D ids A h s H) (hz : H.size = z) (hS : va_S A s.heap H locs) (hl : lv_has ls 2 [(0, .ref v0), (1, .int v1)]) : W p l e rm_X2_init s m args below meth c H locs 37 770 (MQ below (mQv D ids A hF zF) args s 64 1343 A) (F0 m 15 ls []) := by
  unfold s_X2_init_L15_4 at hrun
  refine lv_iload_n hx hb dX2_init_15 rfl (lv_at hl 1 rfl) ?_
  refine lv_aload_n hx hb dX2_init_16 rfl (lv_at hl 0 rfl) ?_
  obtain ⟨x17, hc9, hrun⟩ := m_bind hrun
  refine mr_get (C := RX2) (T := TX2) (N := 3) (ci := 1) hx hb hts (fun w q => m_ws_in (wi_X2 w q)) hown hR rfl 0 (by decide) (hts _ (m_ws_in wm_0_144)) (fun _ h9 => h9) (m_gr_spec hc9) dX2_init_17 ?_
  obtain ⟨x20, hc9, hrun⟩ := m_bind hrun
  refine mr_alen hx hb hR hc9 dX2_init_20 ?_
  refine lv_icmp_ge (tgt := 43) hx hb dX2_init_21 (by decide) (fun hc => ?_) (fun hc => ?_)
  · have hrun := mt_t hrun hc
    refine lv_aload_n hx hb dX2_init_43 rfl (lv_at hl 0 rfl) ?_
    refine lv_iconst (v := 0) hx hb dX2_init_44 (by decide) ?_
    obtain ⟨h45, hc9, hrun⟩ := m_bind hrun
    refine mr_put (C := RX2) (T := TX2) (N := 3) (ci := 1) hx hb hts (fun w q => m_ws_in (wi_X2 w q)) tyX2 tyX2_ok nmX2 hown hR hz hS rfl 1 (by decide) (hts _ (m_ws_in wm_0_145)) (fun _ h9 => h9) rfl (tyX2_ok 1 (by decide)) rfl rfl hc9 dX2_init_45 (fun H locs hR hz hS => ?_)
    refine lv_aload_n hx hb dX2_init_48 rfl (lv_at hl 0 rfl) ?_
    refine lv_iconst (v := 0) hx hb dX2_init_49 (by decide) ?_
    obtain ⟨h50, hc9, hrun⟩ := m_bind hrun
    refine mr_put (C := RX2) (T := TX2) (N := 3) (ci := 1) hx hb hts (fun w q => m_ws_in (wi_X2 w q)) tyX2 tyX2_ok nmX2 hown hR hz hS rfl 2 (by decide) (hts _ (m_ws_in wm_0_146)) (fun _ h9 => h9) rfl (tyX2_ok 2 (by decide)) rfl rfl hc9 dX2_init_50 (fun H locs hR hz hS => ?_)
    obtain ⟨rfl, rfl⟩ := Prod.mk.inj (Option.some.inj hrun)
    refine W.widen (k := 64) (n := 1343) (Nat.le_of_ble_eq_true rfl) (Nat.le_of_ble_eq_true rfl) ?_
    exact mr_vret hx hb hr hlocks hR hz hS dX2_init_53
  · have hrun := mt_f hrun hc
    refine lv_aload_n hx hb dX2_init_24 rfl (lv_at hl 0 rfl) ?_
    obtain ⟨x25, hc9, hrun⟩ := m_bind hrun
    refine mr_get (C := RX2) (T := TX2) (N := 3) (ci := 1) hx hb hts (fun w q => m_ws_in (wi_X2 w q)) hown hR rfl 0 (by decide) (hts _ (m_ws_in wm_0_144)) (fun _ h9 => h9) (m_gr_spec hc9) dX2_init_25 ?_
    refine lv_iload_n hx hb dX2_init_28 rfl (lv_at hl 1 rfl) ?_
    obtain ⟨h29, hc9, hrun⟩ := m_bind hrun
    refine mr_new (C := RX3) (T := TX3) (N := 10) (ci := 2) (fs := [.null, .null, .null, .null, .null, .null, .null, .int 0, .int 0, .int 0]) hx hb hts (fun w q => m_ws_in (wi_X3 w q)) tyX3 tyX3_ok hown (hts _ (m_ws_in wm_0_141)) (hts _ (m_ws_in wm_0_27)) (hts _ (m_ws_in wm_0_2)) hR hz hS hA rfl (fun j hj => by rcases (show j = 0 ∨ j = 1 ∨ j = 2 ∨ j = 3 ∨ j = 4 ∨ j = 5 ∨ j = 6 ∨ j = 7 ∨ j = 8 ∨ j = 9 by omega) with rfl | rfl | rfl | rfl | rfl | rfl | rfl | rfl | rfl | rfl <;> rfl) (Nat.le_of_ble_eq_true rfl) (Nat.le_of_ble_eq_true rfl) dX2_init_29 (fun H hR hz hS => ?_)
    rw [Option.some.inj hc9] at hR
    refine lv_dup hx hb dX2_init_32 rfl ?_
    obtain ⟨⟨h33, z33⟩, hc9, hrun⟩ := m_bind hrun
    refine mr_callv (mr_runI (As := []) (rest := [.ref z, .int v1, .ref x25]) hx hb hml hown hts (c_X3_init l D ids st (z + 1) hc9) yk_X3_init ys_X3_init rfl wm_0_143 ⟨(Nat.le_of_ble_eq_true rfl), (Nat.le_of_ble_eq_true rfl)⟩ (mr_recvS hR hE hz hS hA) hl.1 rfl (Nat.le_of_ble_eq_true rfl) dX2_init_33 ⟨(Nat.le_of_ble_eq_true rfl), (Nat.le_of_ble_eq_true rfl)⟩) hR hz hS hA (fun H locs hR hz hS => ?_)
    obtain ⟨h36, hc9, hrun⟩ := m_bind hrun
    refine mr_aast hx hb hR hz hS hc9 dX2_init_36 (fun H locs hR hz hS => ?_)
    refine lv_iinc (v := v1 + 1) (lv' := [(1, .int (v1 + 1)), (0, .ref v0)]) hx hb dX2_init_37 hl (k := 1) rfl rfl (by decide) rfl (fun ls hl => ?_)
    refine lv_goto (tgt := 15) hx hb dX2_init_40 (by decide) ?_
    exact k_X2_init_L15_5 hx hb hr hml hown hts hlocks hin hE hA _ _ _ _ _ _ _ hrun hR hz hS (lv_sub hl [1, 0] rfl)
set_option maxRecDepth 100000 in
set_option maxHeartbeats 4000000 in
theorem k_X2_init_L15_3 {p : Program} {l : Launch} {e : Env} {s : State} {m : MethodId} {args : Array Value} {below : List Frame} {meth : Method} {c : Code} {D : va_G} {ids : m_I3} {st : m_T} {A : Nat → Prop} {hF : mH} {zF : Nat} (hx : p.tables.exec = Jvm.exec) (hb : c.code = cX2_init) (hr : meth.sig.returnType = none) (hml : c.maxLocals = 2) (hown : s.vm.findClass RX2 = some m.cls) (hts : ∀ w ∈ (m_ws yX2_init cX2_init 2 (none)), w.before args s = true) (hlocks : meth.locks = false) (hin : meth.name = yX2_init.name) (hE : m_EV st A s s.heap) (hA : ∀ q, s.heap.size ≤ q → A q) (h : mH) (z : Nat) (v0 : Nat) (v1 : Int32) (H : Heap) (locs : List Loc) (ls : Array Slot) (hrun : s_X2_init_L15_3 st h z v0 v1 = some (hF, zF)) (hR : Rl D ids A h s H) (hz : H.size = z) (hS : va_S A s.heap H locs) (hl : lv_has ls 2 [(0, .ref v0), (1, .int v1)]) : W p l e rm_X2_init s m args below meth c H locs 28 579 (MQ below (mQv D ids A hF zF) args s 64 1343 A) (F0 m 15 ls []) := by
  unfold s_X2_init_L15_3 at hrun
  refine lv_iload_n hx hb dX2_init_15 rfl (lv_at hl 1 rfl) ?_
  refine lv_aload_n hx hb dX2_init_16 rfl (lv_at hl 0 rfl) ?_
  obtain ⟨x17, hc9, hrun⟩ := m_bind hrun
  refine mr_get (C := RX2) (T := TX2) (N := 3) (ci := 1) hx hb hts (fun w q => m_ws_in (wi_X2 w q)) hown hR rfl 0 (by decide) (hts _ (m_ws_in wm_0_144)) (fun _ h9 => h9) (m_gr_spec hc9) dX2_init_17 ?_
  obtain ⟨x20, hc9, hrun⟩ := m_bind hrun
  refine mr_alen hx hb hR hc9 dX2_init_20 ?_
  refine lv_icmp_ge (tgt := 43) hx hb dX2_init_21 (by decide) (fun hc => ?_) (fun hc => ?_)
  · have hrun := mt_t hrun hc
    refine lv_aload_n hx hb dX2_init_43 rfl (lv_at hl 0 rfl) ?_
    refine lv_iconst (v := 0) hx hb dX2_init_44 (by decide) ?_
    obtain ⟨h45, hc9, hrun⟩ := m_bind hrun
    refine mr_put (C := RX2) (T := TX2) (N := 3) (ci := 1) hx hb hts (fun w q => m_ws_in (wi_X2 w q)) tyX2 tyX2_ok nmX2 hown hR hz hS rfl 1 (by decide) (hts _ (m_ws_in wm_0_145)) (fun _ h9 => h9) rfl (tyX2_ok 1 (by decide)) rfl rfl hc9 dX2_init_45 (fun H locs hR hz hS => ?_)
    refine lv_aload_n hx hb dX2_init_48 rfl (lv_at hl 0 rfl) ?_
    refine lv_iconst (v := 0) hx hb dX2_init_49 (by decide) ?_
    obtain ⟨h50, hc9, hrun⟩ := m_bind hrun
    refine mr_put (C := RX2) (T := TX2) (N := 3) (ci := 1) hx hb hts (fun w q => m_ws_in (wi_X2 w q)) tyX2 tyX2_ok nmX2 hown hR hz hS rfl 2 (by decide) (hts _ (m_ws_in wm_0_146)) (fun _ h9 => h9) rfl (tyX2_ok 2 (by decide)) rfl rfl hc9 dX2_init_50 (fun H locs hR hz hS => ?_)
    obtain ⟨rfl, rfl⟩ := Prod.mk.inj (Option.some.inj hrun)
    refine W.widen (k := 64) (n := 1343) (Nat.le_of_ble_eq_true rfl) (Nat.le_of_ble_eq_true rfl) ?_
    exact mr_vret hx hb hr hlocks hR hz hS dX2_init_53
  · have hrun := mt_f hrun hc
    refine lv_aload_n hx hb dX2_init_24 rfl (lv_at hl 0 rfl) ?_
    obtain ⟨x25, hc9, hrun⟩ := m_bind hrun
    refine mr_get (C := RX2) (T := TX2) (N := 3) (ci := 1) hx hb hts (fun w q => m_ws_in (wi_X2 w q)) hown hR rfl 0 (by decide) (hts _ (m_ws_in wm_0_144)) (fun _ h9 => h9) (m_gr_spec hc9) dX2_init_25 ?_
    refine lv_iload_n hx hb dX2_init_28 rfl (lv_at hl 1 rfl) ?_
    obtain ⟨h29, hc9, hrun⟩ := m_bind hrun
    refine mr_new (C := RX3) (T := TX3) (N := 10) (ci := 2) (fs := [.null, .null, .null, .null, .null, .null, .null, .int 0, .int 0, .int 0]) hx hb hts (fun w q => m_ws_in (wi_X3 w q)) tyX3 tyX3_ok hown (hts _ (m_ws_in wm_0_141)) (hts _ (m_ws_in wm_0_27)) (hts _ (m_ws_in wm_0_2)) hR hz hS hA rfl (fun j hj => by rcases (show j = 0 ∨ j = 1 ∨ j = 2 ∨ j = 3 ∨ j = 4 ∨ j = 5 ∨ j = 6 ∨ j = 7 ∨ j = 8 ∨ j = 9 by omega) with rfl | rfl | rfl | rfl | rfl | rfl | rfl | rfl | rfl | rfl <;> rfl) (Nat.le_of_ble_eq_true rfl) (Nat.le_of_ble_eq_true rfl) dX2_init_29 (fun H hR hz hS => ?_)
    rw [Option.some.inj hc9] at hR
    refine lv_dup hx hb dX2_init_32 rfl ?_
    obtain ⟨⟨h33, z33⟩, hc9, hrun⟩ := m_bind hrun
    refine mr_callv (mr_runI (As := []) (rest := [.ref z, .int v1, .ref x25]) hx hb hml hown hts (c_X3_init l D ids st (z + 1) hc9) yk_X3_init ys_X3_init rfl wm_0_143 ⟨(Nat.le_of_ble_eq_true rfl), (Nat.le_of_ble_eq_true rfl)⟩ (mr_recvS hR hE hz hS hA) hl.1 rfl (Nat.le_of_ble_eq_true rfl) dX2_init_33 ⟨(Nat.le_of_ble_eq_true rfl), (Nat.le_of_ble_eq_true rfl)⟩) hR hz hS hA (fun H locs hR hz hS => ?_)
    obtain ⟨h36, hc9, hrun⟩ := m_bind hrun
    refine mr_aast hx hb hR hz hS hc9 dX2_init_36 (fun H locs hR hz hS => ?_)
    refine lv_iinc (v := v1 + 1) (lv' := [(1, .int (v1 + 1)), (0, .ref v0)]) hx hb dX2_init_37 hl (k := 1) rfl rfl (by decide) rfl (fun ls hl => ?_)
    refine lv_goto (tgt := 15) hx hb dX2_init_40 (by decide) ?_
    exact k_X2_init_L15_4 hx hb hr hml hown hts hlocks hin hE hA _ _ _ _ _ _ _ hrun hR hz hS (lv_sub hl [1, 0] rfl)
set_option maxRecDepth 100000 in
set_option maxHeartbeats 4000000 in
theorem k_X2_init_L15_2 {p : Program} {l : Launch} {e : Env} {s : State} {m : MethodId} {args : Array Value} {below : List Frame} {meth : Method} {c : Code} {D : va_G} {ids : m_I3} {st : m_T} {A : Nat → Prop} {hF : mH} {zF : Nat} (hx : p.tables.exec = Jvm.exec) (hb : c.code = cX2_init) (hr : meth.sig.returnType = none) (hml : c.maxLocals = 2) (hown : s.vm.findClass RX2 = some m.cls) (hts : ∀ w ∈ (m_ws yX2_init cX2_init 2 (none)), w.before args s = true) (hlocks : meth.locks = false) (hin : meth.name = yX2_init.name) (hE : m_EV st A s s.heap) (hA : ∀ q, s.heap.size ≤ q → A q) (h : mH) (z : Nat) (v0 : Nat) (v1 : Int32) (H : Heap) (locs : List Loc) (ls : Array Slot) (hrun : s_X2_init_L15_2 st h z v0 v1 = some (hF, zF)) (hR : Rl D ids A h s H) (hz : H.size = z) (hS : va_S A s.heap H locs) (hl : lv_has ls 2 [(0, .ref v0), (1, .int v1)]) : W p l e rm_X2_init s m args below meth c H locs 19 388 (MQ below (mQv D ids A hF zF) args s 64 1343 A) (F0 m 15 ls []) := by
  unfold s_X2_init_L15_2 at hrun
  refine lv_iload_n hx hb dX2_init_15 rfl (lv_at hl 1 rfl) ?_
  refine lv_aload_n hx hb dX2_init_16 rfl (lv_at hl 0 rfl) ?_
  obtain ⟨x17, hc9, hrun⟩ := m_bind hrun
  refine mr_get (C := RX2) (T := TX2) (N := 3) (ci := 1) hx hb hts (fun w q => m_ws_in (wi_X2 w q)) hown hR rfl 0 (by decide) (hts _ (m_ws_in wm_0_144)) (fun _ h9 => h9) (m_gr_spec hc9) dX2_init_17 ?_
  obtain ⟨x20, hc9, hrun⟩ := m_bind hrun
  refine mr_alen hx hb hR hc9 dX2_init_20 ?_
  refine lv_icmp_ge (tgt := 43) hx hb dX2_init_21 (by decide) (fun hc => ?_) (fun hc => ?_)
  · have hrun := mt_t hrun hc
    refine lv_aload_n hx hb dX2_init_43 rfl (lv_at hl 0 rfl) ?_
    refine lv_iconst (v := 0) hx hb dX2_init_44 (by decide) ?_
    obtain ⟨h45, hc9, hrun⟩ := m_bind hrun
    refine mr_put (C := RX2) (T := TX2) (N := 3) (ci := 1) hx hb hts (fun w q => m_ws_in (wi_X2 w q)) tyX2 tyX2_ok nmX2 hown hR hz hS rfl 1 (by decide) (hts _ (m_ws_in wm_0_145)) (fun _ h9 => h9) rfl (tyX2_ok 1 (by decide)) rfl rfl hc9 dX2_init_45 (fun H locs hR hz hS => ?_)
    refine lv_aload_n hx hb dX2_init_48 rfl (lv_at hl 0 rfl) ?_
    refine lv_iconst (v := 0) hx hb dX2_init_49 (by decide) ?_
    obtain ⟨h50, hc9, hrun⟩ := m_bind hrun
    refine mr_put (C := RX2) (T := TX2) (N := 3) (ci := 1) hx hb hts (fun w q => m_ws_in (wi_X2 w q)) tyX2 tyX2_ok nmX2 hown hR hz hS rfl 2 (by decide) (hts _ (m_ws_in wm_0_146)) (fun _ h9 => h9) rfl (tyX2_ok 2 (by decide)) rfl rfl hc9 dX2_init_50 (fun H locs hR hz hS => ?_)
    obtain ⟨rfl, rfl⟩ := Prod.mk.inj (Option.some.inj hrun)
    refine W.widen (k := 64) (n := 1343) (Nat.le_of_ble_eq_true rfl) (Nat.le_of_ble_eq_true rfl) ?_
    exact mr_vret hx hb hr hlocks hR hz hS dX2_init_53
  · have hrun := mt_f hrun hc
    refine lv_aload_n hx hb dX2_init_24 rfl (lv_at hl 0 rfl) ?_
    obtain ⟨x25, hc9, hrun⟩ := m_bind hrun
    refine mr_get (C := RX2) (T := TX2) (N := 3) (ci := 1) hx hb hts (fun w q => m_ws_in (wi_X2 w q)) hown hR rfl 0 (by decide) (hts _ (m_ws_in wm_0_144)) (fun _ h9 => h9) (m_gr_spec hc9) dX2_init_25 ?_
    refine lv_iload_n hx hb dX2_init_28 rfl (lv_at hl 1 rfl) ?_
    obtain ⟨h29, hc9, hrun⟩ := m_bind hrun
    refine mr_new (C := RX3) (T := TX3) (N := 10) (ci := 2) (fs := [.null, .null, .null, .null, .null, .null, .null, .int 0, .int 0, .int 0]) hx hb hts (fun w q => m_ws_in (wi_X3 w q)) tyX3 tyX3_ok hown (hts _ (m_ws_in wm_0_141)) (hts _ (m_ws_in wm_0_27)) (hts _ (m_ws_in wm_0_2)) hR hz hS hA rfl (fun j hj => by rcases (show j = 0 ∨ j = 1 ∨ j = 2 ∨ j = 3 ∨ j = 4 ∨ j = 5 ∨ j = 6 ∨ j = 7 ∨ j = 8 ∨ j = 9 by omega) with rfl | rfl | rfl | rfl | rfl | rfl | rfl | rfl | rfl | rfl <;> rfl) (Nat.le_of_ble_eq_true rfl) (Nat.le_of_ble_eq_true rfl) dX2_init_29 (fun H hR hz hS => ?_)
    rw [Option.some.inj hc9] at hR
    refine lv_dup hx hb dX2_init_32 rfl ?_
    obtain ⟨⟨h33, z33⟩, hc9, hrun⟩ := m_bind hrun
    refine mr_callv (mr_runI (As := []) (rest := [.ref z, .int v1, .ref x25]) hx hb hml hown hts (c_X3_init l D ids st (z + 1) hc9) yk_X3_init ys_X3_init rfl wm_0_143 ⟨(Nat.le_of_ble_eq_true rfl), (Nat.le_of_ble_eq_true rfl)⟩ (mr_recvS hR hE hz hS hA) hl.1 rfl (Nat.le_of_ble_eq_true rfl) dX2_init_33 ⟨(Nat.le_of_ble_eq_true rfl), (Nat.le_of_ble_eq_true rfl)⟩) hR hz hS hA (fun H locs hR hz hS => ?_)
    obtain ⟨h36, hc9, hrun⟩ := m_bind hrun
    refine mr_aast hx hb hR hz hS hc9 dX2_init_36 (fun H locs hR hz hS => ?_)
    refine lv_iinc (v := v1 + 1) (lv' := [(1, .int (v1 + 1)), (0, .ref v0)]) hx hb dX2_init_37 hl (k := 1) rfl rfl (by decide) rfl (fun ls hl => ?_)
    refine lv_goto (tgt := 15) hx hb dX2_init_40 (by decide) ?_
    exact k_X2_init_L15_3 hx hb hr hml hown hts hlocks hin hE hA _ _ _ _ _ _ _ hrun hR hz hS (lv_sub hl [1, 0] rfl)
set_option maxRecDepth 100000 in
set_option maxHeartbeats 4000000 in
theorem k_X2_init_L15_1 {p : Program} {l : Launch} {e : Env} {s : State} {m : MethodId} {args : Array Value} {below : List Frame} {meth : Method} {c : Code} {D : va_G} {ids : m_I3} {st : m_T} {A : Nat → Prop} {hF : mH} {zF : Nat} (hx : p.tables.exec = Jvm.exec) (hb : c.code = cX2_init) (hr : meth.sig.returnType = none) (hml : c.maxLocals = 2) (hown : s.vm.findClass RX2 = some m.cls) (hts : ∀ w ∈ (m_ws yX2_init cX2_init 2 (none)), w.before args s = true) (hlocks : meth.locks = false) (hin : meth.name = yX2_init.name) (hE : m_EV st A s s.heap) (hA : ∀ q, s.heap.size ≤ q → A q) (h : mH) (z : Nat) (v0 : Nat) (v1 : Int32) (H : Heap) (locs : List Loc) (ls : Array Slot) (hrun : s_X2_init_L15_1 st h z v0 v1 = some (hF, zF)) (hR : Rl D ids A h s H) (hz : H.size = z) (hS : va_S A s.heap H locs) (hl : lv_has ls 2 [(0, .ref v0), (1, .int v1)]) : W p l e rm_X2_init s m args below meth c H locs 10 197 (MQ below (mQv D ids A hF zF) args s 64 1343 A) (F0 m 15 ls []) := by
  unfold s_X2_init_L15_1 at hrun
  refine lv_iload_n hx hb dX2_init_15 rfl (lv_at hl 1 rfl) ?_
  refine lv_aload_n hx hb dX2_init_16 rfl (lv_at hl 0 rfl) ?_
  obtain ⟨x17, hc9, hrun⟩ := m_bind hrun
  refine mr_get (C := RX2) (T := TX2) (N := 3) (ci := 1) hx hb hts (fun w q => m_ws_in (wi_X2 w q)) hown hR rfl 0 (by decide) (hts _ (m_ws_in wm_0_144)) (fun _ h9 => h9) (m_gr_spec hc9) dX2_init_17 ?_
  obtain ⟨x20, hc9, hrun⟩ := m_bind hrun
  refine mr_alen hx hb hR hc9 dX2_init_20 ?_
  refine lv_icmp_ge (tgt := 43) hx hb dX2_init_21 (by decide) (fun hc => ?_) (fun hc => ?_)
  · have hrun := mt_t hrun hc
    refine lv_aload_n hx hb dX2_init_43 rfl (lv_at hl 0 rfl) ?_
    refine lv_iconst (v := 0) hx hb dX2_init_44 (by decide) ?_
    obtain ⟨h45, hc9, hrun⟩ := m_bind hrun
    refine mr_put (C := RX2) (T := TX2) (N := 3) (ci := 1) hx hb hts (fun w q => m_ws_in (wi_X2 w q)) tyX2 tyX2_ok nmX2 hown hR hz hS rfl 1 (by decide) (hts _ (m_ws_in wm_0_145)) (fun _ h9 => h9) rfl (tyX2_ok 1 (by decide)) rfl rfl hc9 dX2_init_45 (fun H locs hR hz hS => ?_)
    refine lv_aload_n hx hb dX2_init_48 rfl (lv_at hl 0 rfl) ?_
    refine lv_iconst (v := 0) hx hb dX2_init_49 (by decide) ?_
    obtain ⟨h50, hc9, hrun⟩ := m_bind hrun
    refine mr_put (C := RX2) (T := TX2) (N := 3) (ci := 1) hx hb hts (fun w q => m_ws_in (wi_X2 w q)) tyX2 tyX2_ok nmX2 hown hR hz hS rfl 2 (by decide) (hts _ (m_ws_in wm_0_146)) (fun _ h9 => h9) rfl (tyX2_ok 2 (by decide)) rfl rfl hc9 dX2_init_50 (fun H locs hR hz hS => ?_)
    obtain ⟨rfl, rfl⟩ := Prod.mk.inj (Option.some.inj hrun)
    refine W.widen (k := 64) (n := 1343) (Nat.le_of_ble_eq_true rfl) (Nat.le_of_ble_eq_true rfl) ?_
    exact mr_vret hx hb hr hlocks hR hz hS dX2_init_53
  · have hrun := mt_f hrun hc
    refine lv_aload_n hx hb dX2_init_24 rfl (lv_at hl 0 rfl) ?_
    obtain ⟨x25, hc9, hrun⟩ := m_bind hrun
    refine mr_get (C := RX2) (T := TX2) (N := 3) (ci := 1) hx hb hts (fun w q => m_ws_in (wi_X2 w q)) hown hR rfl 0 (by decide) (hts _ (m_ws_in wm_0_144)) (fun _ h9 => h9) (m_gr_spec hc9) dX2_init_25 ?_
    refine lv_iload_n hx hb dX2_init_28 rfl (lv_at hl 1 rfl) ?_
    obtain ⟨h29, hc9, hrun⟩ := m_bind hrun
    refine mr_new (C := RX3) (T := TX3) (N := 10) (ci := 2) (fs := [.null, .null, .null, .null, .null, .null, .null, .int 0, .int 0, .int 0]) hx hb hts (fun w q => m_ws_in (wi_X3 w q)) tyX3 tyX3_ok hown (hts _ (m_ws_in wm_0_141)) (hts _ (m_ws_in wm_0_27)) (hts _ (m_ws_in wm_0_2)) hR hz hS hA rfl (fun j hj => by rcases (show j = 0 ∨ j = 1 ∨ j = 2 ∨ j = 3 ∨ j = 4 ∨ j = 5 ∨ j = 6 ∨ j = 7 ∨ j = 8 ∨ j = 9 by omega) with rfl | rfl | rfl | rfl | rfl | rfl | rfl | rfl | rfl | rfl <;> rfl) (Nat.le_of_ble_eq_true rfl) (Nat.le_of_ble_eq_true rfl) dX2_init_29 (fun H hR hz hS => ?_)
    rw [Option.some.inj hc9] at hR
    refine lv_dup hx hb dX2_init_32 rfl ?_
    obtain ⟨⟨h33, z33⟩, hc9, hrun⟩ := m_bind hrun
    refine mr_callv (mr_runI (As := []) (rest := [.ref z, .int v1, .ref x25]) hx hb hml hown hts (c_X3_init l D ids st (z + 1) hc9) yk_X3_init ys_X3_init rfl wm_0_143 ⟨(Nat.le_of_ble_eq_true rfl), (Nat.le_of_ble_eq_true rfl)⟩ (mr_recvS hR hE hz hS hA) hl.1 rfl (Nat.le_of_ble_eq_true rfl) dX2_init_33 ⟨(Nat.le_of_ble_eq_true rfl), (Nat.le_of_ble_eq_true rfl)⟩) hR hz hS hA (fun H locs hR hz hS => ?_)
    obtain ⟨h36, hc9, hrun⟩ := m_bind hrun
    refine mr_aast hx hb hR hz hS hc9 dX2_init_36 (fun H locs hR hz hS => ?_)
    refine lv_iinc (v := v1 + 1) (lv' := [(1, .int (v1 + 1)), (0, .ref v0)]) hx hb dX2_init_37 hl (k := 1) rfl rfl (by decide) rfl (fun ls hl => ?_)
    refine lv_goto (tgt := 15) hx hb dX2_init_40 (by decide) ?_
    exact k_X2_init_L15_2 hx hb hr hml hown hts hlocks hin hE hA _ _ _ _ _ _ _ hrun hR hz hS (lv_sub hl [1, 0] rfl)
set_option maxRecDepth 100000 in
set_option maxHeartbeats 4000000 in
theorem k_X2_init_L15_0 {p : Program} {l : Launch} {e : Env} {s : State} {m : MethodId} {args : Array Value} {below : List Frame} {meth : Method} {c : Code} {D : va_G} {ids : m_I3} {st : m_T} {A : Nat → Prop} {hF : mH} {zF : Nat} (hx : p.tables.exec = Jvm.exec) (hb : c.code = cX2_init) (hr : meth.sig.returnType = none) (hml : c.maxLocals = 2) (hown : s.vm.findClass RX2 = some m.cls) (hts : ∀ w ∈ (m_ws yX2_init cX2_init 2 (none)), w.before args s = true) (hlocks : meth.locks = false) (hin : meth.name = yX2_init.name) (hE : m_EV st A s s.heap) (hA : ∀ q, s.heap.size ≤ q → A q) (h : mH) (z : Nat) (v0 : Nat) (v1 : Int32) (H : Heap) (locs : List Loc) (ls : Array Slot) (hrun : s_X2_init_L15_0 st h z v0 v1 = some (hF, zF)) (hR : Rl D ids A h s H) (hz : H.size = z) (hS : va_S A s.heap H locs) (hl : lv_has ls 2 [(0, .ref v0), (1, .int v1)]) : W p l e rm_X2_init s m args below meth c H locs 1 6 (MQ below (mQv D ids A hF zF) args s 64 1343 A) (F0 m 15 ls []) := by
  unfold s_X2_init_L15_0 at hrun
  refine lv_iload_n hx hb dX2_init_15 rfl (lv_at hl 1 rfl) ?_
  refine lv_aload_n hx hb dX2_init_16 rfl (lv_at hl 0 rfl) ?_
  obtain ⟨x17, hc9, hrun⟩ := m_bind hrun
  refine mr_get (C := RX2) (T := TX2) (N := 3) (ci := 1) hx hb hts (fun w q => m_ws_in (wi_X2 w q)) hown hR rfl 0 (by decide) (hts _ (m_ws_in wm_0_144)) (fun _ h9 => h9) (m_gr_spec hc9) dX2_init_17 ?_
  obtain ⟨x20, hc9, hrun⟩ := m_bind hrun
  refine mr_alen hx hb hR hc9 dX2_init_20 ?_
  refine lv_icmp_ge (tgt := 43) hx hb dX2_init_21 (by decide) (fun hc => ?_) (fun hc => ?_)
  · have hrun := mt_t hrun hc
    refine lv_aload_n hx hb dX2_init_43 rfl (lv_at hl 0 rfl) ?_
    refine lv_iconst (v := 0) hx hb dX2_init_44 (by decide) ?_
    obtain ⟨h45, hc9, hrun⟩ := m_bind hrun
    refine mr_put (C := RX2) (T := TX2) (N := 3) (ci := 1) hx hb hts (fun w q => m_ws_in (wi_X2 w q)) tyX2 tyX2_ok nmX2 hown hR hz hS rfl 1 (by decide) (hts _ (m_ws_in wm_0_145)) (fun _ h9 => h9) rfl (tyX2_ok 1 (by decide)) rfl rfl hc9 dX2_init_45 (fun H locs hR hz hS => ?_)
    refine lv_aload_n hx hb dX2_init_48 rfl (lv_at hl 0 rfl) ?_
    refine lv_iconst (v := 0) hx hb dX2_init_49 (by decide) ?_
    obtain ⟨h50, hc9, hrun⟩ := m_bind hrun
    refine mr_put (C := RX2) (T := TX2) (N := 3) (ci := 1) hx hb hts (fun w q => m_ws_in (wi_X2 w q)) tyX2 tyX2_ok nmX2 hown hR hz hS rfl 2 (by decide) (hts _ (m_ws_in wm_0_146)) (fun _ h9 => h9) rfl (tyX2_ok 2 (by decide)) rfl rfl hc9 dX2_init_50 (fun H locs hR hz hS => ?_)
    obtain ⟨rfl, rfl⟩ := Prod.mk.inj (Option.some.inj hrun)
    refine W.widen (k := 64) (n := 1343) (Nat.le_of_ble_eq_true rfl) (Nat.le_of_ble_eq_true rfl) ?_
    exact mr_vret hx hb hr hlocks hR hz hS dX2_init_53
  · have hrun := mt_f hrun hc
    refine lv_aload_n hx hb dX2_init_24 rfl (lv_at hl 0 rfl) ?_
    obtain ⟨x25, hc9, hrun⟩ := m_bind hrun
    refine mr_get (C := RX2) (T := TX2) (N := 3) (ci := 1) hx hb hts (fun w q => m_ws_in (wi_X2 w q)) hown hR rfl 0 (by decide) (hts _ (m_ws_in wm_0_144)) (fun _ h9 => h9) (m_gr_spec hc9) dX2_init_25 ?_
    refine lv_iload_n hx hb dX2_init_28 rfl (lv_at hl 1 rfl) ?_
    obtain ⟨h29, hc9, hrun⟩ := m_bind hrun
    refine mr_new (C := RX3) (T := TX3) (N := 10) (ci := 2) (fs := [.null, .null, .null, .null, .null, .null, .null, .int 0, .int 0, .int 0]) hx hb hts (fun w q => m_ws_in (wi_X3 w q)) tyX3 tyX3_ok hown (hts _ (m_ws_in wm_0_141)) (hts _ (m_ws_in wm_0_27)) (hts _ (m_ws_in wm_0_2)) hR hz hS hA rfl (fun j hj => by rcases (show j = 0 ∨ j = 1 ∨ j = 2 ∨ j = 3 ∨ j = 4 ∨ j = 5 ∨ j = 6 ∨ j = 7 ∨ j = 8 ∨ j = 9 by omega) with rfl | rfl | rfl | rfl | rfl | rfl | rfl | rfl | rfl | rfl <;> rfl) (Nat.le_of_ble_eq_true rfl) (Nat.le_of_ble_eq_true rfl) dX2_init_29 (fun H hR hz hS => ?_)
    rw [Option.some.inj hc9] at hR
    refine lv_dup hx hb dX2_init_32 rfl ?_
    obtain ⟨⟨h33, z33⟩, hc9, hrun⟩ := m_bind hrun
    refine mr_callv (mr_runI (As := []) (rest := [.ref z, .int v1, .ref x25]) hx hb hml hown hts (c_X3_init l D ids st (z + 1) hc9) yk_X3_init ys_X3_init rfl wm_0_143 ⟨(Nat.le_of_ble_eq_true rfl), (Nat.le_of_ble_eq_true rfl)⟩ (mr_recvS hR hE hz hS hA) hl.1 rfl (Nat.le_of_ble_eq_true rfl) dX2_init_33 ⟨(Nat.le_of_ble_eq_true rfl), (Nat.le_of_ble_eq_true rfl)⟩) hR hz hS hA (fun H locs hR hz hS => ?_)
    obtain ⟨h36, hc9, hrun⟩ := m_bind hrun
    refine mr_aast hx hb hR hz hS hc9 dX2_init_36 (fun H locs hR hz hS => ?_)
    refine lv_iinc (v := v1 + 1) (lv' := [(1, .int (v1 + 1)), (0, .ref v0)]) hx hb dX2_init_37 hl (k := 1) rfl rfl (by decide) rfl (fun ls hl => ?_)
    refine lv_goto (tgt := 15) hx hb dX2_init_40 (by decide) ?_
    exact k_X2_init_L15_1 hx hb hr hml hown hts hlocks hin hE hA _ _ _ _ _ _ _ hrun hR hz hS (lv_sub hl [1, 0] rfl)
set_option maxRecDepth 100000 in
set_option maxHeartbeats 4000000 in
theorem c_X2_init (l : Launch) (D : va_G) (ids : m_I3) (st : m_T) (z : Nat) {h : mH} {v0 : Nat} {hF : mH} {zF : Nat} (hrun : s_X2_init st h z v0 = some (hF, zF)) : Met l yX2_init (m_ws yX2_init cX2_init 2 (none)) rm_X2_init (mPc D ids st [.ref v0] h z) (mQv D ids (m_A h z) hF zF) rm_X2_init.cells rm_X2_init.slots (m_A h z) := by
  refine mr_of (cc := cX2_init) (maxL := 2) (ret := none) (by decide) rfl (Nat.le_of_ble_eq_true rfl) ?_
  intro p e s m below meth c ls hx hb hr hml hown hts hlocks hin hR hE hz hl
  have hA : ∀ q, s.heap.size ≤ q → m_A h z q := fun q hq => Or.inr (by rw [← hz]; exact hq)
  have hS : va_S (m_A h z) s.heap s.heap [] := va_S.rf
  have hl : lv_has ls 2 [(0, .ref v0)] := hl
  unfold s_X2_init at hrun
  refine lv_aload_n hx hb dX2_init_0 rfl (lv_at hl 0 rfl) ?_
  refine W.objInit hx hb hown (hts _ (m_ws_in wm_0_140)) (hts _ (m_ws_in wm_0_24)) (hts _ (m_ws_in wm_0_25)) rfl (by rw [hml]; exact hl.1) rfl dX2_init_1 (Nat.le_of_ble_eq_true rfl) (Nat.le_of_ble_eq_true rfl) ?_
  refine W.eq (g2 := F0 m 4 ls []) rfl ?_
  refine lv_aload_n hx hb dX2_init_4 rfl (lv_at hl 0 rfl) ?_
  refine lv_bipush (v := 6) hx hb dX2_init_5 (by decide) ?_
  obtain ⟨h7, hc9, hrun⟩ := m_bind hrun
  refine mr_newr (N := 6) hx hb hown (hts _ (m_ws_in wm_0_141)) hE hR hz hS hA (by decide) (by decide) (Nat.le_of_ble_eq_true rfl) (Nat.le_of_ble_eq_true rfl) (Nat.le_of_ble_eq_true rfl) dX2_init_7 (fun H hR hz hS => ?_)
  rw [Option.some.inj hc9] at hR
  obtain ⟨h10, hc9, hrun⟩ := m_bind hrun
  refine mr_putF (C := RX2) (T := TX2) (N := 3) (ci := 1) hx hb hts (fun w q => m_ws_in (wi_X2 w q)) tyX2 tyX2_ok nmX2 hown hR hz hS rfl 0 (by decide) (hts _ (m_ws_in wm_0_144)) (fun _ h9 => h9) rfl hin rfl (tyX2_ok 0 (by decide)) rfl rfl hc9 dX2_init_10 (fun H locs hR hz hS => ?_)
  refine lv_iconst (v := 0) hx hb dX2_init_13 (by decide) ?_
  refine lv_istore_n (lv' := [(1, .int 0), (0, .ref v0)]) hx hb dX2_init_14 rfl hl (by decide) rfl (fun ls hl => ?_)
  exact k_X2_init_L15_0 hx hb hr hml hown hts hlocks hin hE hA _ _ _ _ _ _ _ hrun hR hz hS (lv_sub hl [1, 0] rfl)
/-! X6_init -/
abbrev rm_X6_init : Room := { frames := 1, cells := 1, slots := 10, locals := 20 }
theorem yk_X6_init : m_K yX6_init cX6_init 1 (none) 0 := ⟨wm_0_161, wm_0_7, by decide +kernel⟩
theorem ys_X6_init : Cond.instanceMethod yX6_init ∈ wT := wm_0_160
set_option maxRecDepth 100000 in
set_option maxHeartbeats 4000000 in
theorem c_X6_init (l : Launch) (D : va_G) (ids : m_I3) (st : m_T) (z : Nat) {h : mH} {v0 : Nat} {hF : mH} {zF : Nat} (hrun : s_X6_init h z v0 = some (hF, zF)) : Met l yX6_init (m_ws yX6_init cX6_init 1 (none)) rm_X6_init (mPc D ids st [.ref v0] h z) (mQv D ids (m_A h z) hF zF) rm_X6_init.cells rm_X6_init.slots (m_A h z) := by
  refine mr_of (cc := cX6_init) (maxL := 1) (ret := none) (by decide) rfl (Nat.le_of_ble_eq_true rfl) ?_
  intro p e s m below meth c ls hx hb hr hml hown hts hlocks hin hR hE hz hl
  have hA : ∀ q, s.heap.size ≤ q → m_A h z q := fun q hq => Or.inr (by rw [← hz]; exact hq)
  have hS : va_S (m_A h z) s.heap s.heap [] := va_S.rf
  have hl : lv_has ls 1 [(0, .ref v0)] := hl
  unfold s_X6_init at hrun
  refine lv_aload_n hx hb dX6_init_0 rfl (lv_at hl 0 rfl) ?_
  refine W.objInit hx hb hown (hts _ (m_ws_in wm_0_162)) (hts _ (m_ws_in wm_0_24)) (hts _ (m_ws_in wm_0_25)) rfl (by rw [hml]; exact hl.1) rfl dX6_init_1 (Nat.le_of_ble_eq_true rfl) (Nat.le_of_ble_eq_true rfl) ?_
  refine W.eq (g2 := F0 m 4 ls []) rfl ?_
  refine lv_aload_n hx hb dX6_init_4 rfl (lv_at hl 0 rfl) ?_
  refine lv_bipush (v := 10) hx hb dX6_init_5 (by decide) ?_
  obtain ⟨h7, hc9, hrun⟩ := m_bind hrun
  refine mr_newi (N := 10) hx hb (hts _ (m_ws_in wm_0_47)) hR hz hS hA (by decide) (by decide) (Nat.le_of_ble_eq_true rfl) (Nat.le_of_ble_eq_true rfl) (Nat.le_of_ble_eq_true rfl) dX6_init_7 (fun H hR hz hS => ?_)
  rw [Option.some.inj hc9] at hR
  obtain ⟨h9, hc9, hrun⟩ := m_bind hrun
  refine mr_putF (C := RX6) (T := TX6) (N := 8) (ci := 4) hx hb hts (fun w q => m_ws_in (wi_X6 w q)) tyX6 tyX6_ok nmX6 hown hR hz hS rfl 0 (by decide) (hts _ (m_ws_in wm_0_163)) (fun _ h9 => h9) rfl hin rfl (tyX6_ok 0 (by decide)) rfl rfl hc9 dX6_init_9 (fun H locs hR hz hS => ?_)
  refine lv_aload_n hx hb dX6_init_12 rfl (lv_at hl 0 rfl) ?_
  refine lv_iconst (v := 0) hx hb dX6_init_13 (by decide) ?_
  obtain ⟨h14, hc9, hrun⟩ := m_bind hrun
  refine mr_put (C := RX6) (T := TX6) (N := 8) (ci := 4) hx hb hts (fun w q => m_ws_in (wi_X6 w q)) tyX6 tyX6_ok nmX6 hown hR hz hS rfl 1 (by decide) (hts _ (m_ws_in wm_0_165)) (fun _ h9 => h9) rfl (tyX6_ok 1 (by decide)) rfl rfl hc9 dX6_init_14 (fun H locs hR hz hS => ?_)
  refine lv_aload_n hx hb dX6_init_17 rfl (lv_at hl 0 rfl) ?_
  refine lv_iconst (v := 0) hx hb dX6_init_18 (by decide) ?_
  obtain ⟨h19, hc9, hrun⟩ := m_bind hrun
  refine mr_put (C := RX6) (T := TX6) (N := 8) (ci := 4) hx hb hts (fun w q => m_ws_in (wi_X6 w q)) tyX6 tyX6_ok nmX6 hown hR hz hS rfl 2 (by decide) (hts _ (m_ws_in wm_0_167)) (fun _ h9 => h9) rfl (tyX6_ok 2 (by decide)) rfl rfl hc9 dX6_init_19 (fun H locs hR hz hS => ?_)
  refine lv_aload_n hx hb dX6_init_22 rfl (lv_at hl 0 rfl) ?_
  refine lv_iconst (v := 0) hx hb dX6_init_23 (by decide) ?_
  obtain ⟨h24, hc9, hrun⟩ := m_bind hrun
  refine mr_put (C := RX6) (T := TX6) (N := 8) (ci := 4) hx hb hts (fun w q => m_ws_in (wi_X6 w q)) tyX6 tyX6_ok nmX6 hown hR hz hS rfl 3 (by decide) (hts _ (m_ws_in wm_0_168)) (fun _ h9 => h9) rfl (tyX6_ok 3 (by decide)) rfl rfl hc9 dX6_init_24 (fun H locs hR hz hS => ?_)
  refine lv_aload_n hx hb dX6_init_27 rfl (lv_at hl 0 rfl) ?_
  refine lv_iconst (v := 0) hx hb dX6_init_28 (by decide) ?_
  obtain ⟨h29, hc9, hrun⟩ := m_bind hrun
  refine mr_put (C := RX6) (T := TX6) (N := 8) (ci := 4) hx hb hts (fun w q => m_ws_in (wi_X6 w q)) tyX6 tyX6_ok nmX6 hown hR hz hS rfl 4 (by decide) (hts _ (m_ws_in wm_0_169)) (fun _ h9 => h9) rfl (tyX6_ok 4 (by decide)) rfl rfl hc9 dX6_init_29 (fun H locs hR hz hS => ?_)
  refine lv_aload_n hx hb dX6_init_32 rfl (lv_at hl 0 rfl) ?_
  refine lv_iconst (v := 0) hx hb dX6_init_33 (by decide) ?_
  obtain ⟨h34, hc9, hrun⟩ := m_bind hrun
  refine mr_put (C := RX6) (T := TX6) (N := 8) (ci := 4) hx hb hts (fun w q => m_ws_in (wi_X6 w q)) tyX6 tyX6_ok nmX6 hown hR hz hS rfl 5 (by decide) (hts _ (m_ws_in wm_0_170)) (fun _ h9 => h9) rfl (tyX6_ok 5 (by decide)) rfl rfl hc9 dX6_init_34 (fun H locs hR hz hS => ?_)
  refine lv_aload_n hx hb dX6_init_37 rfl (lv_at hl 0 rfl) ?_
  refine lv_iconst (v := 0) hx hb dX6_init_38 (by decide) ?_
  obtain ⟨h39, hc9, hrun⟩ := m_bind hrun
  refine mr_put (C := RX6) (T := TX6) (N := 8) (ci := 4) hx hb hts (fun w q => m_ws_in (wi_X6 w q)) tyX6 tyX6_ok nmX6 hown hR hz hS rfl 6 (by decide) (hts _ (m_ws_in wm_0_171)) (fun _ h9 => h9) rfl (tyX6_ok 6 (by decide)) rfl rfl hc9 dX6_init_39 (fun H locs hR hz hS => ?_)
  refine lv_aload_n hx hb dX6_init_42 rfl (lv_at hl 0 rfl) ?_
  refine lv_iconst (v := 0) hx hb dX6_init_43 (by decide) ?_
  obtain ⟨_, hz9, hrun⟩ := m_bind hrun
  obtain ⟨h44, hc9, hrun⟩ := m_bind hrun
  refine mr_put (C := RX6) (T := TX6) (N := 8) (ci := 4) hx hb hts (fun w q => m_ws_in (wi_X6 w q)) tyX6 tyX6_ok nmX6 hown hR hz hS rfl 7 (by decide) (hts _ (m_ws_in wm_0_172)) (fun _ h9 => h9) rfl (tyX6_ok 7 (by decide)) (m_z_spec hz9).2 (m_z_fit hz9) hc9 dX6_init_44 (fun H locs hR hz hS => ?_)
  obtain ⟨rfl, rfl⟩ := Prod.mk.inj (Option.some.inj hrun)
  refine W.widen (k := 1) (n := 10) (Nat.le_of_ble_eq_true rfl) (Nat.le_of_ble_eq_true rfl) ?_
  exact mr_vret hx hb hr hlocks hR hz hS dX6_init_47
/-! X7_init -/
abbrev rm_X7_init : Room := { frames := 4, cells := 95, slots := 2640, locals := 91 }
theorem yk_X7_init : m_K yX7_init cX7_init 1 (none) 0 := ⟨wm_0_22, wm_0_1, by decide +kernel⟩
theorem ys_X7_init : Cond.instanceMethod yX7_init ∈ wT := wm_0_21
set_option maxRecDepth 100000 in
set_option maxHeartbeats 4000000 in
theorem c_X7_init (l : Launch) (D : va_G) (ids : m_I3) (st : m_T) (z : Nat) {h : mH} {v0 : Nat} {hF : mH} {zF : Nat} (hrun : s_X7_init st h z v0 = some (hF, zF)) : Met l yX7_init (m_ws yX7_init cX7_init 1 (none)) rm_X7_init (mPc D ids st [.ref v0] h z) (mQv D ids (m_A h z) hF zF) rm_X7_init.cells rm_X7_init.slots (m_A h z) := by
  refine mr_of (cc := cX7_init) (maxL := 1) (ret := none) (by decide) rfl (Nat.le_of_ble_eq_true rfl) ?_
  intro p e s m below meth c ls hx hb hr hml hown hts hlocks hin hR hE hz hl
  have hA : ∀ q, s.heap.size ≤ q → m_A h z q := fun q hq => Or.inr (by rw [← hz]; exact hq)
  have hS : va_S (m_A h z) s.heap s.heap [] := va_S.rf
  have hl : lv_has ls 1 [(0, .ref v0)] := hl
  unfold s_X7_init at hrun
  refine lv_aload_n hx hb dX7_init_0 rfl (lv_at hl 0 rfl) ?_
  refine W.objInit hx hb hown (hts _ (m_ws_in wm_0_23)) (hts _ (m_ws_in wm_0_24)) (hts _ (m_ws_in wm_0_25)) rfl (by rw [hml]; exact hl.1) rfl dX7_init_1 (Nat.le_of_ble_eq_true rfl) (Nat.le_of_ble_eq_true rfl) ?_
  refine W.eq (g2 := F0 m 4 ls []) rfl ?_
  refine lv_aload_n hx hb dX7_init_4 rfl (lv_at hl 0 rfl) ?_
  obtain ⟨h5, hc9, hrun⟩ := m_bind hrun
  refine mr_new (C := RX3) (T := TX3) (N := 10) (ci := 2) (fs := [.null, .null, .null, .null, .null, .null, .null, .int 0, .int 0, .int 0]) hx hb hts (fun w q => m_ws_in (wi_X3 w q)) tyX3 tyX3_ok hown (hts _ (m_ws_in wm_0_26)) (hts _ (m_ws_in wm_0_27)) (hts _ (m_ws_in wm_0_2)) hR hz hS hA rfl (fun j hj => by rcases (show j = 0 ∨ j = 1 ∨ j = 2 ∨ j = 3 ∨ j = 4 ∨ j = 5 ∨ j = 6 ∨ j = 7 ∨ j = 8 ∨ j = 9 by omega) with rfl | rfl | rfl | rfl | rfl | rfl | rfl | rfl | rfl | rfl <;> rfl) (Nat.le_of_ble_eq_true rfl) (Nat.le_of_ble_eq_true rfl) dX7_init_5 (fun H hR hz hS => ?_)
  rw [Option.some.inj hc9] at hR
  refine lv_dup hx hb dX7_init_8 rfl ?_
  obtain ⟨⟨h9, z9⟩, hc9, hrun⟩ := m_bind hrun
  refine mr_callv (mr_runI (As := []) (rest := [.ref z, .ref v0]) hx hb hml hown hts (c_X3_init l D ids st (z + 1) hc9) yk_X3_init ys_X3_init rfl wm_0_28 ⟨(Nat.le_of_ble_eq_true rfl), (Nat.le_of_ble_eq_true rfl)⟩ (mr_recvS hR hE hz hS hA) hl.1 rfl (Nat.le_of_ble_eq_true rfl) dX7_init_9 ⟨(Nat.le_of_ble_eq_true rfl), (Nat.le_of_ble_eq_true rfl)⟩) hR hz hS hA (fun H locs hR hz hS => ?_)
  obtain ⟨h12, hc9, hrun⟩ := m_bind hrun
  refine mr_putF (C := RX7) (T := TX7) (N := 8) (ci := 5) hx hb hts (fun w q => m_ws_in (wi_X7 w q)) tyX7 tyX7_ok nmX7 hown hR hz hS rfl 0 (by decide) (hts _ (m_ws_in wm_1_11)) (fun _ h9 => h9) rfl hin rfl (tyX7_ok 0 (by decide)) rfl rfl hc9 dX7_init_12 (fun H locs hR hz hS => ?_)
  refine lv_aload_n hx hb dX7_init_15 rfl (lv_at hl 0 rfl) ?_
  obtain ⟨h16, hc9, hrun⟩ := m_bind hrun
  refine mr_new (C := RX0) (T := TX0) (N := 9) (ci := 0) (fs := [.null, .null, .null, .null, .null, .null, .null, .int 0, .int 0]) hx hb hts (fun w q => m_ws_in (wi_X0 w q)) tyX0 tyX0_ok hown (hts _ (m_ws_in wm_0_95)) (hts _ (m_ws_in wm_0_96)) (hts _ (m_ws_in wm_0_5)) hR hz hS hA rfl (fun j hj => by rcases (show j = 0 ∨ j = 1 ∨ j = 2 ∨ j = 3 ∨ j = 4 ∨ j = 5 ∨ j = 6 ∨ j = 7 ∨ j = 8 by omega) with rfl | rfl | rfl | rfl | rfl | rfl | rfl | rfl | rfl <;> rfl) (Nat.le_of_ble_eq_true rfl) (Nat.le_of_ble_eq_true rfl) dX7_init_16 (fun H hR hz hS => ?_)
  rw [Option.some.inj hc9] at hR
  refine lv_dup hx hb dX7_init_19 rfl ?_
  obtain ⟨⟨h20, z20⟩, hc9, hrun⟩ := m_bind hrun
  refine mr_callv (mr_runI (As := []) (rest := [.ref z9, .ref v0]) hx hb hml hown hts (c_X0_init l D ids st (z9 + 1) hc9) yk_X0_init ys_X0_init rfl wm_0_97 ⟨(Nat.le_of_ble_eq_true rfl), (Nat.le_of_ble_eq_true rfl)⟩ (mr_recvS hR hE hz hS hA) hl.1 rfl (Nat.le_of_ble_eq_true rfl) dX7_init_20 ⟨(Nat.le_of_ble_eq_true rfl), (Nat.le_of_ble_eq_true rfl)⟩) hR hz hS hA (fun H locs hR hz hS => ?_)
  obtain ⟨h23, hc9, hrun⟩ := m_bind hrun
  refine mr_putF (C := RX7) (T := TX7) (N := 8) (ci := 5) hx hb hts (fun w q => m_ws_in (wi_X7 w q)) tyX7 tyX7_ok nmX7 hown hR hz hS rfl 1 (by decide) (hts _ (m_ws_in wm_1_12)) (fun _ h9 => h9) rfl hin rfl (tyX7_ok 1 (by decide)) rfl rfl hc9 dX7_init_23 (fun H locs hR hz hS => ?_)
  refine lv_aload_n hx hb dX7_init_26 rfl (lv_at hl 0 rfl) ?_
  obtain ⟨h27, hc9, hrun⟩ := m_bind hrun
  refine mr_new (C := RX2) (T := TX2) (N := 3) (ci := 1) (fs := [.null, .int 0, .int 0]) hx hb hts (fun w q => m_ws_in (wi_X2 w q)) tyX2 tyX2_ok hown (hts _ (m_ws_in wm_0_135)) (hts _ (m_ws_in wm_0_136)) (hts _ (m_ws_in wm_0_6)) hR hz hS hA rfl (fun j hj => by rcases (show j = 0 ∨ j = 1 ∨ j = 2 by omega) with rfl | rfl | rfl <;> rfl) (Nat.le_of_ble_eq_true rfl) (Nat.le_of_ble_eq_true rfl) dX7_init_27 (fun H hR hz hS => ?_)
  rw [Option.some.inj hc9] at hR
  refine lv_dup hx hb dX7_init_30 rfl ?_
  obtain ⟨⟨h31, z31⟩, hc9, hrun⟩ := m_bind hrun
  refine mr_callv (mr_runI (As := []) (rest := [.ref z20, .ref v0]) hx hb hml hown hts (c_X2_init l D ids st (z20 + 1) hc9) yk_X2_init ys_X2_init rfl wm_0_137 ⟨(Nat.le_of_ble_eq_true rfl), (Nat.le_of_ble_eq_true rfl)⟩ (mr_recvS hR hE hz hS hA) hl.1 rfl (Nat.le_of_ble_eq_true rfl) dX7_init_31 ⟨(Nat.le_of_ble_eq_true rfl), (Nat.le_of_ble_eq_true rfl)⟩) hR hz hS hA (fun H locs hR hz hS => ?_)
  obtain ⟨h34, hc9, hrun⟩ := m_bind hrun
  refine mr_putF (C := RX7) (T := TX7) (N := 8) (ci := 5) hx hb hts (fun w q => m_ws_in (wi_X7 w q)) tyX7 tyX7_ok nmX7 hown hR hz hS rfl 2 (by decide) (hts _ (m_ws_in wm_1_13)) (fun _ h9 => h9) rfl hin rfl (tyX7_ok 2 (by decide)) rfl rfl hc9 dX7_init_34 (fun H locs hR hz hS => ?_)
  refine lv_aload_n hx hb dX7_init_37 rfl (lv_at hl 0 rfl) ?_
  obtain ⟨h38, hc9, hrun⟩ := m_bind hrun
  refine mr_new (C := RX5) (T := TX5) (N := 2) (ci := 3) (fs := [.null, .int 0]) hx hb hts (fun w q => m_ws_in (wi_X5 w q)) tyX5 tyX5_ok hown (hts _ (m_ws_in wm_0_155)) (hts _ (m_ws_in wm_0_33)) (hts _ (m_ws_in wm_0_3)) hR hz hS hA rfl (fun j hj => by rcases (show j = 0 ∨ j = 1 by omega) with rfl | rfl <;> rfl) (Nat.le_of_ble_eq_true rfl) (Nat.le_of_ble_eq_true rfl) dX7_init_38 (fun H hR hz hS => ?_)
  rw [Option.some.inj hc9] at hR
  refine lv_dup hx hb dX7_init_41 rfl ?_
  obtain ⟨⟨h42, z42⟩, hc9, hrun⟩ := m_bind hrun
  refine mr_callv (mr_runI (As := []) (rest := [.ref z31, .ref v0]) hx hb hml hown hts (c_X5_init l D ids st (z31 + 1) hc9) yk_X5_init ys_X5_init rfl wm_0_156 ⟨(Nat.le_of_ble_eq_true rfl), (Nat.le_of_ble_eq_true rfl)⟩ (mr_recvS hR hE hz hS hA) hl.1 rfl (Nat.le_of_ble_eq_true rfl) dX7_init_42 ⟨(Nat.le_of_ble_eq_true rfl), (Nat.le_of_ble_eq_true rfl)⟩) hR hz hS hA (fun H locs hR hz hS => ?_)
  obtain ⟨h45, hc9, hrun⟩ := m_bind hrun
  refine mr_putF (C := RX7) (T := TX7) (N := 8) (ci := 5) hx hb hts (fun w q => m_ws_in (wi_X7 w q)) tyX7 tyX7_ok nmX7 hown hR hz hS rfl 3 (by decide) (hts _ (m_ws_in wm_1_14)) (fun _ h9 => h9) rfl hin rfl (tyX7_ok 3 (by decide)) rfl rfl hc9 dX7_init_45 (fun H locs hR hz hS => ?_)
  refine lv_aload_n hx hb dX7_init_48 rfl (lv_at hl 0 rfl) ?_
  obtain ⟨h49, hc9, hrun⟩ := m_bind hrun
  refine mr_new (C := RX0) (T := TX0) (N := 9) (ci := 0) (fs := [.null, .null, .null, .null, .null, .null, .null, .int 0, .int 0]) hx hb hts (fun w q => m_ws_in (wi_X0 w q)) tyX0 tyX0_ok hown (hts _ (m_ws_in wm_0_95)) (hts _ (m_ws_in wm_0_96)) (hts _ (m_ws_in wm_0_5)) hR hz hS hA rfl (fun j hj => by rcases (show j = 0 ∨ j = 1 ∨ j = 2 ∨ j = 3 ∨ j = 4 ∨ j = 5 ∨ j = 6 ∨ j = 7 ∨ j = 8 by omega) with rfl | rfl | rfl | rfl | rfl | rfl | rfl | rfl | rfl <;> rfl) (Nat.le_of_ble_eq_true rfl) (Nat.le_of_ble_eq_true rfl) dX7_init_49 (fun H hR hz hS => ?_)
  rw [Option.some.inj hc9] at hR
  refine lv_dup hx hb dX7_init_52 rfl ?_
  obtain ⟨⟨h53, z53⟩, hc9, hrun⟩ := m_bind hrun
  refine mr_callv (mr_runI (As := []) (rest := [.ref z42, .ref v0]) hx hb hml hown hts (c_X0_init l D ids st (z42 + 1) hc9) yk_X0_init ys_X0_init rfl wm_0_97 ⟨(Nat.le_of_ble_eq_true rfl), (Nat.le_of_ble_eq_true rfl)⟩ (mr_recvS hR hE hz hS hA) hl.1 rfl (Nat.le_of_ble_eq_true rfl) dX7_init_53 ⟨(Nat.le_of_ble_eq_true rfl), (Nat.le_of_ble_eq_true rfl)⟩) hR hz hS hA (fun H locs hR hz hS => ?_)
  obtain ⟨h56, hc9, hrun⟩ := m_bind hrun
  refine mr_putF (C := RX7) (T := TX7) (N := 8) (ci := 5) hx hb hts (fun w q => m_ws_in (wi_X7 w q)) tyX7 tyX7_ok nmX7 hown hR hz hS rfl 4 (by decide) (hts _ (m_ws_in wm_1_15)) (fun _ h9 => h9) rfl hin rfl (tyX7_ok 4 (by decide)) rfl rfl hc9 dX7_init_56 (fun H locs hR hz hS => ?_)
  refine lv_aload_n hx hb dX7_init_59 rfl (lv_at hl 0 rfl) ?_
  refine lv_bipush (v := 60) hx hb dX7_init_60 (by decide) ?_
  obtain ⟨h62, hc9, hrun⟩ := m_bind hrun
  refine mr_newi (N := 60) hx hb (hts _ (m_ws_in wm_0_47)) hR hz hS hA (by decide) (by decide) (Nat.le_of_ble_eq_true rfl) (Nat.le_of_ble_eq_true rfl) (Nat.le_of_ble_eq_true rfl) dX7_init_62 (fun H hR hz hS => ?_)
  rw [Option.some.inj hc9] at hR
  obtain ⟨h64, hc9, hrun⟩ := m_bind hrun
  refine mr_putF (C := RX7) (T := TX7) (N := 8) (ci := 5) hx hb hts (fun w q => m_ws_in (wi_X7 w q)) tyX7 tyX7_ok nmX7 hown hR hz hS rfl 5 (by decide) (hts _ (m_ws_in wm_1_16)) (fun _ h9 => h9) rfl hin rfl (tyX7_ok 5 (by decide)) rfl rfl hc9 dX7_init_64 (fun H locs hR hz hS => ?_)
  refine lv_aload_n hx hb dX7_init_67 rfl (lv_at hl 0 rfl) ?_
  refine lv_iconst (v := 0) hx hb dX7_init_68 (by decide) ?_
  obtain ⟨h69, hc9, hrun⟩ := m_bind hrun
  refine mr_put (C := RX7) (T := TX7) (N := 8) (ci := 5) hx hb hts (fun w q => m_ws_in (wi_X7 w q)) tyX7 tyX7_ok nmX7 hown hR hz hS rfl 6 (by decide) (hts _ (m_ws_in wm_1_17)) (fun _ h9 => h9) rfl (tyX7_ok 6 (by decide)) rfl rfl hc9 dX7_init_69 (fun H locs hR hz hS => ?_)
  refine lv_aload_n hx hb dX7_init_72 rfl (lv_at hl 0 rfl) ?_
  obtain ⟨h73, hc9, hrun⟩ := m_bind hrun
  refine mr_new (C := RX6) (T := TX6) (N := 8) (ci := 4) (fs := [.null, .int 0, .int 0, .int 0, .int 0, .int 0, .int 0, .int 0]) hx hb hts (fun w q => m_ws_in (wi_X6 w q)) tyX6 tyX6_ok hown (hts _ (m_ws_in wm_0_157)) (hts _ (m_ws_in wm_0_158)) (hts _ (m_ws_in wm_0_7)) hR hz hS hA rfl (fun j hj => by rcases (show j = 0 ∨ j = 1 ∨ j = 2 ∨ j = 3 ∨ j = 4 ∨ j = 5 ∨ j = 6 ∨ j = 7 by omega) with rfl | rfl | rfl | rfl | rfl | rfl | rfl | rfl <;> rfl) (Nat.le_of_ble_eq_true rfl) (Nat.le_of_ble_eq_true rfl) dX7_init_73 (fun H hR hz hS => ?_)
  rw [Option.some.inj hc9] at hR
  refine lv_dup hx hb dX7_init_76 rfl ?_
  obtain ⟨⟨h77, z77⟩, hc9, hrun⟩ := m_bind hrun
  refine mr_callv (mr_runI (As := []) (rest := [.ref (z53 + 1), .ref v0]) hx hb hml hown hts (c_X6_init l D ids st (z53 + 1 + 1) hc9) yk_X6_init ys_X6_init rfl wm_0_159 ⟨(Nat.le_of_ble_eq_true rfl), (Nat.le_of_ble_eq_true rfl)⟩ (mr_recvS hR hE hz hS hA) hl.1 rfl (Nat.le_of_ble_eq_true rfl) dX7_init_77 ⟨(Nat.le_of_ble_eq_true rfl), (Nat.le_of_ble_eq_true rfl)⟩) hR hz hS hA (fun H locs hR hz hS => ?_)
  obtain ⟨h80, hc9, hrun⟩ := m_bind hrun
  refine mr_putF (C := RX7) (T := TX7) (N := 8) (ci := 5) hx hb hts (fun w q => m_ws_in (wi_X7 w q)) tyX7 tyX7_ok nmX7 hown hR hz hS rfl 7 (by decide) (hts _ (m_ws_in wm_1_18)) (fun _ h9 => h9) rfl hin rfl (tyX7_ok 7 (by decide)) rfl rfl hc9 dX7_init_80 (fun H locs hR hz hS => ?_)
  refine lv_aload_n hx hb dX7_init_83 rfl (lv_at hl 0 rfl) ?_
  obtain ⟨x84, hc9, hrun⟩ := m_bind hrun
  refine mr_get (C := RX7) (T := TX7) (N := 8) (ci := 5) hx hb hts (fun w q => m_ws_in (wi_X7 w q)) hown hR rfl 1 (by decide) (hts _ (m_ws_in wm_1_12)) (fun _ h9 => h9) (m_gr_spec hc9) dX7_init_84 ?_
  refine lv_aload_n hx hb dX7_init_87 rfl (lv_at hl 0 rfl) ?_
  obtain ⟨x88, hc9, hrun⟩ := m_bind hrun
  refine mr_get (C := RX7) (T := TX7) (N := 8) (ci := 5) hx hb hts (fun w q => m_ws_in (wi_X7 w q)) hown hR rfl 0 (by decide) (hts _ (m_ws_in wm_1_11)) (fun _ h9 => h9) (m_gr_spec hc9) dX7_init_88 ?_
  obtain ⟨x91, hc9, hrun⟩ := m_bind hrun
  refine mr_getN (C := RX3) (T := TX3) (N := 10) (ci := 2) hx hb hts (fun w q => m_ws_in (wi_X3 w q)) hown hR rfl 0 (by decide) (hE.nf (i := 3) rfl) (fun _ h9 => h9) (m_gr_spec hc9) dX7_init_91 ?_
  refine lv_aload_n hx hb dX7_init_94 rfl (lv_at hl 0 rfl) ?_
  obtain ⟨x95, hc9, hrun⟩ := m_bind hrun
  refine mr_get (C := RX7) (T := TX7) (N := 8) (ci := 5) hx hb hts (fun w q => m_ws_in (wi_X7 w q)) hown hR rfl 0 (by decide) (hts _ (m_ws_in wm_1_11)) (fun _ h9 => h9) (m_gr_spec hc9) dX7_init_95 ?_
  obtain ⟨x98, hc9, hrun⟩ := m_bind hrun
  refine mr_getN (C := RX3) (T := TX3) (N := 10) (ci := 2) hx hb hts (fun w q => m_ws_in (wi_X3 w q)) hown hR rfl 1 (by decide) (hE.nf (i := 4) rfl) (fun _ h9 => h9) (m_gr_spec hc9) dX7_init_98 ?_
  obtain ⟨_, ho9, hrun⟩ := m_bind hrun
  obtain ⟨fs9, ho9⟩ := m_is_spec ho9
  obtain ⟨h101, hc9, hrun⟩ := m_bind hrun
  refine mr_callv (mr_runV (As := [.ref x91, .ref x98]) (rest := []) hx hb hml hown hts (c_X0_readFrom l D ids st z77 hc9) yk_X0_readFrom ys_X0_readFrom wm_0_190 ⟨(Nat.le_of_ble_eq_true rfl), (Nat.le_of_ble_eq_true rfl)⟩ (mr_recv (ci := 0) hR hE hz hS hA rfl ho9) hl.1 rfl (Nat.le_of_ble_eq_true rfl) dX7_init_101 ⟨(Nat.le_of_ble_eq_true rfl), (Nat.le_of_ble_eq_true rfl)⟩) hR hz hS hA (fun H locs hR hz hS => ?_)
  obtain ⟨rfl, rfl⟩ := Prod.mk.inj (Option.some.inj hrun)
  refine W.widen (k := 95) (n := 2640) (Nat.le_of_ble_eq_true rfl) (Nat.le_of_ble_eq_true rfl) ?_
  exact mr_vret hx hb hr hlocks hR hz hS dX7_init_104
/-! X2_slot -/
abbrev rm_X2_slot : Room := { frames := 0, cells := 0, slots := 0, locals := 0 }
theorem yk_X2_slot : m_K yX2_slot cX2_slot 2 (some (.object "CapWallets$State")) 1 := ⟨wm_2_80, wm_0_6, by decide +kernel⟩
theorem ys_X2_slot : Cond.instanceMethod yX2_slot ∈ wT ∧ Cond.selects RX2 yX2_slot yX2_slot ∈ wT := ⟨wm_2_79, wp_1_2⟩
set_option maxRecDepth 100000 in
set_option maxHeartbeats 4000000 in
theorem k_X2_slot_b23 {p : Program} {l : Launch} {e : Env} {s : State} {m : MethodId} {args : Array Value} {below : List Frame} {meth : Method} {c : Code} {D : va_G} {ids : m_I3} {st : m_T} {A : Nat → Prop} {z : Nat} {r : Option Nat} (hx : p.tables.exec = Jvm.exec) (hb : c.code = cX2_slot) (hr : meth.sig.returnType = some (.object "CapWallets$State")) (hml : c.maxLocals = 2) (hown : s.vm.findClass RX2 = some m.cls) (hts : ∀ w ∈ (m_ws yX2_slot cX2_slot 2 (some (.object "CapWallets$State"))), w.before args s = true) (hlocks : meth.locks = false) (hin : meth.name = yX2_slot.name) (hE : m_EV st A s s.heap) (hA : ∀ q, s.heap.size ≤ q → A q) {h : mH} (t0 : Option Nat) (H : Heap) (locs : List Loc) (ls : Array Slot) (hrun : s_X2_slot_b23 h t0 = some r) (hR : Rl D ids A h s H) (hz : H.size = z) (hS : va_S A s.heap H locs) (hl : lv_has ls 2 []) : W p l e rm_X2_slot s m args below meth c H locs 0 0 (MQ below (mQq D ids A r h z) args s 0 0 A) (F0 m 23 ls [va_rf t0]) := by
  unfold s_X2_slot_b23 at hrun
  obtain rfl := Option.some.inj hrun
  exact mr_qret hx hb hr hlocks hR hz hS dX2_slot_23
set_option maxRecDepth 100000 in
set_option maxHeartbeats 4000000 in
theorem k_X2_slot_b22 {p : Program} {l : Launch} {e : Env} {s : State} {m : MethodId} {args : Array Value} {below : List Frame} {meth : Method} {c : Code} {D : va_G} {ids : m_I3} {st : m_T} {A : Nat → Prop} {z : Nat} {r : Option Nat} (hx : p.tables.exec = Jvm.exec) (hb : c.code = cX2_slot) (hr : meth.sig.returnType = some (.object "CapWallets$State")) (hml : c.maxLocals = 2) (hown : s.vm.findClass RX2 = some m.cls) (hts : ∀ w ∈ (m_ws yX2_slot cX2_slot 2 (some (.object "CapWallets$State"))), w.before args s = true) (hlocks : meth.locks = false) (hin : meth.name = yX2_slot.name) (hE : m_EV st A s s.heap) (hA : ∀ q, s.heap.size ≤ q → A q) {h : mH} (H : Heap) (locs : List Loc) (ls : Array Slot) (hrun : s_X2_slot_b22 h  = some r) (hR : Rl D ids A h s H) (hz : H.size = z) (hS : va_S A s.heap H locs) (hl : lv_has ls 2 []) : W p l e rm_X2_slot s m args below meth c H locs 0 0 (MQ below (mQq D ids A r h z) args s 0 0 A) (F0 m 22 ls []) := by
  unfold s_X2_slot_b22 at hrun
  refine lv_null hx hb dX2_slot_22 ?_
  exact k_X2_slot_b23 hx hb hr hml hown hts hlocks hin hE hA _ _ _ _ hrun hR hz hS (lv_sub hl [] rfl)
set_option maxRecDepth 100000 in
set_option maxHeartbeats 4000000 in
theorem c_X2_slot (l : Launch) (D : va_G) (ids : m_I3) (st : m_T) (z : Nat) {h : mH} {v0 : Nat} {v1 : Int32} {r : Option Nat} (hrun : s_X2_slot h v0 v1 = some r) : Met l yX2_slot (m_ws yX2_slot cX2_slot 2 (some (.object "CapWallets$State"))) rm_X2_slot (mPc D ids st [.ref v0, .int v1] h z) (mQq D ids (m_A h z) r h z) rm_X2_slot.cells rm_X2_slot.slots (m_A h z) := by
  refine mr_of (cc := cX2_slot) (maxL := 2) (ret := some (.object "CapWallets$State")) (by decide) rfl (Nat.le_of_ble_eq_true rfl) ?_
  intro p e s m below meth c ls hx hb hr hml hown hts hlocks hin hR hE hz hl
  have hA : ∀ q, s.heap.size ≤ q → m_A h z q := fun q hq => Or.inr (by rw [← hz]; exact hq)
  have hS : va_S (m_A h z) s.heap s.heap [] := va_S.rf
  have hl : lv_has ls 2 [(0, .ref v0), (1, .int v1)] := hl
  unfold s_X2_slot at hrun
  refine lv_iload_n hx hb dX2_slot_0 rfl (lv_at hl 1 rfl) ?_
  refine lv_if_lt (tgt := 22) hx hb dX2_slot_1 (by decide) (fun hc => ?_) (fun hc => ?_)
  · have hrun := mt_t hrun hc
    exact k_X2_slot_b22 hx hb hr hml hown hts hlocks hin hE hA _ _ _ hrun hR hz hS (lv_sub hl [] rfl)
  · have hrun := mt_f hrun hc
    refine lv_iload_n hx hb dX2_slot_4 rfl (lv_at hl 1 rfl) ?_
    refine lv_aload_n hx hb dX2_slot_5 rfl (lv_at hl 0 rfl) ?_
    obtain ⟨x6, hc9, hrun⟩ := m_bind hrun
    refine mr_get (C := RX2) (T := TX2) (N := 3) (ci := 1) hx hb hts (fun w q => m_ws_in (wi_X2 w q)) hown hR rfl 0 (by decide) (hts _ (m_ws_in wm_0_144)) (fun _ h9 => h9) (m_gr_spec hc9) dX2_slot_6 ?_
    obtain ⟨x9, hc9, hrun⟩ := m_bind hrun
    refine mr_alen hx hb hR hc9 dX2_slot_9 ?_
    refine lv_icmp_ge (tgt := 22) hx hb dX2_slot_10 (by decide) (fun hc => ?_) (fun hc => ?_)
    · have hrun := mt_t hrun hc
      exact k_X2_slot_b22 hx hb hr hml hown hts hlocks hin hE hA _ _ _ hrun hR hz hS (lv_sub hl [] rfl)
    · have hrun := mt_f hrun hc
      refine lv_aload_n hx hb dX2_slot_13 rfl (lv_at hl 0 rfl) ?_
      obtain ⟨x14, hc9, hrun⟩ := m_bind hrun
      refine mr_get (C := RX2) (T := TX2) (N := 3) (ci := 1) hx hb hts (fun w q => m_ws_in (wi_X2 w q)) hown hR rfl 0 (by decide) (hts _ (m_ws_in wm_0_144)) (fun _ h9 => h9) (m_gr_spec hc9) dX2_slot_14 ?_
      refine lv_iload_n hx hb dX2_slot_17 rfl (lv_at hl 1 rfl) ?_
      obtain ⟨x18, hc9, hrun⟩ := m_bind hrun
      refine mr_aald hx hb hR hc9 dX2_slot_18 ?_
      refine lv_goto (tgt := 23) hx hb dX2_slot_19 (by decide) ?_
      exact k_X2_slot_b23 hx hb hr hml hown hts hlocks hin hE hA _ _ _ _ hrun hR hz hS (lv_sub hl [] rfl)
/-! X3_copyFrom -/
abbrev rm_X3_copyFrom : Room := { frames := 2, cells := 0, slots := 0, locals := 43 }
theorem yk_X3_copyFrom : m_K yX3_copyFrom cX3_copyFrom 2 (none) 1 := ⟨wm_2_84, wm_0_2, by decide +kernel⟩
theorem ys_X3_copyFrom : Cond.instanceMethod yX3_copyFrom ∈ wT ∧ Cond.selects RX3 yX3_copyFrom yX3_copyFrom ∈ wT := ⟨wm_2_82, wm_2_83⟩
set_option maxRecDepth 100000 in
set_option maxHeartbeats 4000000 in
theorem c_X3_copyFrom (l : Launch) (D : va_G) (ids : m_I3) (st : m_T) (z : Nat) {h : mH} {v0 : Nat} {v1 : Nat} {hF : mH} (hrun : s_X3_copyFrom h v0 v1 = some hF) : Met l yX3_copyFrom (m_ws yX3_copyFrom cX3_copyFrom 2 (none)) rm_X3_copyFrom (mPc D ids st [.ref v0, .ref v1] h z) (mQv D ids (m_A h z) hF z) rm_X3_copyFrom.cells rm_X3_copyFrom.slots (m_A h z) := by
  refine mr_of (cc := cX3_copyFrom) (maxL := 2) (ret := none) (by decide) rfl (Nat.le_of_ble_eq_true rfl) ?_
  intro p e s m below meth c ls hx hb hr hml hown hts hlocks hin hR hE hz hl
  have hA : ∀ q, s.heap.size ≤ q → m_A h z q := fun q hq => Or.inr (by rw [← hz]; exact hq)
  have hS : va_S (m_A h z) s.heap s.heap [] := va_S.rf
  have hl : lv_has ls 2 [(0, .ref v0), (1, .ref v1)] := hl
  unfold s_X3_copyFrom at hrun
  refine lv_aload_n hx hb dX3_copyFrom_0 rfl (lv_at hl 0 rfl) ?_
  obtain ⟨x1, hc9, hrun⟩ := m_bind hrun
  refine mr_get (C := RX3) (T := TX3) (N := 10) (ci := 2) hx hb hts (fun w q => m_ws_in (wi_X3 w q)) hown hR rfl 0 (by decide) (hts _ (m_ws_in wm_0_56)) (fun _ h9 => h9) (m_gr_spec hc9) dX3_copyFrom_1 ?_
  refine lv_aload_n hx hb dX3_copyFrom_4 rfl (lv_at hl 1 rfl) ?_
  obtain ⟨x5, hc9, hrun⟩ := m_bind hrun
  refine mr_get (C := RX3) (T := TX3) (N := 10) (ci := 2) hx hb hts (fun w q => m_ws_in (wi_X3 w q)) hown hR rfl 0 (by decide) (hts _ (m_ws_in wm_0_56)) (fun _ h9 => h9) (m_gr_spec hc9) dX3_copyFrom_5 ?_
  obtain ⟨_, ho9, hrun⟩ := m_bind hrun
  obtain ⟨fs9, ho9⟩ := m_is_spec ho9
  obtain ⟨h8, hc9, hrun⟩ := m_bind hrun
  refine mr_callv (mr_runV (As := [.ref x5]) (rest := []) hx hb hml hown hts (c_X5_copyFrom l D ids st z hc9) yk_X5_copyFrom ys_X5_copyFrom wm_2_85 ⟨(Nat.le_of_ble_eq_true rfl), (Nat.le_of_ble_eq_true rfl)⟩ (mr_recv (ci := 3) hR hE hz hS hA rfl ho9) hl.1 rfl (Nat.le_of_ble_eq_true rfl) dX3_copyFrom_8 ⟨(Nat.le_of_ble_eq_true rfl), (Nat.le_of_ble_eq_true rfl)⟩) hR hz hS hA (fun H locs hR hz hS => ?_)
  refine lv_aload_n hx hb dX3_copyFrom_11 rfl (lv_at hl 1 rfl) ?_
  obtain ⟨x12, hc9, hrun⟩ := m_bind hrun
  refine mr_get (C := RX3) (T := TX3) (N := 10) (ci := 2) hx hb hts (fun w q => m_ws_in (wi_X3 w q)) hown hR rfl 1 (by decide) (hts _ (m_ws_in wm_0_58)) (fun _ h9 => h9) (m_gr_spec hc9) dX3_copyFrom_12 ?_
  refine lv_aload_n hx hb dX3_copyFrom_15 rfl (lv_at hl 0 rfl) ?_
  obtain ⟨x16, hc9, hrun⟩ := m_bind hrun
  refine mr_get (C := RX3) (T := TX3) (N := 10) (ci := 2) hx hb hts (fun w q => m_ws_in (wi_X3 w q)) hown hR rfl 1 (by decide) (hts _ (m_ws_in wm_0_58)) (fun _ h9 => h9) (m_gr_spec hc9) dX3_copyFrom_16 ?_
  obtain ⟨h19, hc9, hrun⟩ := m_bind hrun
  refine mr_callv (mr_runS (As := [.ref x12, .ref x16]) (rest := []) hx hb hml hown hts (c_X1_copy l D ids st z hc9) yk_X1_copy ys_X1_copy wm_0_50 ⟨(Nat.le_of_ble_eq_true rfl), (Nat.le_of_ble_eq_true rfl)⟩ (mr_recvS hR hE hz hS hA) hl.1 rfl (Nat.le_of_ble_eq_true rfl) dX3_copyFrom_19 ⟨(Nat.le_of_ble_eq_true rfl), (Nat.le_of_ble_eq_true rfl)⟩) hR hz hS hA (fun H locs hR hz hS => ?_)
  refine lv_aload_n hx hb dX3_copyFrom_22 rfl (lv_at hl 1 rfl) ?_
  obtain ⟨x23, hc9, hrun⟩ := m_bind hrun
  refine mr_get (C := RX3) (T := TX3) (N := 10) (ci := 2) hx hb hts (fun w q => m_ws_in (wi_X3 w q)) hown hR rfl 2 (by decide) (hts _ (m_ws_in wm_0_60)) (fun _ h9 => h9) (m_gr_spec hc9) dX3_copyFrom_23 ?_
  refine lv_aload_n hx hb dX3_copyFrom_26 rfl (lv_at hl 0 rfl) ?_
  obtain ⟨x27, hc9, hrun⟩ := m_bind hrun
  refine mr_get (C := RX3) (T := TX3) (N := 10) (ci := 2) hx hb hts (fun w q => m_ws_in (wi_X3 w q)) hown hR rfl 2 (by decide) (hts _ (m_ws_in wm_0_60)) (fun _ h9 => h9) (m_gr_spec hc9) dX3_copyFrom_27 ?_
  obtain ⟨h30, hc9, hrun⟩ := m_bind hrun
  refine mr_callv (mr_runS (As := [.ref x23, .ref x27]) (rest := []) hx hb hml hown hts (c_X1_copy l D ids st z hc9) yk_X1_copy ys_X1_copy wm_0_50 ⟨(Nat.le_of_ble_eq_true rfl), (Nat.le_of_ble_eq_true rfl)⟩ (mr_recvS hR hE hz hS hA) hl.1 rfl (Nat.le_of_ble_eq_true rfl) dX3_copyFrom_30 ⟨(Nat.le_of_ble_eq_true rfl), (Nat.le_of_ble_eq_true rfl)⟩) hR hz hS hA (fun H locs hR hz hS => ?_)
  refine lv_aload_n hx hb dX3_copyFrom_33 rfl (lv_at hl 1 rfl) ?_
  obtain ⟨x34, hc9, hrun⟩ := m_bind hrun
  refine mr_get (C := RX3) (T := TX3) (N := 10) (ci := 2) hx hb hts (fun w q => m_ws_in (wi_X3 w q)) hown hR rfl 3 (by decide) (hts _ (m_ws_in wm_0_62)) (fun _ h9 => h9) (m_gr_spec hc9) dX3_copyFrom_34 ?_
  refine lv_aload_n hx hb dX3_copyFrom_37 rfl (lv_at hl 0 rfl) ?_
  obtain ⟨x38, hc9, hrun⟩ := m_bind hrun
  refine mr_get (C := RX3) (T := TX3) (N := 10) (ci := 2) hx hb hts (fun w q => m_ws_in (wi_X3 w q)) hown hR rfl 3 (by decide) (hts _ (m_ws_in wm_0_62)) (fun _ h9 => h9) (m_gr_spec hc9) dX3_copyFrom_38 ?_
  obtain ⟨h41, hc9, hrun⟩ := m_bind hrun
  refine mr_callv (mr_runS (As := [.ref x34, .ref x38]) (rest := []) hx hb hml hown hts (c_X1_copy l D ids st z hc9) yk_X1_copy ys_X1_copy wm_0_50 ⟨(Nat.le_of_ble_eq_true rfl), (Nat.le_of_ble_eq_true rfl)⟩ (mr_recvS hR hE hz hS hA) hl.1 rfl (Nat.le_of_ble_eq_true rfl) dX3_copyFrom_41 ⟨(Nat.le_of_ble_eq_true rfl), (Nat.le_of_ble_eq_true rfl)⟩) hR hz hS hA (fun H locs hR hz hS => ?_)
  refine lv_aload_n hx hb dX3_copyFrom_44 rfl (lv_at hl 1 rfl) ?_
  obtain ⟨x45, hc9, hrun⟩ := m_bind hrun
  refine mr_get (C := RX3) (T := TX3) (N := 10) (ci := 2) hx hb hts (fun w q => m_ws_in (wi_X3 w q)) hown hR rfl 4 (by decide) (hts _ (m_ws_in wm_0_64)) (fun _ h9 => h9) (m_gr_spec hc9) dX3_copyFrom_45 ?_
  refine lv_aload_n hx hb dX3_copyFrom_48 rfl (lv_at hl 0 rfl) ?_
  obtain ⟨x49, hc9, hrun⟩ := m_bind hrun
  refine mr_get (C := RX3) (T := TX3) (N := 10) (ci := 2) hx hb hts (fun w q => m_ws_in (wi_X3 w q)) hown hR rfl 4 (by decide) (hts _ (m_ws_in wm_0_64)) (fun _ h9 => h9) (m_gr_spec hc9) dX3_copyFrom_49 ?_
  obtain ⟨h52, hc9, hrun⟩ := m_bind hrun
  refine mr_callv (mr_runS (As := [.ref x45, .ref x49]) (rest := []) hx hb hml hown hts (c_X1_copy l D ids st z hc9) yk_X1_copy ys_X1_copy wm_0_50 ⟨(Nat.le_of_ble_eq_true rfl), (Nat.le_of_ble_eq_true rfl)⟩ (mr_recvS hR hE hz hS hA) hl.1 rfl (Nat.le_of_ble_eq_true rfl) dX3_copyFrom_52 ⟨(Nat.le_of_ble_eq_true rfl), (Nat.le_of_ble_eq_true rfl)⟩) hR hz hS hA (fun H locs hR hz hS => ?_)
  refine lv_aload_n hx hb dX3_copyFrom_55 rfl (lv_at hl 1 rfl) ?_
  obtain ⟨x56, hc9, hrun⟩ := m_bind hrun
  refine mr_get (C := RX3) (T := TX3) (N := 10) (ci := 2) hx hb hts (fun w q => m_ws_in (wi_X3 w q)) hown hR rfl 5 (by decide) (hts _ (m_ws_in wm_0_66)) (fun _ h9 => h9) (m_gr_spec hc9) dX3_copyFrom_56 ?_
  refine lv_aload_n hx hb dX3_copyFrom_59 rfl (lv_at hl 0 rfl) ?_
  obtain ⟨x60, hc9, hrun⟩ := m_bind hrun
  refine mr_get (C := RX3) (T := TX3) (N := 10) (ci := 2) hx hb hts (fun w q => m_ws_in (wi_X3 w q)) hown hR rfl 5 (by decide) (hts _ (m_ws_in wm_0_66)) (fun _ h9 => h9) (m_gr_spec hc9) dX3_copyFrom_60 ?_
  obtain ⟨h63, hc9, hrun⟩ := m_bind hrun
  refine mr_callv (mr_runS (As := [.ref x56, .ref x60]) (rest := []) hx hb hml hown hts (c_X1_copy l D ids st z hc9) yk_X1_copy ys_X1_copy wm_0_50 ⟨(Nat.le_of_ble_eq_true rfl), (Nat.le_of_ble_eq_true rfl)⟩ (mr_recvS hR hE hz hS hA) hl.1 rfl (Nat.le_of_ble_eq_true rfl) dX3_copyFrom_63 ⟨(Nat.le_of_ble_eq_true rfl), (Nat.le_of_ble_eq_true rfl)⟩) hR hz hS hA (fun H locs hR hz hS => ?_)
  refine lv_aload_n hx hb dX3_copyFrom_66 rfl (lv_at hl 1 rfl) ?_
  obtain ⟨x67, hc9, hrun⟩ := m_bind hrun
  refine mr_get (C := RX3) (T := TX3) (N := 10) (ci := 2) hx hb hts (fun w q => m_ws_in (wi_X3 w q)) hown hR rfl 6 (by decide) (hts _ (m_ws_in wm_0_67)) (fun _ h9 => h9) (m_gr_spec hc9) dX3_copyFrom_67 ?_
  refine lv_aload_n hx hb dX3_copyFrom_70 rfl (lv_at hl 0 rfl) ?_
  obtain ⟨x71, hc9, hrun⟩ := m_bind hrun
  refine mr_get (C := RX3) (T := TX3) (N := 10) (ci := 2) hx hb hts (fun w q => m_ws_in (wi_X3 w q)) hown hR rfl 6 (by decide) (hts _ (m_ws_in wm_0_67)) (fun _ h9 => h9) (m_gr_spec hc9) dX3_copyFrom_71 ?_
  obtain ⟨h74, hc9, hrun⟩ := m_bind hrun
  refine mr_callv (mr_runS (As := [.ref x67, .ref x71]) (rest := []) hx hb hml hown hts (c_X1_copy l D ids st z hc9) yk_X1_copy ys_X1_copy wm_0_50 ⟨(Nat.le_of_ble_eq_true rfl), (Nat.le_of_ble_eq_true rfl)⟩ (mr_recvS hR hE hz hS hA) hl.1 rfl (Nat.le_of_ble_eq_true rfl) dX3_copyFrom_74 ⟨(Nat.le_of_ble_eq_true rfl), (Nat.le_of_ble_eq_true rfl)⟩) hR hz hS hA (fun H locs hR hz hS => ?_)
  refine lv_aload_n hx hb dX3_copyFrom_77 rfl (lv_at hl 0 rfl) ?_
  refine lv_aload_n hx hb dX3_copyFrom_78 rfl (lv_at hl 1 rfl) ?_
  obtain ⟨x79, hc9, hrun⟩ := m_bind hrun
  refine mr_get (C := RX3) (T := TX3) (N := 10) (ci := 2) hx hb hts (fun w q => m_ws_in (wi_X3 w q)) hown hR rfl 7 (by decide) (hts _ (m_ws_in wm_0_68)) (fun _ h9 => h9) (m_gi_spec hc9) dX3_copyFrom_79 ?_
  obtain ⟨h82, hc9, hrun⟩ := m_bind hrun
  refine mr_put (C := RX3) (T := TX3) (N := 10) (ci := 2) hx hb hts (fun w q => m_ws_in (wi_X3 w q)) tyX3 tyX3_ok nmX3 hown hR hz hS rfl 7 (by decide) (hts _ (m_ws_in wm_0_68)) (fun _ h9 => h9) rfl (tyX3_ok 7 (by decide)) rfl rfl hc9 dX3_copyFrom_82 (fun H locs hR hz hS => ?_)
  refine lv_aload_n hx hb dX3_copyFrom_85 rfl (lv_at hl 0 rfl) ?_
  refine lv_aload_n hx hb dX3_copyFrom_86 rfl (lv_at hl 1 rfl) ?_
  obtain ⟨x87, hc9, hrun⟩ := m_bind hrun
  refine mr_get (C := RX3) (T := TX3) (N := 10) (ci := 2) hx hb hts (fun w q => m_ws_in (wi_X3 w q)) hown hR rfl 8 (by decide) (hts _ (m_ws_in wm_0_70)) (fun _ h9 => h9) (m_gi_spec hc9) dX3_copyFrom_87 ?_
  obtain ⟨h90, hc9, hrun⟩ := m_bind hrun
  refine mr_put (C := RX3) (T := TX3) (N := 10) (ci := 2) hx hb hts (fun w q => m_ws_in (wi_X3 w q)) tyX3 tyX3_ok nmX3 hown hR hz hS rfl 8 (by decide) (hts _ (m_ws_in wm_0_70)) (fun _ h9 => h9) rfl (tyX3_ok 8 (by decide)) rfl rfl hc9 dX3_copyFrom_90 (fun H locs hR hz hS => ?_)
  refine lv_aload_n hx hb dX3_copyFrom_93 rfl (lv_at hl 0 rfl) ?_
  refine lv_aload_n hx hb dX3_copyFrom_94 rfl (lv_at hl 1 rfl) ?_
  obtain ⟨x95, hc9, hrun⟩ := m_bind hrun
  refine mr_get (C := RX3) (T := TX3) (N := 10) (ci := 2) hx hb hts (fun w q => m_ws_in (wi_X3 w q)) hown hR rfl 9 (by decide) (hts _ (m_ws_in wm_0_72)) (fun _ h9 => h9) (m_gi_spec hc9) dX3_copyFrom_95 ?_
  obtain ⟨h98, hc9, hrun⟩ := m_bind hrun
  refine mr_put (C := RX3) (T := TX3) (N := 10) (ci := 2) hx hb hts (fun w q => m_ws_in (wi_X3 w q)) tyX3 tyX3_ok nmX3 hown hR hz hS rfl 9 (by decide) (hts _ (m_ws_in wm_0_72)) (fun _ h9 => h9) rfl (tyX3_ok 9 (by decide)) rfl rfl hc9 dX3_copyFrom_98 (fun H locs hR hz hS => ?_)
  obtain rfl := Option.some.inj hrun
  exact mr_vret hx hb hr hlocks hR hz hS dX3_copyFrom_101
/-! X2_push -/
abbrev rm_X2_push : Room := { frames := 3, cells := 0, slots := 0, locals := 64 }
theorem yk_X2_push : m_K yX2_push cX2_push 3 (none) 1 := ⟨wm_2_76, wm_0_6, by decide +kernel⟩
theorem ys_X2_push : Cond.instanceMethod yX2_push ∈ wT ∧ Cond.selects RX2 yX2_push yX2_push ∈ wT := ⟨wm_2_74, wm_2_75⟩
set_option maxRecDepth 100000 in
set_option maxHeartbeats 4000000 in
theorem k_X2_push_b40 {p : Program} {l : Launch} {e : Env} {s : State} {m : MethodId} {args : Array Value} {below : List Frame} {meth : Method} {c : Code} {D : va_G} {ids : m_I3} {st : m_T} {A : Nat → Prop} {z : Nat} {hF : mH} (hx : p.tables.exec = Jvm.exec) (hb : c.code = cX2_push) (hr : meth.sig.returnType = none) (hml : c.maxLocals = 3) (hown : s.vm.findClass RX2 = some m.cls) (hts : ∀ w ∈ (m_ws yX2_push cX2_push 3 (none)), w.before args s = true) (hlocks : meth.locks = false) (hin : meth.name = yX2_push.name) (hE : m_EV st A s s.heap) (hA : ∀ q, s.heap.size ≤ q → A q) (h : mH) (v0 : Nat) (t0 : Nat) (t1 : Int32) (H : Heap) (locs : List Loc) (ls : Array Slot) (hrun : s_X2_push_b40 h v0 t0 t1 = some hF) (hR : Rl D ids A h s H) (hz : H.size = z) (hS : va_S A s.heap H locs) (hl : lv_has ls 3 [(0, .ref v0)]) : W p l e rm_X2_push s m args below meth c H locs 0 0 (MQ below (mQv D ids A hF z) args s 0 0 A) (F0 m 40 ls [.int t1, .ref t0]) := by
  unfold s_X2_push_b40 at hrun
  obtain ⟨h40, hc9, hrun⟩ := m_bind hrun
  refine mr_put (C := RX2) (T := TX2) (N := 3) (ci := 1) hx hb hts (fun w q => m_ws_in (wi_X2 w q)) tyX2 tyX2_ok nmX2 hown hR hz hS rfl 1 (by decide) (hts _ (m_ws_in wm_0_145)) (fun _ h9 => h9) rfl (tyX2_ok 1 (by decide)) rfl rfl hc9 dX2_push_40 (fun H locs hR hz hS => ?_)
  refine lv_aload_n hx hb dX2_push_43 rfl (lv_at hl 0 rfl) ?_
  refine lv_aload_n hx hb dX2_push_44 rfl (lv_at hl 0 rfl) ?_
  obtain ⟨x45, hc9, hrun⟩ := m_bind hrun
  refine mr_get (C := RX2) (T := TX2) (N := 3) (ci := 1) hx hb hts (fun w q => m_ws_in (wi_X2 w q)) hown hR rfl 2 (by decide) (hts _ (m_ws_in wm_0_146)) (fun _ h9 => h9) (m_gi_spec hc9) dX2_push_45 ?_
  refine lv_iconst (v := 1) hx hb dX2_push_48 (by decide) ?_
  refine lv_iadd hx hb dX2_push_49 ?_
  refine lv_bipush (v := 6) hx hb dX2_push_50 (by decide) ?_
  refine va_mmin hx hb (hml.trans hl.1.symm) hown (hts _ (m_ws_in wm_2_86)) (hts _ (m_ws_in wm_1_98)) (hts _ (m_ws_in wm_0_9)) (hts _ (m_ws_in wm_1_99)) (Nat.le_of_ble_eq_true rfl) (Nat.le_of_ble_eq_true rfl) (Nat.le_of_ble_eq_true rfl) (Nat.le_of_ble_eq_true rfl) dX2_push_52 ?_
  obtain ⟨h55, hc9, hrun⟩ := m_bind hrun
  refine mr_put (C := RX2) (T := TX2) (N := 3) (ci := 1) hx hb hts (fun w q => m_ws_in (wi_X2 w q)) tyX2 tyX2_ok nmX2 hown hR hz hS rfl 2 (by decide) (hts _ (m_ws_in wm_0_146)) (fun _ h9 => h9) rfl (tyX2_ok 2 (by decide)) rfl rfl hc9 dX2_push_55 (fun H locs hR hz hS => ?_)
  obtain rfl := Option.some.inj hrun
  exact mr_vret hx hb hr hlocks hR hz hS dX2_push_58
set_option maxRecDepth 100000 in
set_option maxHeartbeats 4000000 in
theorem k_X2_push_b18 {p : Program} {l : Launch} {e : Env} {s : State} {m : MethodId} {args : Array Value} {below : List Frame} {meth : Method} {c : Code} {D : va_G} {ids : m_I3} {st : m_T} {A : Nat → Prop} {z : Nat} {hF : mH} (hx : p.tables.exec = Jvm.exec) (hb : c.code = cX2_push) (hr : meth.sig.returnType = none) (hml : c.maxLocals = 3) (hown : s.vm.findClass RX2 = some m.cls) (hts : ∀ w ∈ (m_ws yX2_push cX2_push 3 (none)), w.before args s = true) (hlocks : meth.locks = false) (hin : meth.name = yX2_push.name) (hE : m_EV st A s s.heap) (hA : ∀ q, s.heap.size ≤ q → A q) (h : mH) (v0 : Nat) (H : Heap) (locs : List Loc) (ls : Array Slot) (hrun : s_X2_push_b18 h v0 = some hF) (hR : Rl D ids A h s H) (hz : H.size = z) (hS : va_S A s.heap H locs) (hl : lv_has ls 3 [(0, .ref v0)]) : W p l e rm_X2_push s m args below meth c H locs 0 0 (MQ below (mQv D ids A hF z) args s 0 0 A) (F0 m 18 ls []) := by
  unfold s_X2_push_b18 at hrun
  refine lv_aload_n hx hb dX2_push_18 rfl (lv_at hl 0 rfl) ?_
  refine lv_aload_n hx hb dX2_push_19 rfl (lv_at hl 0 rfl) ?_
  obtain ⟨x20, hc9, hrun⟩ := m_bind hrun
  refine mr_get (C := RX2) (T := TX2) (N := 3) (ci := 1) hx hb hts (fun w q => m_ws_in (wi_X2 w q)) hown hR rfl 1 (by decide) (hts _ (m_ws_in wm_0_145)) (fun _ h9 => h9) (m_gi_spec hc9) dX2_push_20 ?_
  refine lv_iconst (v := 1) hx hb dX2_push_23 (by decide) ?_
  refine lv_iadd hx hb dX2_push_24 ?_
  refine lv_bipush (v := 6) hx hb dX2_push_25 (by decide) ?_
  refine lv_icmp_ge (tgt := 39) hx hb dX2_push_27 (by decide) (fun hc => ?_) (fun hc => ?_)
  · have hrun := mt_t hrun hc
    refine lv_iconst (v := 0) hx hb dX2_push_39 (by decide) ?_
    exact k_X2_push_b40 hx hb hr hml hown hts hlocks hin hE hA _ _ _ _ _ _ _ hrun hR hz hS (lv_sub hl [0] rfl)
  · have hrun := mt_f hrun hc
    refine lv_aload_n hx hb dX2_push_30 rfl (lv_at hl 0 rfl) ?_
    obtain ⟨x31, hc9, hrun⟩ := m_bind hrun
    refine mr_get (C := RX2) (T := TX2) (N := 3) (ci := 1) hx hb hts (fun w q => m_ws_in (wi_X2 w q)) hown hR rfl 1 (by decide) (hts _ (m_ws_in wm_0_145)) (fun _ h9 => h9) (m_gi_spec hc9) dX2_push_31 ?_
    refine lv_iconst (v := 1) hx hb dX2_push_34 (by decide) ?_
    refine lv_iadd hx hb dX2_push_35 ?_
    refine lv_goto (tgt := 40) hx hb dX2_push_36 (by decide) ?_
    exact k_X2_push_b40 hx hb hr hml hown hts hlocks hin hE hA _ _ _ _ _ _ _ hrun hR hz hS (lv_sub hl [0] rfl)
set_option maxRecDepth 100000 in
set_option maxHeartbeats 4000000 in
theorem c_X2_push (l : Launch) (D : va_G) (ids : m_I3) (st : m_T) (z : Nat) {h : mH} {v0 : Nat} {v1 : Nat} {hF : mH} (hrun : s_X2_push h v0 v1 = some hF) : Met l yX2_push (m_ws yX2_push cX2_push 3 (none)) rm_X2_push (mPc D ids st [.ref v0, .ref v1] h z) (mQv D ids (m_A h z) hF z) rm_X2_push.cells rm_X2_push.slots (m_A h z) := by
  refine mr_of (cc := cX2_push) (maxL := 3) (ret := none) (by decide) rfl (Nat.le_of_ble_eq_true rfl) ?_
  intro p e s m below meth c ls hx hb hr hml hown hts hlocks hin hR hE hz hl
  have hA : ∀ q, s.heap.size ≤ q → m_A h z q := fun q hq => Or.inr (by rw [← hz]; exact hq)
  have hS : va_S (m_A h z) s.heap s.heap [] := va_S.rf
  have hl : lv_has ls 3 [(0, .ref v0), (1, .ref v1)] := hl
  unfold s_X2_push at hrun
  refine lv_aload_n hx hb dX2_push_0 rfl (lv_at hl 0 rfl) ?_
  refine lv_aload_n hx hb dX2_push_1 rfl (lv_at hl 0 rfl) ?_
  obtain ⟨x2, hc9, hrun⟩ := m_bind hrun
  refine mr_get (C := RX2) (T := TX2) (N := 3) (ci := 1) hx hb hts (fun w q => m_ws_in (wi_X2 w q)) hown hR rfl 1 (by decide) (hts _ (m_ws_in wm_0_145)) (fun _ h9 => h9) (m_gi_spec hc9) dX2_push_2 ?_
  obtain ⟨_, ho9, hrun⟩ := m_bind hrun
  obtain ⟨fs9, ho9⟩ := m_is_spec ho9
  obtain ⟨x5, hc9, hrun⟩ := m_bind hrun
  refine mr_callq (mr_runV (As := [.int x2]) (rest := []) hx hb hml hown hts (c_X2_slot l D ids st z hc9) yk_X2_slot ys_X2_slot wm_2_77 ⟨(Nat.le_of_ble_eq_true rfl), (Nat.le_of_ble_eq_true rfl)⟩ (mr_recv (ci := 1) hR hE hz hS hA rfl ho9) hl.1 rfl (Nat.le_of_ble_eq_true rfl) dX2_push_5 ⟨(Nat.le_of_ble_eq_true rfl), (Nat.le_of_ble_eq_true rfl)⟩) hR hz hS hA (fun H locs hR hz hS => ?_)
  cases x5 with
  | none =>
    refine lv_astore_nN (lv' := [(2, .null), (0, .ref v0), (1, .ref v1)]) hx hb dX2_push_8 rfl hl (by decide) rfl (fun ls hl => ?_)
    refine lv_aload_nN hx hb dX2_push_9 rfl (lv_at hl 0 rfl) ?_
    refine lv_ifnullN (tgt := 18) hx hb dX2_push_10 (by decide) ?_
    exact k_X2_push_b18 hx hb hr hml hown hts hlocks hin hE hA _ _ _ _ _ hrun hR hz hS (lv_sub hl [1] rfl)
  | some a5 =>
    refine lv_astore_n (lv' := [(2, .ref a5), (0, .ref v0), (1, .ref v1)]) hx hb dX2_push_8 rfl hl (by decide) rfl (fun ls hl => ?_)
    refine lv_aload_n hx hb dX2_push_9 rfl (lv_at hl 0 rfl) ?_
    refine lv_ifnull hx hb dX2_push_10 ?_
    refine lv_aload_n hx hb dX2_push_13 rfl (lv_at hl 0 rfl) ?_
    refine lv_aload_n hx hb dX2_push_14 rfl (lv_at hl 2 rfl) ?_
    obtain ⟨_, ho9, hrun⟩ := m_bind hrun
    obtain ⟨fs9, ho9⟩ := m_is_spec ho9
    obtain ⟨h15, hc9, hrun⟩ := m_bind hrun
    refine mr_callv (mr_runV (As := [.ref v1]) (rest := []) hx hb hml hown hts (c_X3_copyFrom l D ids st z hc9) yk_X3_copyFrom ys_X3_copyFrom wm_2_81 ⟨(Nat.le_of_ble_eq_true rfl), (Nat.le_of_ble_eq_true rfl)⟩ (mr_recv (ci := 2) hR hE hz hS hA rfl ho9) hl.1 rfl (Nat.le_of_ble_eq_true rfl) dX2_push_15 ⟨(Nat.le_of_ble_eq_true rfl), (Nat.le_of_ble_eq_true rfl)⟩) hR hz hS hA (fun H locs hR hz hS => ?_)
    exact k_X2_push_b18 hx hb hr hml hown hts hlocks hin hE hA _ _ _ _ _ hrun hR hz hS (lv_sub hl [1] rfl)
/-! X7_readRides -/
abbrev rm_X7_readRides : Room := { frames := 4, cells := 0, slots := 0, locals := 91 }
theorem yk_X7_readRides : m_K yX7_readRides cX7_readRides 1 (none) 0 := ⟨wm_2_90, wm_0_1, by decide +kernel⟩
theorem ys_X7_readRides : Cond.instanceMethod yX7_readRides ∈ wT ∧ Cond.selects RX7 yX7_readRides yX7_readRides ∈ wT := ⟨wm_2_89, wp_1_3⟩
set_option maxRecDepth 100000 in
set_option maxHeartbeats 4000000 in
theorem c_X7_readRides (l : Launch) (D : va_G) (ids : m_I3) (st : m_T) (z : Nat) {h : mH} {v0 : Nat} {hF : mH} (hrun : s_X7_readRides h v0 = some hF) : Met l yX7_readRides (m_ws yX7_readRides cX7_readRides 1 (none)) rm_X7_readRides (mPc D ids st [.ref v0] h z) (mQv D ids (m_A h z) hF z) rm_X7_readRides.cells rm_X7_readRides.slots (m_A h z) := by
  refine mr_of (cc := cX7_readRides) (maxL := 1) (ret := none) (by decide) rfl (Nat.le_of_ble_eq_true rfl) ?_
  intro p e s m below meth c ls hx hb hr hml hown hts hlocks hin hR hE hz hl
  have hA : ∀ q, s.heap.size ≤ q → m_A h z q := fun q hq => Or.inr (by rw [← hz]; exact hq)
  have hS : va_S (m_A h z) s.heap s.heap [] := va_S.rf
  have hl : lv_has ls 1 [(0, .ref v0)] := hl
  unfold s_X7_readRides at hrun
  refine lv_aload_n hx hb dX7_readRides_0 rfl (lv_at hl 0 rfl) ?_
  obtain ⟨x1, hc9, hrun⟩ := m_bind hrun
  refine mr_get (C := RX7) (T := TX7) (N := 8) (ci := 5) hx hb hts (fun w q => m_ws_in (wi_X7 w q)) hown hR rfl 1 (by decide) (hts _ (m_ws_in wm_1_12)) (fun _ h9 => h9) (m_gr_spec hc9) dX7_readRides_1 ?_
  refine lv_aload_n hx hb dX7_readRides_4 rfl (lv_at hl 0 rfl) ?_
  obtain ⟨x5, hc9, hrun⟩ := m_bind hrun
  refine mr_get (C := RX7) (T := TX7) (N := 8) (ci := 5) hx hb hts (fun w q => m_ws_in (wi_X7 w q)) hown hR rfl 0 (by decide) (hts _ (m_ws_in wm_1_11)) (fun _ h9 => h9) (m_gr_spec hc9) dX7_readRides_5 ?_
  obtain ⟨x8, hc9, hrun⟩ := m_bind hrun
  refine mr_getN (C := RX3) (T := TX3) (N := 10) (ci := 2) hx hb hts (fun w q => m_ws_in (wi_X3 w q)) hown hR rfl 0 (by decide) (hE.nf (i := 3) rfl) (fun _ h9 => h9) (m_gr_spec hc9) dX7_readRides_8 ?_
  refine lv_aload_n hx hb dX7_readRides_11 rfl (lv_at hl 0 rfl) ?_
  obtain ⟨x12, hc9, hrun⟩ := m_bind hrun
  refine mr_get (C := RX7) (T := TX7) (N := 8) (ci := 5) hx hb hts (fun w q => m_ws_in (wi_X7 w q)) hown hR rfl 0 (by decide) (hts _ (m_ws_in wm_1_11)) (fun _ h9 => h9) (m_gr_spec hc9) dX7_readRides_12 ?_
  obtain ⟨x15, hc9, hrun⟩ := m_bind hrun
  refine mr_getN (C := RX3) (T := TX3) (N := 10) (ci := 2) hx hb hts (fun w q => m_ws_in (wi_X3 w q)) hown hR rfl 1 (by decide) (hE.nf (i := 4) rfl) (fun _ h9 => h9) (m_gr_spec hc9) dX7_readRides_15 ?_
  obtain ⟨_, ho9, hrun⟩ := m_bind hrun
  obtain ⟨fs9, ho9⟩ := m_is_spec ho9
  obtain ⟨h18, hc9, hrun⟩ := m_bind hrun
  refine mr_callv (mr_runV (As := [.ref x8, .ref x15]) (rest := []) hx hb hml hown hts (c_X0_readFrom l D ids st z hc9) yk_X0_readFrom ys_X0_readFrom wm_0_190 ⟨(Nat.le_of_ble_eq_true rfl), (Nat.le_of_ble_eq_true rfl)⟩ (mr_recv (ci := 0) hR hE hz hS hA rfl ho9) hl.1 rfl (Nat.le_of_ble_eq_true rfl) dX7_readRides_18 ⟨(Nat.le_of_ble_eq_true rfl), (Nat.le_of_ble_eq_true rfl)⟩) hR hz hS hA (fun H locs hR hz hS => ?_)
  obtain rfl := Option.some.inj hrun
  exact mr_vret hx hb hr hlocks hR hz hS dX7_readRides_21
/-! X7_tap -/
abbrev rm_X7_tap : Room := { frames := 6, cells := 1, slots := 6, locals := 111 }
theorem yk_X7_tap : m_K yX7_tap cX7_tap 7 (some .int) 5 := ⟨wm_1_221, wm_0_1, by decide +kernel⟩
theorem ys_X7_tap : Cond.instanceMethod yX7_tap ∈ wT ∧ Cond.selects RX7 yX7_tap yX7_tap ∈ wT := ⟨wm_1_219, wm_1_220⟩
set_option maxRecDepth 100000 in
set_option maxHeartbeats 4000000 in
theorem k_X7_tap_b17 {p : Program} {l : Launch} {e : Env} {s : State} {m : MethodId} {args : Array Value} {below : List Frame} {meth : Method} {c : Code} {D : va_G} {ids : m_I3} {st : m_T} {A : Nat → Prop} {z : Nat} {r : (String ⊕ Int32)} {hF : mH} (hx : p.tables.exec = Jvm.exec) (hb : c.code = cX7_tap) (hr : meth.sig.returnType = some .int) (hml : c.maxLocals = 7) (hown : s.vm.findClass RX7 = some m.cls) (hts : ∀ w ∈ (m_ws yX7_tap cX7_tap 7 (some .int)), w.before args s = true) (hlocks : meth.locks = false) (hin : meth.name = yX7_tap.name) (hE : m_EV st A s s.heap) (hA : ∀ q, s.heap.size ≤ q → A q) (hfl : l.stackTraces = false) (hout : ∀ x ∈ c.exceptionTable.toList, ∀ q, covers x q = false) (h : mH) (H : Heap) (locs : List Loc) (ls : Array Slot) (hrun : s_X7_tap_b17 h = some (r, hF)) (hR : Rl D ids A h s H) (hz : H.size = z) (hS : va_S A s.heap H locs) (hl : lv_has ls 7 []) : W p l e rm_X7_tap s m args below meth c H locs 0 0 (vx_MQ below (mQxi D ids A r hF) (mXx D ids A r hF) args s 1 6 A) (F0 m 17 ls []) := by
  unfold s_X7_tap_b17 at hrun
  obtain ⟨rfl, rfl⟩ := Prod.mk.inj (Option.some.inj hrun)
  exact mr_throw (text := "an argument is out of range") hx hb hfl hown hts hml hE yt_72 (List.mem_of_getElem? (i := 0) rfl) hR hS hl.1 dX7_tap_17 dX7_tap_20 dX7_tap_21 dX7_tap_23 dX7_tap_26 hout hlocks (Nat.le_of_ble_eq_true rfl) (Nat.le_of_ble_eq_true rfl) (Nat.le_of_ble_eq_true rfl) (Nat.le_of_ble_eq_true rfl) (Nat.le_of_ble_eq_true rfl) (Nat.le_of_ble_eq_true rfl)
set_option maxRecDepth 100000 in
set_option maxHeartbeats 4000000 in
theorem c_X7_tap (l : Launch) (hfl : l.stackTraces = false) (D : va_G) (ids : m_I3) (st : m_T) (z : Nat) {h : mH} {v0 : Nat} {v1 : Int32} {v2 : Int32} {v3 : Int32} {v4 : Int32} {v5 : Int32} {r : (String ⊕ Int32)} {hF : mH} (hrun : s_X7_tap h v0 v1 v2 v3 v4 v5 = some (r, hF)) : vx_Met l yX7_tap (m_ws yX7_tap cX7_tap 7 (some .int)) rm_X7_tap (mPc D ids st [.ref v0, .int v1, .int v2, .int v3, .int v4, .int v5] h z) (mQxi D ids (m_A h z) r hF) (mXx D ids (m_A h z) r hF) rm_X7_tap.cells rm_X7_tap.slots (m_A h z) := by
  refine mrx_of (cc := cX7_tap) (maxL := 7) (ret := some .int) (by decide) rfl (Nat.le_of_ble_eq_true rfl) ?_
  intro p e s m below meth c ls hx hb hr hml hown hts hlocks hin hout hR hE hz hl
  have hA : ∀ q, s.heap.size ≤ q → m_A h z q := fun q hq => Or.inr (by rw [← hz]; exact hq)
  have hS : va_S (m_A h z) s.heap s.heap [] := va_S.rf
  have hl : lv_has ls 7 [(0, .ref v0), (1, .int v1), (2, .int v2), (3, .int v3), (4, .int v4), (5, .int v5)] := hl
  unfold s_X7_tap at hrun
  refine lv_iload_n hx hb dX7_tap_0 rfl (lv_at hl 1 rfl) ?_
  refine lv_iload_n hx hb dX7_tap_1 rfl (lv_at hl 2 rfl) ?_
  obtain ⟨x2, hc9, hrun⟩ := m_bind hrun
  refine mr_calli (mr_runS (As := [.int v1, .int v2]) (rest := []) hx hb hml hown hts (c_X7_isWalletDay l D ids st z hc9) yk_X7_isWalletDay ys_X7_isWalletDay wm_1_222 ⟨(Nat.le_of_ble_eq_true rfl), (Nat.le_of_ble_eq_true rfl)⟩ (mr_recvS hR hE hz hS hA) hl.1 rfl (Nat.le_of_ble_eq_true rfl) dX7_tap_2 ⟨(Nat.le_of_ble_eq_true rfl), (Nat.le_of_ble_eq_true rfl)⟩) hR hz hS hA (fun H locs hR hz hS => ?_)
  refine lv_if_eq (tgt := 17) hx hb dX7_tap_5 (by decide) (fun hc => ?_) (fun hc => ?_)
  · have hrun := mt_t hrun hc
    exact k_X7_tap_b17 hx hb hr hml hown hts hlocks hin hE hA hfl hout _ _ _ _ hrun hR hz hS (lv_sub hl [] rfl)
  · have hrun := mt_f hrun hc
    refine lv_iload_n hx hb dX7_tap_8 rfl (lv_at hl 3 rfl) ?_
    refine lv_iload hx hb dX7_tap_9 (lv_at hl 4 rfl) ?_
    obtain ⟨x11, hc9, hrun⟩ := m_bind hrun
    refine mr_calli (mr_runS (As := [.int v3, .int v4]) (rest := []) hx hb hml hown hts (c_X7_isMinuteStation l D ids st z hc9) yk_X7_isMinuteStation ys_X7_isMinuteStation wm_1_226 ⟨(Nat.le_of_ble_eq_true rfl), (Nat.le_of_ble_eq_true rfl)⟩ (mr_recvS hR hE hz hS hA) hl.1 rfl (Nat.le_of_ble_eq_true rfl) dX7_tap_11 ⟨(Nat.le_of_ble_eq_true rfl), (Nat.le_of_ble_eq_true rfl)⟩) hR hz hS hA (fun H locs hR hz hS => ?_)
    refine lv_if_ne (tgt := 27) hx hb dX7_tap_14 (by decide) (fun hc => ?_) (fun hc => ?_)
    · have hrun := mt_f hrun hc
      refine lv_aload_n hx hb dX7_tap_27 rfl (lv_at hl 0 rfl) ?_
      obtain ⟨x28, hc9, hrun⟩ := m_bind hrun
      refine mr_get (C := RX7) (T := TX7) (N := 8) (ci := 5) hx hb hts (fun w q => m_ws_in (wi_X7 w q)) hown hR rfl 0 (by decide) (hts _ (m_ws_in wm_1_11)) (fun _ h9 => h9) (m_gr_spec hc9) dX7_tap_28 ?_
      obtain ⟨x31, hc9, hrun⟩ := m_bind hrun
      refine mr_getN (C := RX3) (T := TX3) (N := 10) (ci := 2) hx hb hts (fun w q => m_ws_in (wi_X3 w q)) hown hR rfl 0 (by decide) (hE.nf (i := 3) rfl) (fun _ h9 => h9) (m_gr_spec hc9) dX7_tap_31 ?_
      obtain ⟨x34, hc9, hrun⟩ := m_bind hrun
      refine mr_getN (C := RX5) (T := TX5) (N := 2) (ci := 3) hx hb hts (fun w q => m_ws_in (wi_X5 w q)) hown hR rfl 1 (by decide) (hE.nf (i := 0) rfl) (fun _ h9 => h9) (m_gi_spec hc9) dX7_tap_34 ?_
      refine lv_bipush (v := 60) hx hb dX7_tap_37 (by decide) ?_
      refine lv_icmp_lt (tgt := 52) hx hb dX7_tap_39 (by decide) (fun hc => ?_) (fun hc => ?_)
      · have hrun := mt_t hrun hc
        refine lv_aload_n hx hb dX7_tap_52 rfl (lv_at hl 0 rfl) ?_
        obtain ⟨x53, hc9, hrun⟩ := m_bind hrun
        refine mr_get (C := RX7) (T := TX7) (N := 8) (ci := 5) hx hb hts (fun w q => m_ws_in (wi_X7 w q)) hown hR rfl 2 (by decide) (hts _ (m_ws_in wm_1_13)) (fun _ h9 => h9) (m_gr_spec hc9) dX7_tap_53 ?_
        refine lv_aload_n hx hb dX7_tap_56 rfl (lv_at hl 0 rfl) ?_
        obtain ⟨x57, hc9, hrun⟩ := m_bind hrun
        refine mr_get (C := RX7) (T := TX7) (N := 8) (ci := 5) hx hb hts (fun w q => m_ws_in (wi_X7 w q)) hown hR rfl 0 (by decide) (hts _ (m_ws_in wm_1_11)) (fun _ h9 => h9) (m_gr_spec hc9) dX7_tap_57 ?_
        obtain ⟨_, ho9, hrun⟩ := m_bind hrun
        obtain ⟨fs9, ho9⟩ := m_is_spec ho9
        obtain ⟨h60, hc9, hrun⟩ := m_bind hrun
        refine mr_callv (mr_runV (As := [.ref x57]) (rest := []) hx hb hml hown hts (c_X2_push l D ids st z hc9) yk_X2_push ys_X2_push wm_2_73 ⟨(Nat.le_of_ble_eq_true rfl), (Nat.le_of_ble_eq_true rfl)⟩ (mr_recv (ci := 1) hR hE hz hS hA rfl ho9) hl.1 rfl (Nat.le_of_ble_eq_true rfl) dX7_tap_60 ⟨(Nat.le_of_ble_eq_true rfl), (Nat.le_of_ble_eq_true rfl)⟩) hR hz hS hA (fun H locs hR hz hS => ?_)
        refine lv_aload_n hx hb dX7_tap_63 rfl (lv_at hl 0 rfl) ?_
        obtain ⟨x64, hc9, hrun⟩ := m_bind hrun
        refine mr_get (C := RX7) (T := TX7) (N := 8) (ci := 5) hx hb hts (fun w q => m_ws_in (wi_X7 w q)) hown hR rfl 0 (by decide) (hts _ (m_ws_in wm_1_11)) (fun _ h9 => h9) (m_gr_spec hc9) dX7_tap_64 ?_
        obtain ⟨x67, hc9, hrun⟩ := m_bind hrun
        refine mr_getN (C := RX3) (T := TX3) (N := 10) (ci := 2) hx hb hts (fun w q => m_ws_in (wi_X3 w q)) hown hR rfl 0 (by decide) (hE.nf (i := 3) rfl) (fun _ h9 => h9) (m_gr_spec hc9) dX7_tap_67 ?_
        refine lv_iload_n hx hb dX7_tap_70 rfl (lv_at hl 1 rfl) ?_
        refine lv_iload_n hx hb dX7_tap_71 rfl (lv_at hl 2 rfl) ?_
        refine lv_iload_n hx hb dX7_tap_72 rfl (lv_at hl 3 rfl) ?_
        refine lv_iload hx hb dX7_tap_73 (lv_at hl 4 rfl) ?_
        refine lv_iload hx hb dX7_tap_75 (lv_at hl 5 rfl) ?_
        obtain ⟨x77, hc9, hrun⟩ := m_bind hrun
        refine mr_calli (mr_runS (As := [.int v1, .int v2, .int v3, .int v4, .int v5]) (rest := [.ref x67]) hx hb hml hown hts (c_X4_make l D ids st z hc9) yk_X4_make ys_X4_make wm_1_176 ⟨(Nat.le_of_ble_eq_true rfl), (Nat.le_of_ble_eq_true rfl)⟩ (mr_recvS hR hE hz hS hA) hl.1 rfl (Nat.le_of_ble_eq_true rfl) dX7_tap_77 ⟨(Nat.le_of_ble_eq_true rfl), (Nat.le_of_ble_eq_true rfl)⟩) hR hz hS hA (fun H locs hR hz hS => ?_)
        obtain ⟨_, ho9, hrun⟩ := m_bind hrun
        obtain ⟨fs9, ho9⟩ := m_is_spec ho9
        obtain ⟨⟨x80, h80⟩, hc9, hrun⟩ := m_bind hrun
        refine mr_calli (mr_runV (As := [.int x77]) (rest := []) hx hb hml hown hts (c_X5_insert l D ids st z hc9) yk_X5_insert ys_X5_insert wm_1_190 ⟨(Nat.le_of_ble_eq_true rfl), (Nat.le_of_ble_eq_true rfl)⟩ (mr_recv (ci := 3) hR hE hz hS hA rfl ho9) hl.1 rfl (Nat.le_of_ble_eq_true rfl) dX7_tap_80 ⟨(Nat.le_of_ble_eq_true rfl), (Nat.le_of_ble_eq_true rfl)⟩) hR hz hS hA (fun H locs hR hz hS => ?_)
        refine lv_istore (lv' := [(6, .int x80), (0, .ref v0), (1, .int v1), (2, .int v2), (3, .int v3), (4, .int v4), (5, .int v5)]) hx hb dX7_tap_83 hl (by decide) rfl (fun ls hl => ?_)
        refine lv_aload_n hx hb dX7_tap_85 rfl (lv_at hl 1 rfl) ?_
        obtain ⟨_, ho9, hrun⟩ := m_bind hrun
        obtain ⟨fs9, ho9⟩ := m_is_spec ho9
        obtain ⟨h86, hc9, hrun⟩ := m_bind hrun
        refine mr_callv (mr_runV (As := []) (rest := []) hx hb hml hown hts (c_X7_readRides l D ids st z hc9) yk_X7_readRides ys_X7_readRides wm_2_87 ⟨(Nat.le_of_ble_eq_true rfl), (Nat.le_of_ble_eq_true rfl)⟩ (mr_recv (ci := 5) hR hE hz hS hA rfl ho9) hl.1 rfl (Nat.le_of_ble_eq_true rfl) dX7_tap_86 ⟨(Nat.le_of_ble_eq_true rfl), (Nat.le_of_ble_eq_true rfl)⟩) hR hz hS hA (fun H locs hR hz hS => ?_)
        refine lv_iload hx hb dX7_tap_89 (lv_at hl 0 rfl) ?_
        obtain ⟨rfl, rfl⟩ := Prod.mk.inj (Option.some.inj hrun)
        exact mrx_iret hx hb hr hlocks hR hS dX7_tap_91 (Nat.le_of_ble_eq_true rfl) (Nat.le_of_ble_eq_true rfl)
      · have hrun := mt_f hrun hc
        obtain ⟨rfl, rfl⟩ := Prod.mk.inj (Option.some.inj hrun)
        exact mr_throw (text := "there are 60 taps") hx hb hfl hown hts hml hE yt_82 (List.mem_of_getElem? (i := 1) rfl) hR hS hl.1 dX7_tap_42 dX7_tap_45 dX7_tap_46 dX7_tap_48 dX7_tap_51 hout hlocks (Nat.le_of_ble_eq_true rfl) (Nat.le_of_ble_eq_true rfl) (Nat.le_of_ble_eq_true rfl) (Nat.le_of_ble_eq_true rfl) (Nat.le_of_ble_eq_true rfl) (Nat.le_of_ble_eq_true rfl)
    · have hrun := mt_t hrun hc
      exact k_X7_tap_b17 hx hb hr hml hown hts hlocks hin hE hA hfl hout _ _ _ _ hrun hR hz hS (lv_sub hl [] rfl)
/-! L_tap -/
abbrev rm_L_tap : Room := { frames := 7, cells := 1, slots := 6, locals := 137 }
theorem yk_L_tap : m_KH yL_tap cL_tap 8 (some .int) [(0, 16, 19, 13), (0, 16, 23, 15)] 7 := ⟨wm_1_215, wm_0_0, by decide +kernel⟩
theorem ys_L_tap : Cond.static yL_tap ∈ wT := wm_1_214
set_option maxRecDepth 100000 in
set_option maxHeartbeats 4000000 in
theorem c_L_tap (l : Launch) (hfl : l.stackTraces = false) (D : va_G) (ids : m_I3) (st : m_T) (z : Nat) {h : mH} {v0 : Nat} {v1 : Int32} {v2 : Int32} {v3 : Int32} {v4 : Int32} {v5 : Int32} {v6 : Nat} {r : Int32} {hF : mH} (hrun : s_L_tap h v0 v1 v2 v3 v4 v5 v6 = some (r, hF)) : Met l yL_tap (m_wsH yL_tap cL_tap 8 (some .int) [(0, 16, 19, 13), (0, 16, 23, 15)]) rm_L_tap (mPc D ids st [.ref v0, .int v1, .int v2, .int v3, .int v4, .int v5, .ref v6] h z) (mQwi D ids (m_A h z) r hF) rm_L_tap.cells rm_L_tap.slots (m_A h z) := by
  refine mr_ofH (cc := cL_tap) (maxL := 8) (ret := some .int) (hh := [(0, 16, 19, 13), (0, 16, 23, 15)]) (by decide) rfl (Nat.le_of_ble_eq_true rfl) ?_
  intro p e s m below meth c ls hx hb hr hml hown hts hlocks hin htab hR hE hz hl
  have hA : ∀ q, s.heap.size ≤ q → m_A h z q := fun q hq => Or.inr (by rw [← hz]; exact hq)
  have hS : va_S (m_A h z) s.heap s.heap [] := va_S.rf
  have hl : lv_has ls 8 [(0, .ref v0), (1, .int v1), (2, .int v2), (3, .int v3), (4, .int v4), (5, .int v5), (6, .ref v6)] := hl
  unfold s_L_tap at hrun
  refine lv_aload hx hb dL_tap_0 (lv_at hl 6 rfl) ?_
  refine lv_iconst (v := 0) hx hb dL_tap_2 (by decide) ?_
  refine lv_aload_n hx hb dL_tap_3 rfl (lv_at hl 0 rfl) ?_
  refine lv_iload_n hx hb dL_tap_4 rfl (lv_at hl 1 rfl) ?_
  refine lv_iload_n hx hb dL_tap_5 rfl (lv_at hl 2 rfl) ?_
  refine lv_iload_n hx hb dL_tap_6 rfl (lv_at hl 3 rfl) ?_
  refine lv_iload hx hb dL_tap_7 (lv_at hl 4 rfl) ?_
  refine lv_iload hx hb dL_tap_9 (lv_at hl 5 rfl) ?_
  obtain ⟨_, ho9, hrun⟩ := m_bind hrun
  obtain ⟨fs9, ho9⟩ := m_is_spec ho9
  obtain ⟨⟨r11, h11⟩, hc9, hrun⟩ := m_bind hrun
  refine mrx_calli (mrx_runV (As := [.int v1, .int v2, .int v3, .int v4, .int v5]) (rest := [.int 0, .ref v6]) hx hb hml hown hts (c_X7_tap l hfl D ids st z hc9) yk_X7_tap ys_X7_tap wm_1_218 ⟨(Nat.le_of_ble_eq_true rfl), (Nat.le_of_ble_eq_true rfl)⟩ (mr_recv (ci := 5) hR hE hz hS hA rfl ho9) hl.1 rfl (Nat.le_of_ble_eq_true rfl) dL_tap_11 ⟨(Nat.le_of_ble_eq_true rfl), (Nat.le_of_ble_eq_true rfl)⟩) hR hz hS hA (fun E9 ce9 q9 H locs hr9 hR hS hce hcv hcl => ?_) (fun x11 H locs hr9 hR hS => ?_)
  · subst hr9
    obtain ⟨z, hz⟩ : ∃ z, H.size = z := ⟨_, rfl⟩
    by_cases hc0 : E9 = "java/lang/IllegalArgumentException"
    · have hrun := mt_t hrun hc0
      rw [hc0] at hcl
      refine mr_catch0 hown htab (by decide) (by decide) (hts _ (List.mem_cons_of_mem _ wm_1_216)) hE.2.2.2.2.2.2.2 (List.mem_of_getElem? (i := 0) rfl) hce hcv hcl ?_
      refine lv_astore (lv' := [(7, .ref q9), (0, .ref v0), (1, .int v1), (2, .int v2), (3, .int v3), (4, .int v4), (5, .int v5), (6, .ref v6)]) hx hb dL_tap_19 hl (by decide) rfl (fun ls hl => ?_)
      refine lv_iconst (v := 1) hx hb dL_tap_21 (by decide) ?_
      obtain ⟨rfl, rfl⟩ := Prod.mk.inj (Option.some.inj hrun)
      exact mrw_iret hx hb hr hlocks hR hS dL_tap_22 (Nat.le_of_ble_eq_true rfl) (Nat.le_of_ble_eq_true rfl)
    have hrun := mt_f hrun hc0
    by_cases hc1 : E9 = "java/lang/IllegalStateException"
    · have hrun := mt_t hrun hc1
      rw [hc1] at hcl
      refine mr_catch1 hown htab (by decide) (by decide) (by decide) (hts _ (List.mem_cons_of_mem _ wm_1_217)) (hts _ (List.mem_cons_of_mem _ wm_1_216)) hE.2.2.2.2.2.2.2 (List.mem_of_getElem? (i := 1) rfl) (List.mem_of_getElem? (i := 0) rfl) hce hcv hcl ?_
      refine lv_astore (lv' := [(7, .ref q9), (0, .ref v0), (1, .int v1), (2, .int v2), (3, .int v3), (4, .int v4), (5, .int v5), (6, .ref v6)]) hx hb dL_tap_23 hl (by decide) rfl (fun ls hl => ?_)
      refine lv_iconst (v := 2) hx hb dL_tap_25 (by decide) ?_
      obtain ⟨rfl, rfl⟩ := Prod.mk.inj (Option.some.inj hrun)
      exact mrw_iret hx hb hr hlocks hR hS dL_tap_26 (Nat.le_of_ble_eq_true rfl) (Nat.le_of_ble_eq_true rfl)
    have hrun := mt_f hrun hc1
    exact absurd hrun (fun h9 => nomatch h9)
  · subst hr9
    obtain ⟨z, hz⟩ : ∃ z, H.size = z := ⟨_, rfl⟩
    refine lv_i2l (v := x11.toInt64) hx hb dL_tap_14 rfl ?_
    obtain ⟨h15, hc9, hrun⟩ := m_bind hrun
    refine mr_last hx hb hR hz hS hc9 dL_tap_15 (fun H locs hR hz hS => ?_)
    refine lv_goto (tgt := 27) hx hb dL_tap_16 (by decide) ?_
    refine lv_iconst (v := 0) hx hb dL_tap_27 (by decide) ?_
    obtain ⟨rfl, rfl⟩ := Prod.mk.inj (Option.some.inj hrun)
    exact mrw_iret hx hb hr hlocks hR hS dL_tap_28 (Nat.le_of_ble_eq_true rfl) (Nat.le_of_ble_eq_true rfl)
/-! X5_takeAway -/
abbrev rm_X5_takeAway : Room := { frames := 2, cells := 0, slots := 0, locals := 42 }
theorem yk_X5_takeAway : m_K yX5_takeAway cX5_takeAway 3 (none) 1 := ⟨wm_2_122, wm_0_3, by decide +kernel⟩
theorem ys_X5_takeAway : Cond.instanceMethod yX5_takeAway ∈ wT ∧ Cond.selects RX5 yX5_takeAway yX5_takeAway ∈ wT := ⟨wm_2_120, wm_2_121⟩
set_option maxRecDepth 100000 in
set_option maxHeartbeats 4000000 in
theorem k_X5_takeAway_L2 {p : Program} {l : Launch} {e : Env} {s : State} {m : MethodId} {args : Array Value} {below : List Frame} {meth : Method} {c : Code} {D : va_G} {ids : m_I3} {st : m_T} {A : Nat → Prop} {z : Nat} {hF : mH} (hx : p.tables.exec = Jvm.exec) (hb : c.code = cX5_takeAway) (hr : meth.sig.returnType = none) (hml : c.maxLocals = 3) (hown : s.vm.findClass RX5 = some m.cls) (hts : ∀ w ∈ (m_ws yX5_takeAway cX5_takeAway 3 (none)), w.before args s = true) (hlocks : meth.locks = false) (hin : meth.name = yX5_takeAway.name) (hE : m_EV st A s s.heap) (hA : ∀ q, s.heap.size ≤ q → A q) : ∀ (n : Nat) (h : mH) (v0 : Nat) (v2 : Int32) (H : Heap) (locs : List Loc) (ls : Array Slot), s_X5_takeAway_L2 n h v0 v2 = some hF → Rl D ids A h s H → H.size = z → va_S A s.heap H locs → lv_has ls 3 [(0, .ref v0), (2, .int v2)] → W p l e rm_X5_takeAway s m args below meth c H locs 0 0 (MQ below (mQv D ids A hF z) args s 0 0 A) (F0 m 2 ls []) := by
  intro n
  induction n with
  | zero => intro h v0 v2 H locs ls hrun; exact absurd hrun (by intro h9; cases h9)
  | succ n ih =>
    intro h v0 v2 H locs ls hrun hR hz hS hl
    rw [s_X5_takeAway_L2] at hrun
    refine lv_iload_n hx hb dX5_takeAway_2 rfl (lv_at hl 1 rfl) ?_
    refine lv_iconst (v := 1) hx hb dX5_takeAway_3 (by decide) ?_
    refine lv_iadd hx hb dX5_takeAway_4 ?_
    refine lv_aload_n hx hb dX5_takeAway_5 rfl (lv_at hl 0 rfl) ?_
    obtain ⟨x6, hc9, hrun⟩ := m_bind hrun
    refine mr_get (C := RX5) (T := TX5) (N := 2) (ci := 3) hx hb hts (fun w q => m_ws_in (wi_X5 w q)) hown hR rfl 1 (by decide) (hts _ (m_ws_in wm_0_39)) (fun _ h9 => h9) (m_gi_spec hc9) dX5_takeAway_6 ?_
    refine lv_icmp_ge (tgt := 33) hx hb dX5_takeAway_9 (by decide) (fun hc => ?_) (fun hc => ?_)
    · have hrun := mt_t hrun hc
      refine lv_aload_n hx hb dX5_takeAway_33 rfl (lv_at hl 0 rfl) ?_
      refine lv_dup hx hb dX5_takeAway_34 rfl ?_
      obtain ⟨x35, hc9, hrun⟩ := m_bind hrun
      refine mr_get (C := RX5) (T := TX5) (N := 2) (ci := 3) hx hb hts (fun w q => m_ws_in (wi_X5 w q)) hown hR rfl 1 (by decide) (hts _ (m_ws_in wm_0_39)) (fun _ h9 => h9) (m_gi_spec hc9) dX5_takeAway_35 ?_
      refine lv_iconst (v := 1) hx hb dX5_takeAway_38 (by decide) ?_
      refine lv_isub hx hb dX5_takeAway_39 ?_
      obtain ⟨h40, hc9, hrun⟩ := m_bind hrun
      refine mr_put (C := RX5) (T := TX5) (N := 2) (ci := 3) hx hb hts (fun w q => m_ws_in (wi_X5 w q)) tyX5 tyX5_ok nmX5 hown hR hz hS rfl 1 (by decide) (hts _ (m_ws_in wm_0_39)) (fun _ h9 => h9) rfl (tyX5_ok 1 (by decide)) rfl rfl hc9 dX5_takeAway_40 (fun H locs hR hz hS => ?_)
      obtain rfl := Option.some.inj hrun
      exact mr_vret hx hb hr hlocks hR hz hS dX5_takeAway_43
    · have hrun := mt_f hrun hc
      refine lv_aload_n hx hb dX5_takeAway_12 rfl (lv_at hl 0 rfl) ?_
      obtain ⟨x13, hc9, hrun⟩ := m_bind hrun
      refine mr_get (C := RX5) (T := TX5) (N := 2) (ci := 3) hx hb hts (fun w q => m_ws_in (wi_X5 w q)) hown hR rfl 0 (by decide) (hts _ (m_ws_in wm_0_38)) (fun _ h9 => h9) (m_gr_spec hc9) dX5_takeAway_13 ?_
      refine lv_iload_n hx hb dX5_takeAway_16 rfl (lv_at hl 1 rfl) ?_
      refine lv_aload_n hx hb dX5_takeAway_17 rfl (lv_at hl 0 rfl) ?_
      refine lv_iload_n hx hb dX5_takeAway_18 rfl (lv_at hl 1 rfl) ?_
      refine lv_iconst (v := 1) hx hb dX5_takeAway_19 (by decide) ?_
      refine lv_iadd hx hb dX5_takeAway_20 ?_
      obtain ⟨_, ho9, hrun⟩ := m_bind hrun
      obtain ⟨fs9, ho9⟩ := m_is_spec ho9
      obtain ⟨x21, hc9, hrun⟩ := m_bind hrun
      refine mr_calli (mr_runV (As := [.int (v2 + 1)]) (rest := [.int v2, .ref x13]) hx hb hml hown hts (c_X5_tapAt l D ids st z hc9) yk_X5_tapAt ys_X5_tapAt wm_1_194 ⟨(Nat.le_of_ble_eq_true rfl), (Nat.le_of_ble_eq_true rfl)⟩ (mr_recv (ci := 3) hR hE hz hS hA rfl ho9) hl.1 rfl (Nat.le_of_ble_eq_true rfl) dX5_takeAway_21 ⟨(Nat.le_of_ble_eq_true rfl), (Nat.le_of_ble_eq_true rfl)⟩) hR hz hS hA (fun H locs hR hz hS => ?_)
      obtain ⟨h24, hc9, hrun⟩ := m_bind hrun
      refine mr_callv (mr_runS (As := [.ref x13, .int v2, .int x21]) (rest := []) hx hb hml hown hts (c_X1_put l D ids st z hc9) yk_X1_put ys_X1_put wm_1_198 ⟨(Nat.le_of_ble_eq_true rfl), (Nat.le_of_ble_eq_true rfl)⟩ (mr_recvS hR hE hz hS hA) hl.1 rfl (Nat.le_of_ble_eq_true rfl) dX5_takeAway_24 ⟨(Nat.le_of_ble_eq_true rfl), (Nat.le_of_ble_eq_true rfl)⟩) hR hz hS hA (fun H locs hR hz hS => ?_)
      refine lv_iinc (v := v2 + 1) (lv' := [(2, .int (v2 + 1)), (0, .ref v0)]) hx hb dX5_takeAway_27 hl (k := 1) rfl rfl (by decide) rfl (fun ls hl => ?_)
      refine lv_goto (tgt := 2) hx hb dX5_takeAway_30 (by decide) ?_
      exact ih _ _ _ _ _ _ hrun hR hz hS (lv_sub hl [1, 0] rfl)
set_option maxRecDepth 100000 in
set_option maxHeartbeats 4000000 in
theorem c_X5_takeAway (l : Launch) (D : va_G) (ids : m_I3) (st : m_T) (z : Nat) {h : mH} {v0 : Nat} {v1 : Int32} {hF : mH} (hrun : s_X5_takeAway h v0 v1 = some hF) : Met l yX5_takeAway (m_ws yX5_takeAway cX5_takeAway 3 (none)) rm_X5_takeAway (mPc D ids st [.ref v0, .int v1] h z) (mQv D ids (m_A h z) hF z) rm_X5_takeAway.cells rm_X5_takeAway.slots (m_A h z) := by
  refine mr_of (cc := cX5_takeAway) (maxL := 3) (ret := none) (by decide) rfl (Nat.le_of_ble_eq_true rfl) ?_
  intro p e s m below meth c ls hx hb hr hml hown hts hlocks hin hR hE hz hl
  have hA : ∀ q, s.heap.size ≤ q → m_A h z q := fun q hq => Or.inr (by rw [← hz]; exact hq)
  have hS : va_S (m_A h z) s.heap s.heap [] := va_S.rf
  have hl : lv_has ls 3 [(0, .ref v0), (1, .int v1)] := hl
  unfold s_X5_takeAway at hrun
  refine lv_iload_n hx hb dX5_takeAway_0 rfl (lv_at hl 1 rfl) ?_
  refine lv_istore_n (lv' := [(2, .int v1), (0, .ref v0), (1, .int v1)]) hx hb dX5_takeAway_1 rfl hl (by decide) rfl (fun ls hl => ?_)
  exact k_X5_takeAway_L2 hx hb hr hml hown hts hlocks hin hE hA _ _ _ _ _ _ _ hrun hR hz hS (lv_sub hl [1, 0] rfl)
/-! X7_remove -/
abbrev rm_X7_remove : Room := { frames := 6, cells := 1, slots := 6, locals := 111 }
theorem yk_X7_remove : m_K yX7_remove cX7_remove 2 (some .int) 1 := ⟨wm_2_98, wm_0_1, by decide +kernel⟩
theorem ys_X7_remove : Cond.instanceMethod yX7_remove ∈ wT ∧ Cond.selects RX7 yX7_remove yX7_remove ∈ wT := ⟨wm_2_96, wm_2_97⟩
set_option maxRecDepth 100000 in
set_option maxHeartbeats 4000000 in
theorem c_X7_remove (l : Launch) (hfl : l.stackTraces = false) (D : va_G) (ids : m_I3) (st : m_T) (z : Nat) {h : mH} {v0 : Nat} {v1 : Int32} {r : (String ⊕ Int32)} {hF : mH} (hrun : s_X7_remove h v0 v1 = some (r, hF)) : vx_Met l yX7_remove (m_ws yX7_remove cX7_remove 2 (some .int)) rm_X7_remove (mPc D ids st [.ref v0, .int v1] h z) (mQxi D ids (m_A h z) r hF) (mXx D ids (m_A h z) r hF) rm_X7_remove.cells rm_X7_remove.slots (m_A h z) := by
  refine mrx_of (cc := cX7_remove) (maxL := 2) (ret := some .int) (by decide) rfl (Nat.le_of_ble_eq_true rfl) ?_
  intro p e s m below meth c ls hx hb hr hml hown hts hlocks hin hout hR hE hz hl
  have hA : ∀ q, s.heap.size ≤ q → m_A h z q := fun q hq => Or.inr (by rw [← hz]; exact hq)
  have hS : va_S (m_A h z) s.heap s.heap [] := va_S.rf
  have hl : lv_has ls 2 [(0, .ref v0), (1, .int v1)] := hl
  unfold s_X7_remove at hrun
  refine lv_aload_n hx hb dX7_remove_0 rfl (lv_at hl 0 rfl) ?_
  refine lv_iload_n hx hb dX7_remove_1 rfl (lv_at hl 1 rfl) ?_
  obtain ⟨_, ho9, hrun⟩ := m_bind hrun
  obtain ⟨fs9, ho9⟩ := m_is_spec ho9
  obtain ⟨x2, hc9, hrun⟩ := m_bind hrun
  refine mr_calli (mr_runV (As := [.int v1]) (rest := []) hx hb hml hown hts (c_X7_isPlace l D ids st z hc9) yk_X7_isPlace ys_X7_isPlace wm_2_99 ⟨(Nat.le_of_ble_eq_true rfl), (Nat.le_of_ble_eq_true rfl)⟩ (mr_recv (ci := 5) hR hE hz hS hA rfl ho9) hl.1 rfl (Nat.le_of_ble_eq_true rfl) dX7_remove_2 ⟨(Nat.le_of_ble_eq_true rfl), (Nat.le_of_ble_eq_true rfl)⟩) hR hz hS hA (fun H locs hR hz hS => ?_)
  refine lv_if_ne (tgt := 18) hx hb dX7_remove_5 (by decide) (fun hc => ?_) (fun hc => ?_)
  · have hrun := mt_f hrun hc
    refine lv_aload_n hx hb dX7_remove_18 rfl (lv_at hl 0 rfl) ?_
    obtain ⟨x19, hc9, hrun⟩ := m_bind hrun
    refine mr_get (C := RX7) (T := TX7) (N := 8) (ci := 5) hx hb hts (fun w q => m_ws_in (wi_X7 w q)) hown hR rfl 2 (by decide) (hts _ (m_ws_in wm_1_13)) (fun _ h9 => h9) (m_gr_spec hc9) dX7_remove_19 ?_
    refine lv_aload_n hx hb dX7_remove_22 rfl (lv_at hl 0 rfl) ?_
    obtain ⟨x23, hc9, hrun⟩ := m_bind hrun
    refine mr_get (C := RX7) (T := TX7) (N := 8) (ci := 5) hx hb hts (fun w q => m_ws_in (wi_X7 w q)) hown hR rfl 0 (by decide) (hts _ (m_ws_in wm_1_11)) (fun _ h9 => h9) (m_gr_spec hc9) dX7_remove_23 ?_
    obtain ⟨_, ho9, hrun⟩ := m_bind hrun
    obtain ⟨fs9, ho9⟩ := m_is_spec ho9
    obtain ⟨h26, hc9, hrun⟩ := m_bind hrun
    refine mr_callv (mr_runV (As := [.ref x23]) (rest := []) hx hb hml hown hts (c_X2_push l D ids st z hc9) yk_X2_push ys_X2_push wm_2_73 ⟨(Nat.le_of_ble_eq_true rfl), (Nat.le_of_ble_eq_true rfl)⟩ (mr_recv (ci := 1) hR hE hz hS hA rfl ho9) hl.1 rfl (Nat.le_of_ble_eq_true rfl) dX7_remove_26 ⟨(Nat.le_of_ble_eq_true rfl), (Nat.le_of_ble_eq_true rfl)⟩) hR hz hS hA (fun H locs hR hz hS => ?_)
    refine lv_aload_n hx hb dX7_remove_29 rfl (lv_at hl 0 rfl) ?_
    obtain ⟨x30, hc9, hrun⟩ := m_bind hrun
    refine mr_get (C := RX7) (T := TX7) (N := 8) (ci := 5) hx hb hts (fun w q => m_ws_in (wi_X7 w q)) hown hR rfl 0 (by decide) (hts _ (m_ws_in wm_1_11)) (fun _ h9 => h9) (m_gr_spec hc9) dX7_remove_30 ?_
    obtain ⟨x33, hc9, hrun⟩ := m_bind hrun
    refine mr_getN (C := RX3) (T := TX3) (N := 10) (ci := 2) hx hb hts (fun w q => m_ws_in (wi_X3 w q)) hown hR rfl 0 (by decide) (hE.nf (i := 3) rfl) (fun _ h9 => h9) (m_gr_spec hc9) dX7_remove_33 ?_
    refine lv_iload_n hx hb dX7_remove_36 rfl (lv_at hl 1 rfl) ?_
    obtain ⟨_, ho9, hrun⟩ := m_bind hrun
    obtain ⟨fs9, ho9⟩ := m_is_spec ho9
    obtain ⟨h37, hc9, hrun⟩ := m_bind hrun
    refine mr_callv (mr_runV (As := [.int v1]) (rest := []) hx hb hml hown hts (c_X5_takeAway l D ids st z hc9) yk_X5_takeAway ys_X5_takeAway wm_2_119 ⟨(Nat.le_of_ble_eq_true rfl), (Nat.le_of_ble_eq_true rfl)⟩ (mr_recv (ci := 3) hR hE hz hS hA rfl ho9) hl.1 rfl (Nat.le_of_ble_eq_true rfl) dX7_remove_37 ⟨(Nat.le_of_ble_eq_true rfl), (Nat.le_of_ble_eq_true rfl)⟩) hR hz hS hA (fun H locs hR hz hS => ?_)
    refine lv_aload_n hx hb dX7_remove_40 rfl (lv_at hl 0 rfl) ?_
    obtain ⟨_, ho9, hrun⟩ := m_bind hrun
    obtain ⟨fs9, ho9⟩ := m_is_spec ho9
    obtain ⟨h41, hc9, hrun⟩ := m_bind hrun
    refine mr_callv (mr_runV (As := []) (rest := []) hx hb hml hown hts (c_X7_readRides l D ids st z hc9) yk_X7_readRides ys_X7_readRides wm_2_87 ⟨(Nat.le_of_ble_eq_true rfl), (Nat.le_of_ble_eq_true rfl)⟩ (mr_recv (ci := 5) hR hE hz hS hA rfl ho9) hl.1 rfl (Nat.le_of_ble_eq_true rfl) dX7_remove_41 ⟨(Nat.le_of_ble_eq_true rfl), (Nat.le_of_ble_eq_true rfl)⟩) hR hz hS hA (fun H locs hR hz hS => ?_)
    refine lv_aload_n hx hb dX7_remove_44 rfl (lv_at hl 0 rfl) ?_
    obtain ⟨x45, hc9, hrun⟩ := m_bind hrun
    refine mr_get (C := RX7) (T := TX7) (N := 8) (ci := 5) hx hb hts (fun w q => m_ws_in (wi_X7 w q)) hown hR rfl 0 (by decide) (hts _ (m_ws_in wm_1_11)) (fun _ h9 => h9) (m_gr_spec hc9) dX7_remove_45 ?_
    obtain ⟨x48, hc9, hrun⟩ := m_bind hrun
    refine mr_getN (C := RX3) (T := TX3) (N := 10) (ci := 2) hx hb hts (fun w q => m_ws_in (wi_X3 w q)) hown hR rfl 0 (by decide) (hE.nf (i := 3) rfl) (fun _ h9 => h9) (m_gr_spec hc9) dX7_remove_48 ?_
    obtain ⟨x51, hc9, hrun⟩ := m_bind hrun
    refine mr_getN (C := RX5) (T := TX5) (N := 2) (ci := 3) hx hb hts (fun w q => m_ws_in (wi_X5 w q)) hown hR rfl 1 (by decide) (hE.nf (i := 0) rfl) (fun _ h9 => h9) (m_gi_spec hc9) dX7_remove_51 ?_
    obtain ⟨rfl, rfl⟩ := Prod.mk.inj (Option.some.inj hrun)
    exact mrx_iret hx hb hr hlocks hR hS dX7_remove_54 (Nat.le_of_ble_eq_true rfl) (Nat.le_of_ble_eq_true rfl)
  · have hrun := mt_t hrun hc
    obtain ⟨rfl, rfl⟩ := Prod.mk.inj (Option.some.inj hrun)
    exact mr_throw (text := "there is no such tap") hx hb hfl hown hts hml hE yt_108 (List.mem_of_getElem? (i := 2) rfl) hR hS hl.1 dX7_remove_8 dX7_remove_11 dX7_remove_12 dX7_remove_14 dX7_remove_17 hout hlocks (Nat.le_of_ble_eq_true rfl) (Nat.le_of_ble_eq_true rfl) (Nat.le_of_ble_eq_true rfl) (Nat.le_of_ble_eq_true rfl) (Nat.le_of_ble_eq_true rfl) (Nat.le_of_ble_eq_true rfl)
/-! L_remove -/
abbrev rm_L_remove : Room := { frames := 7, cells := 1, slots := 6, locals := 132 }
theorem yk_L_remove : m_KH yL_remove cL_remove 4 (some .int) [(0, 9, 12, 21)] 3 := ⟨wm_2_93, wm_0_0, by decide +kernel⟩
theorem ys_L_remove : Cond.static yL_remove ∈ wT := wm_2_92
set_option maxRecDepth 100000 in
set_option maxHeartbeats 4000000 in
theorem c_L_remove (l : Launch) (hfl : l.stackTraces = false) (D : va_G) (ids : m_I3) (st : m_T) (z : Nat) {h : mH} {v0 : Nat} {v1 : Int32} {v2 : Nat} {r : Int32} {hF : mH} (hrun : s_L_remove h v0 v1 v2 = some (r, hF)) : Met l yL_remove (m_wsH yL_remove cL_remove 4 (some .int) [(0, 9, 12, 21)]) rm_L_remove (mPc D ids st [.ref v0, .int v1, .ref v2] h z) (mQwi D ids (m_A h z) r hF) rm_L_remove.cells rm_L_remove.slots (m_A h z) := by
  refine mr_ofH (cc := cL_remove) (maxL := 4) (ret := some .int) (hh := [(0, 9, 12, 21)]) (by decide) rfl (Nat.le_of_ble_eq_true rfl) ?_
  intro p e s m below meth c ls hx hb hr hml hown hts hlocks hin htab hR hE hz hl
  have hA : ∀ q, s.heap.size ≤ q → m_A h z q := fun q hq => Or.inr (by rw [← hz]; exact hq)
  have hS : va_S (m_A h z) s.heap s.heap [] := va_S.rf
  have hl : lv_has ls 4 [(0, .ref v0), (1, .int v1), (2, .ref v2)] := hl
  unfold s_L_remove at hrun
  refine lv_aload_n hx hb dL_remove_0 rfl (lv_at hl 2 rfl) ?_
  refine lv_iconst (v := 0) hx hb dL_remove_1 (by decide) ?_
  refine lv_aload_n hx hb dL_remove_2 rfl (lv_at hl 0 rfl) ?_
  refine lv_iload_n hx hb dL_remove_3 rfl (lv_at hl 1 rfl) ?_
  obtain ⟨_, ho9, hrun⟩ := m_bind hrun
  obtain ⟨fs9, ho9⟩ := m_is_spec ho9
  obtain ⟨⟨r4, h4⟩, hc9, hrun⟩ := m_bind hrun
  refine mrx_calli (mrx_runV (As := [.int v1]) (rest := [.int 0, .ref v2]) hx hb hml hown hts (c_X7_remove l hfl D ids st z hc9) yk_X7_remove ys_X7_remove wm_2_95 ⟨(Nat.le_of_ble_eq_true rfl), (Nat.le_of_ble_eq_true rfl)⟩ (mr_recv (ci := 5) hR hE hz hS hA rfl ho9) hl.1 rfl (Nat.le_of_ble_eq_true rfl) dL_remove_4 ⟨(Nat.le_of_ble_eq_true rfl), (Nat.le_of_ble_eq_true rfl)⟩) hR hz hS hA (fun E9 ce9 q9 H locs hr9 hR hS hce hcv hcl => ?_) (fun x4 H locs hr9 hR hS => ?_)
  · subst hr9
    obtain ⟨z, hz⟩ : ∃ z, H.size = z := ⟨_, rfl⟩
    by_cases hc0 : E9 = "java/lang/IndexOutOfBoundsException"
    · have hrun := mt_t hrun hc0
      rw [hc0] at hcl
      refine mr_catch0 hown htab (by decide) (by decide) (hts _ (List.mem_cons_of_mem _ wm_2_94)) hE.2.2.2.2.2.2.2 (List.mem_of_getElem? (i := 2) rfl) hce hcv hcl ?_
      refine lv_astore_n (lv' := [(3, .ref q9), (0, .ref v0), (1, .int v1), (2, .ref v2)]) hx hb dL_remove_12 rfl hl (by decide) rfl (fun ls hl => ?_)
      refine lv_iconst (v := 1) hx hb dL_remove_13 (by decide) ?_
      obtain ⟨rfl, rfl⟩ := Prod.mk.inj (Option.some.inj hrun)
      exact mrw_iret hx hb hr hlocks hR hS dL_remove_14 (Nat.le_of_ble_eq_true rfl) (Nat.le_of_ble_eq_true rfl)
    have hrun := mt_f hrun hc0
    exact absurd hrun (fun h9 => nomatch h9)
  · subst hr9
    obtain ⟨z, hz⟩ : ∃ z, H.size = z := ⟨_, rfl⟩
    refine lv_i2l (v := x4.toInt64) hx hb dL_remove_7 rfl ?_
    obtain ⟨h8, hc9, hrun⟩ := m_bind hrun
    refine mr_last hx hb hR hz hS hc9 dL_remove_8 (fun H locs hR hz hS => ?_)
    refine lv_goto (tgt := 15) hx hb dL_remove_9 (by decide) ?_
    refine lv_iconst (v := 0) hx hb dL_remove_15 (by decide) ?_
    obtain ⟨rfl, rfl⟩ := Prod.mk.inj (Option.some.inj hrun)
    exact mrw_iret hx hb hr hlocks hR hS dL_remove_16 (Nat.le_of_ble_eq_true rfl) (Nat.le_of_ble_eq_true rfl)
/-! X7_fillIn -/
abbrev rm_X7_fillIn : Room := { frames := 5, cells := 0, slots := 0, locals := 111 }
theorem yk_X7_fillIn : m_K yX7_fillIn cX7_fillIn 5 (none) 3 := ⟨wm_2_148, wm_0_1, by decide +kernel⟩
theorem ys_X7_fillIn : Cond.instanceMethod yX7_fillIn ∈ wT ∧ Cond.selects RX7 yX7_fillIn yX7_fillIn ∈ wT := ⟨wm_2_147, wp_1_7⟩
set_option maxRecDepth 100000 in
set_option maxHeartbeats 4000000 in
theorem c_X7_fillIn (l : Launch) (D : va_G) (ids : m_I3) (st : m_T) (z : Nat) {h : mH} {v0 : Nat} {v1 : Int32} {v2 : Int32} {v3 : Int32} {hF : mH} (hrun : s_X7_fillIn h v0 v1 v2 v3 = some hF) : Met l yX7_fillIn (m_ws yX7_fillIn cX7_fillIn 5 (none)) rm_X7_fillIn (mPc D ids st [.ref v0, .int v1, .int v2, .int v3] h z) (mQv D ids (m_A h z) hF z) rm_X7_fillIn.cells rm_X7_fillIn.slots (m_A h z) := by
  refine mr_of (cc := cX7_fillIn) (maxL := 5) (ret := none) (by decide) rfl (Nat.le_of_ble_eq_true rfl) ?_
  intro p e s m below meth c ls hx hb hr hml hown hts hlocks hin hR hE hz hl
  have hA : ∀ q, s.heap.size ≤ q → m_A h z q := fun q hq => Or.inr (by rw [← hz]; exact hq)
  have hS : va_S (m_A h z) s.heap s.heap [] := va_S.rf
  have hl : lv_has ls 5 [(0, .ref v0), (1, .int v1), (2, .int v2), (3, .int v3)] := hl
  unfold s_X7_fillIn at hrun
  refine lv_aload_n hx hb dX7_fillIn_0 rfl (lv_at hl 0 rfl) ?_
  obtain ⟨x1, hc9, hrun⟩ := m_bind hrun
  refine mr_get (C := RX7) (T := TX7) (N := 8) (ci := 5) hx hb hts (fun w q => m_ws_in (wi_X7 w q)) hown hR rfl 0 (by decide) (hts _ (m_ws_in wm_1_11)) (fun _ h9 => h9) (m_gr_spec hc9) dX7_fillIn_1 ?_
  obtain ⟨x4, hc9, hrun⟩ := m_bind hrun
  refine mr_getN (C := RX3) (T := TX3) (N := 10) (ci := 2) hx hb hts (fun w q => m_ws_in (wi_X3 w q)) hown hR rfl 0 (by decide) (hE.nf (i := 3) rfl) (fun _ h9 => h9) (m_gr_spec hc9) dX7_fillIn_4 ?_
  refine lv_iload_n hx hb dX7_fillIn_7 rfl (lv_at hl 1 rfl) ?_
  obtain ⟨_, ho9, hrun⟩ := m_bind hrun
  obtain ⟨fs9, ho9⟩ := m_is_spec ho9
  obtain ⟨x8, hc9, hrun⟩ := m_bind hrun
  refine mr_calli (mr_runV (As := [.int v1]) (rest := []) hx hb hml hown hts (c_X5_tapAt l D ids st z hc9) yk_X5_tapAt ys_X5_tapAt wm_1_142 ⟨(Nat.le_of_ble_eq_true rfl), (Nat.le_of_ble_eq_true rfl)⟩ (mr_recv (ci := 3) hR hE hz hS hA rfl ho9) hl.1 rfl (Nat.le_of_ble_eq_true rfl) dX7_fillIn_8 ⟨(Nat.le_of_ble_eq_true rfl), (Nat.le_of_ble_eq_true rfl)⟩) hR hz hS hA (fun H locs hR hz hS => ?_)
  refine lv_istore (lv' := [(4, .int x8), (0, .ref v0), (1, .int v1), (2, .int v2), (3, .int v3)]) hx hb dX7_fillIn_11 hl (by decide) rfl (fun ls hl => ?_)
  refine lv_aload_n hx hb dX7_fillIn_13 rfl (lv_at hl 1 rfl) ?_
  obtain ⟨x14, hc9, hrun⟩ := m_bind hrun
  refine mr_get (C := RX7) (T := TX7) (N := 8) (ci := 5) hx hb hts (fun w q => m_ws_in (wi_X7 w q)) hown hR rfl 0 (by decide) (hts _ (m_ws_in wm_1_11)) (fun _ h9 => h9) (m_gr_spec hc9) dX7_fillIn_14 ?_
  obtain ⟨x17, hc9, hrun⟩ := m_bind hrun
  refine mr_getN (C := RX3) (T := TX3) (N := 10) (ci := 2) hx hb hts (fun w q => m_ws_in (wi_X3 w q)) hown hR rfl 3 (by decide) (hE.nf (i := 6) rfl) (fun _ h9 => h9) (m_gr_spec hc9) dX7_fillIn_17 ?_
  refine lv_iload hx hb dX7_fillIn_20 (lv_at hl 0 rfl) ?_
  obtain ⟨x22, hc9, hrun⟩ := m_bind hrun
  refine mr_calli (mr_runS (As := [.int x8]) (rest := [.ref x17]) hx hb hml hown hts (c_X4_walletOf l D ids st z hc9) yk_X4_walletOf ys_X4_walletOf wm_1_143 ⟨(Nat.le_of_ble_eq_true rfl), (Nat.le_of_ble_eq_true rfl)⟩ (mr_recvS hR hE hz hS hA) hl.1 rfl (Nat.le_of_ble_eq_true rfl) dX7_fillIn_22 ⟨(Nat.le_of_ble_eq_true rfl), (Nat.le_of_ble_eq_true rfl)⟩) hR hz hS hA (fun H locs hR hz hS => ?_)
  refine lv_iload hx hb dX7_fillIn_25 (lv_at hl 0 rfl) ?_
  obtain ⟨x27, hc9, hrun⟩ := m_bind hrun
  refine mr_calli (mr_runS (As := [.int x8]) (rest := [.int x22, .ref x17]) hx hb hml hown hts (c_X4_weekOf l D ids st z hc9) yk_X4_weekOf ys_X4_weekOf wm_1_199 ⟨(Nat.le_of_ble_eq_true rfl), (Nat.le_of_ble_eq_true rfl)⟩ (mr_recvS hR hE hz hS hA) hl.1 rfl (Nat.le_of_ble_eq_true rfl) dX7_fillIn_27 ⟨(Nat.le_of_ble_eq_true rfl), (Nat.le_of_ble_eq_true rfl)⟩) hR hz hS hA (fun H locs hR hz hS => ?_)
  obtain ⟨x30, hc9, hrun⟩ := m_bind hrun
  refine mr_calli (mr_runS (As := [.int x22, .int x27]) (rest := [.ref x17]) hx hb hml hown hts (c_X7_weekCell l D ids st z hc9) yk_X7_weekCell ys_X7_weekCell wm_1_127 ⟨(Nat.le_of_ble_eq_true rfl), (Nat.le_of_ble_eq_true rfl)⟩ (mr_recvS hR hE hz hS hA) hl.1 rfl (Nat.le_of_ble_eq_true rfl) dX7_fillIn_30 ⟨(Nat.le_of_ble_eq_true rfl), (Nat.le_of_ble_eq_true rfl)⟩) hR hz hS hA (fun H locs hR hz hS => ?_)
  refine lv_iconst (v := 1) hx hb dX7_fillIn_33 (by decide) ?_
  obtain ⟨h34, hc9, hrun⟩ := m_bind hrun
  refine mr_callv (mr_runS (As := [.ref x17, .int x30, .int 1]) (rest := []) hx hb hml hown hts (c_X1_raise l D ids st z hc9) yk_X1_raise ys_X1_raise wm_2_149 ⟨(Nat.le_of_ble_eq_true rfl), (Nat.le_of_ble_eq_true rfl)⟩ (mr_recvS hR hE hz hS hA) hl.1 rfl (Nat.le_of_ble_eq_true rfl) dX7_fillIn_34 ⟨(Nat.le_of_ble_eq_true rfl), (Nat.le_of_ble_eq_true rfl)⟩) hR hz hS hA (fun H locs hR hz hS => ?_)
  refine lv_aload_n hx hb dX7_fillIn_37 rfl (lv_at hl 1 rfl) ?_
  obtain ⟨x38, hc9, hrun⟩ := m_bind hrun
  refine mr_get (C := RX7) (T := TX7) (N := 8) (ci := 5) hx hb hts (fun w q => m_ws_in (wi_X7 w q)) hown hR rfl 0 (by decide) (hts _ (m_ws_in wm_1_11)) (fun _ h9 => h9) (m_gr_spec hc9) dX7_fillIn_38 ?_
  obtain ⟨x41, hc9, hrun⟩ := m_bind hrun
  refine mr_getN (C := RX3) (T := TX3) (N := 10) (ci := 2) hx hb hts (fun w q => m_ws_in (wi_X3 w q)) hown hR rfl 0 (by decide) (hE.nf (i := 3) rfl) (fun _ h9 => h9) (m_gr_spec hc9) dX7_fillIn_41 ?_
  refine lv_iload hx hb dX7_fillIn_44 (lv_at hl 0 rfl) ?_
  refine lv_iload_n hx hb dX7_fillIn_46 rfl (lv_at hl 3 rfl) ?_
  refine lv_iload_n hx hb dX7_fillIn_47 rfl (lv_at hl 4 rfl) ?_
  obtain ⟨x48, hc9, hrun⟩ := m_bind hrun
  refine mr_calli (mr_runS (As := [.int x8, .int v2, .int v3]) (rest := [.ref x41]) hx hb hml hown hts (c_X4_missingOf l D ids st z hc9) yk_X4_missingOf ys_X4_missingOf wm_2_135 ⟨(Nat.le_of_ble_eq_true rfl), (Nat.le_of_ble_eq_true rfl)⟩ (mr_recvS hR hE hz hS hA) hl.1 rfl (Nat.le_of_ble_eq_true rfl) dX7_fillIn_48 ⟨(Nat.le_of_ble_eq_true rfl), (Nat.le_of_ble_eq_true rfl)⟩) hR hz hS hA (fun H locs hR hz hS => ?_)
  obtain ⟨_, ho9, hrun⟩ := m_bind hrun
  obtain ⟨fs9, ho9⟩ := m_is_spec ho9
  obtain ⟨⟨x51, h51⟩, hc9, hrun⟩ := m_bind hrun
  refine mr_calli (mr_runV (As := [.int x48]) (rest := []) hx hb hml hown hts (c_X5_insert l D ids st z hc9) yk_X5_insert ys_X5_insert wm_1_190 ⟨(Nat.le_of_ble_eq_true rfl), (Nat.le_of_ble_eq_true rfl)⟩ (mr_recv (ci := 3) hR hE hz hS hA rfl ho9) hl.1 rfl (Nat.le_of_ble_eq_true rfl) dX7_fillIn_51 ⟨(Nat.le_of_ble_eq_true rfl), (Nat.le_of_ble_eq_true rfl)⟩) hR hz hS hA (fun H locs hR hz hS => ?_)
  refine lv_pop hx hb dX7_fillIn_54 rfl ?_
  refine lv_aload_n hx hb dX7_fillIn_55 rfl (lv_at hl 1 rfl) ?_
  obtain ⟨_, ho9, hrun⟩ := m_bind hrun
  obtain ⟨fs9, ho9⟩ := m_is_spec ho9
  obtain ⟨h56, hc9, hrun⟩ := m_bind hrun
  refine mr_callv (mr_runV (As := []) (rest := []) hx hb hml hown hts (c_X7_readRides l D ids st z hc9) yk_X7_readRides ys_X7_readRides wm_2_87 ⟨(Nat.le_of_ble_eq_true rfl), (Nat.le_of_ble_eq_true rfl)⟩ (mr_recv (ci := 5) hR hE hz hS hA rfl ho9) hl.1 rfl (Nat.le_of_ble_eq_true rfl) dX7_fillIn_56 ⟨(Nat.le_of_ble_eq_true rfl), (Nat.le_of_ble_eq_true rfl)⟩) hR hz hS hA (fun H locs hR hz hS => ?_)
  obtain rfl := Option.some.inj hrun
  exact mr_vret hx hb hr hlocks hR hz hS dX7_fillIn_59
/-! X7_claim -/
abbrev rm_X7_claim : Room := { frames := 7, cells := 1, slots := 6, locals := 161 }
theorem yk_X7_claim : m_K yX7_claim cX7_claim 5 (some .int) 3 := ⟨wm_2_129, wm_0_1, by decide +kernel⟩
theorem ys_X7_claim : Cond.instanceMethod yX7_claim ∈ wT ∧ Cond.selects RX7 yX7_claim yX7_claim ∈ wT := ⟨wm_2_127, wm_2_128⟩
set_option maxRecDepth 100000 in
set_option maxHeartbeats 4000000 in
theorem k_X7_claim_b66 {p : Program} {l : Launch} {e : Env} {s : State} {m : MethodId} {args : Array Value} {below : List Frame} {meth : Method} {c : Code} {D : va_G} {ids : m_I3} {st : m_T} {A : Nat → Prop} {z : Nat} {r : (String ⊕ Int32)} {hF : mH} (hx : p.tables.exec = Jvm.exec) (hb : c.code = cX7_claim) (hr : meth.sig.returnType = some .int) (hml : c.maxLocals = 5) (hown : s.vm.findClass RX7 = some m.cls) (hts : ∀ w ∈ (m_ws yX7_claim cX7_claim 5 (some .int)), w.before args s = true) (hlocks : meth.locks = false) (hin : meth.name = yX7_claim.name) (hE : m_EV st A s s.heap) (hA : ∀ q, s.heap.size ≤ q → A q) (hfl : l.stackTraces = false) (hout : ∀ x ∈ c.exceptionTable.toList, ∀ q, covers x q = false) (h : mH) (v4 : Int32) (H : Heap) (locs : List Loc) (ls : Array Slot) (hrun : s_X7_claim_b66 h v4 = some (r, hF)) (hR : Rl D ids A h s H) (hz : H.size = z) (hS : va_S A s.heap H locs) (hl : lv_has ls 5 [(4, .int v4)]) : W p l e rm_X7_claim s m args below meth c H locs 0 0 (vx_MQ below (mQxi D ids A r hF) (mXx D ids A r hF) args s 1 6 A) (F0 m 66 ls []) := by
  unfold s_X7_claim_b66 at hrun
  refine lv_iload hx hb dX7_claim_66 (lv_at hl 0 rfl) ?_
  obtain ⟨rfl, rfl⟩ := Prod.mk.inj (Option.some.inj hrun)
  exact mrx_iret hx hb hr hlocks hR hS dX7_claim_68 (Nat.le_of_ble_eq_true rfl) (Nat.le_of_ble_eq_true rfl)
set_option maxRecDepth 100000 in
set_option maxHeartbeats 4000000 in
theorem c_X7_claim (l : Launch) (hfl : l.stackTraces = false) (D : va_G) (ids : m_I3) (st : m_T) (z : Nat) {h : mH} {v0 : Nat} {v1 : Int32} {v2 : Int32} {v3 : Int32} {r : (String ⊕ Int32)} {hF : mH} (hrun : s_X7_claim h v0 v1 v2 v3 = some (r, hF)) : vx_Met l yX7_claim (m_ws yX7_claim cX7_claim 5 (some .int)) rm_X7_claim (mPc D ids st [.ref v0, .int v1, .int v2, .int v3] h z) (mQxi D ids (m_A h z) r hF) (mXx D ids (m_A h z) r hF) rm_X7_claim.cells rm_X7_claim.slots (m_A h z) := by
  refine mrx_of (cc := cX7_claim) (maxL := 5) (ret := some .int) (by decide) rfl (Nat.le_of_ble_eq_true rfl) ?_
  intro p e s m below meth c ls hx hb hr hml hown hts hlocks hin hout hR hE hz hl
  have hA : ∀ q, s.heap.size ≤ q → m_A h z q := fun q hq => Or.inr (by rw [← hz]; exact hq)
  have hS : va_S (m_A h z) s.heap s.heap [] := va_S.rf
  have hl : lv_has ls 5 [(0, .ref v0), (1, .int v1), (2, .int v2), (3, .int v3)] := hl
  unfold s_X7_claim at hrun
  refine lv_iload_n hx hb dX7_claim_0 rfl (lv_at hl 2 rfl) ?_
  refine lv_iload_n hx hb dX7_claim_1 rfl (lv_at hl 3 rfl) ?_
  obtain ⟨x2, hc9, hrun⟩ := m_bind hrun
  refine mr_calli (mr_runS (As := [.int v2, .int v3]) (rest := []) hx hb hml hown hts (c_X7_isMinuteStation l D ids st z hc9) yk_X7_isMinuteStation ys_X7_isMinuteStation wm_1_226 ⟨(Nat.le_of_ble_eq_true rfl), (Nat.le_of_ble_eq_true rfl)⟩ (mr_recvS hR hE hz hS hA) hl.1 rfl (Nat.le_of_ble_eq_true rfl) dX7_claim_2 ⟨(Nat.le_of_ble_eq_true rfl), (Nat.le_of_ble_eq_true rfl)⟩) hR hz hS hA (fun H locs hR hz hS => ?_)
  refine lv_if_ne (tgt := 18) hx hb dX7_claim_5 (by decide) (fun hc => ?_) (fun hc => ?_)
  · have hrun := mt_f hrun hc
    refine lv_aload_n hx hb dX7_claim_18 rfl (lv_at hl 0 rfl) ?_
    refine lv_iload_n hx hb dX7_claim_19 rfl (lv_at hl 1 rfl) ?_
    refine lv_iload_n hx hb dX7_claim_20 rfl (lv_at hl 2 rfl) ?_
    refine lv_iload_n hx hb dX7_claim_21 rfl (lv_at hl 3 rfl) ?_
    obtain ⟨_, ho9, hrun⟩ := m_bind hrun
    obtain ⟨fs9, ho9⟩ := m_is_spec ho9
    obtain ⟨⟨x22, h22⟩, hc9, hrun⟩ := m_bind hrun
    refine mr_calli (mr_runV (As := [.int v1, .int v2, .int v3]) (rest := []) hx hb hml hown hts (c_X7_refusal l D ids st z hc9) yk_X7_refusal ys_X7_refusal wm_2_131 ⟨(Nat.le_of_ble_eq_true rfl), (Nat.le_of_ble_eq_true rfl)⟩ (mr_recv (ci := 5) hR hE hz hS hA rfl ho9) hl.1 rfl (Nat.le_of_ble_eq_true rfl) dX7_claim_22 ⟨(Nat.le_of_ble_eq_true rfl), (Nat.le_of_ble_eq_true rfl)⟩) hR hz hS hA (fun H locs hR hz hS => ?_)
    refine lv_istore (lv' := [(4, .int x22), (0, .ref v0), (1, .int v1), (2, .int v2), (3, .int v3)]) hx hb dX7_claim_25 hl (by decide) rfl (fun ls hl => ?_)
    refine lv_aload_n hx hb dX7_claim_27 rfl (lv_at hl 1 rfl) ?_
    obtain ⟨x28, hc9, hrun⟩ := m_bind hrun
    refine mr_get (C := RX7) (T := TX7) (N := 8) (ci := 5) hx hb hts (fun w q => m_ws_in (wi_X7 w q)) hown hR rfl 2 (by decide) (hts _ (m_ws_in wm_1_13)) (fun _ h9 => h9) (m_gr_spec hc9) dX7_claim_28 ?_
    refine lv_aload_n hx hb dX7_claim_31 rfl (lv_at hl 1 rfl) ?_
    obtain ⟨x32, hc9, hrun⟩ := m_bind hrun
    refine mr_get (C := RX7) (T := TX7) (N := 8) (ci := 5) hx hb hts (fun w q => m_ws_in (wi_X7 w q)) hown hR rfl 0 (by decide) (hts _ (m_ws_in wm_1_11)) (fun _ h9 => h9) (m_gr_spec hc9) dX7_claim_32 ?_
    obtain ⟨_, ho9, hrun⟩ := m_bind hrun
    obtain ⟨fs9, ho9⟩ := m_is_spec ho9
    obtain ⟨h35, hc9, hrun⟩ := m_bind hrun
    refine mr_callv (mr_runV (As := [.ref x32]) (rest := []) hx hb hml hown hts (c_X2_push l D ids st z hc9) yk_X2_push ys_X2_push wm_2_73 ⟨(Nat.le_of_ble_eq_true rfl), (Nat.le_of_ble_eq_true rfl)⟩ (mr_recv (ci := 1) hR hE hz hS hA rfl ho9) hl.1 rfl (Nat.le_of_ble_eq_true rfl) dX7_claim_35 ⟨(Nat.le_of_ble_eq_true rfl), (Nat.le_of_ble_eq_true rfl)⟩) hR hz hS hA (fun H locs hR hz hS => ?_)
    refine lv_iload hx hb dX7_claim_38 (lv_at hl 0 rfl) ?_
    refine lv_if_ne (tgt := 53) hx hb dX7_claim_40 (by decide) (fun hc => ?_) (fun hc => ?_)
    · have hrun := mt_f hrun hc
      refine lv_aload_n hx hb dX7_claim_53 rfl (lv_at hl 1 rfl) ?_
      obtain ⟨x54, hc9, hrun⟩ := m_bind hrun
      refine mr_get (C := RX7) (T := TX7) (N := 8) (ci := 5) hx hb hts (fun w q => m_ws_in (wi_X7 w q)) hown hR rfl 0 (by decide) (hts _ (m_ws_in wm_1_11)) (fun _ h9 => h9) (m_gr_spec hc9) dX7_claim_54 ?_
      refine lv_dup hx hb dX7_claim_57 rfl ?_
      obtain ⟨x58, hc9, hrun⟩ := m_bind hrun
      refine mr_getN (C := RX3) (T := TX3) (N := 10) (ci := 2) hx hb hts (fun w q => m_ws_in (wi_X3 w q)) hown hR rfl 9 (by decide) (hE.nf (i := 10) rfl) (fun _ h9 => h9) (m_gi_spec hc9) dX7_claim_58 ?_
      refine lv_iconst (v := 1) hx hb dX7_claim_61 (by decide) ?_
      refine lv_iadd hx hb dX7_claim_62 ?_
      obtain ⟨h63, hc9, hrun⟩ := m_bind hrun
      refine mr_putN (C := RX3) (T := TX3) (N := 10) (ci := 2) hx hb hts (fun w q => m_ws_in (wi_X3 w q)) tyX3 tyX3_ok nmX3 hown hR hz hS rfl 9 (by decide) (hE.nf (i := 10) rfl) (fun _ h9 => h9) rfl (tyX3_ok 9 (by decide)) rfl rfl hc9 dX7_claim_63 (fun H locs hR hz hS => ?_)
      exact k_X7_claim_b66 hx hb hr hml hown hts hlocks hin hE hA hfl hout _ _ _ _ _ hrun hR hz hS (lv_sub hl [0] rfl)
    · have hrun := mt_t hrun hc
      refine lv_aload_n hx hb dX7_claim_43 rfl (lv_at hl 1 rfl) ?_
      refine lv_iload_n hx hb dX7_claim_44 rfl (lv_at hl 2 rfl) ?_
      refine lv_iload_n hx hb dX7_claim_45 rfl (lv_at hl 3 rfl) ?_
      refine lv_iload_n hx hb dX7_claim_46 rfl (lv_at hl 4 rfl) ?_
      obtain ⟨_, ho9, hrun⟩ := m_bind hrun
      obtain ⟨fs9, ho9⟩ := m_is_spec ho9
      obtain ⟨h47, hc9, hrun⟩ := m_bind hrun
      refine mr_callv (mr_runV (As := [.int v1, .int v2, .int v3]) (rest := []) hx hb hml hown hts (c_X7_fillIn l D ids st z hc9) yk_X7_fillIn ys_X7_fillIn wm_2_145 ⟨(Nat.le_of_ble_eq_true rfl), (Nat.le_of_ble_eq_true rfl)⟩ (mr_recv (ci := 5) hR hE hz hS hA rfl ho9) hl.1 rfl (Nat.le_of_ble_eq_true rfl) dX7_claim_47 ⟨(Nat.le_of_ble_eq_true rfl), (Nat.le_of_ble_eq_true rfl)⟩) hR hz hS hA (fun H locs hR hz hS => ?_)
      refine lv_goto (tgt := 66) hx hb dX7_claim_50 (by decide) ?_
      exact k_X7_claim_b66 hx hb hr hml hown hts hlocks hin hE hA hfl hout _ _ _ _ _ hrun hR hz hS (lv_sub hl [0] rfl)
  · have hrun := mt_t hrun hc
    obtain ⟨rfl, rfl⟩ := Prod.mk.inj (Option.some.inj hrun)
    exact mr_throw (text := "minute or station is out of range") hx hb hfl hown hts hml hE yt_72 (List.mem_of_getElem? (i := 3) rfl) hR hS hl.1 dX7_claim_8 dX7_claim_11 dX7_claim_12 dX7_claim_14 dX7_claim_17 hout hlocks (Nat.le_of_ble_eq_true rfl) (Nat.le_of_ble_eq_true rfl) (Nat.le_of_ble_eq_true rfl) (Nat.le_of_ble_eq_true rfl) (Nat.le_of_ble_eq_true rfl) (Nat.le_of_ble_eq_true rfl)
/-! L_claim -/
abbrev rm_L_claim : Room := { frames := 8, cells := 1, slots := 6, locals := 185 }
theorem yk_L_claim : m_KH yL_claim cL_claim 6 (some .int) [(0, 12, 15, 13)] 5 := ⟨wm_2_125, wm_0_0, by decide +kernel⟩
theorem ys_L_claim : Cond.static yL_claim ∈ wT := wm_2_124
set_option maxRecDepth 100000 in
set_option maxHeartbeats 4000000 in
theorem c_L_claim (l : Launch) (hfl : l.stackTraces = false) (D : va_G) (ids : m_I3) (st : m_T) (z : Nat) {h : mH} {v0 : Nat} {v1 : Int32} {v2 : Int32} {v3 : Int32} {v4 : Nat} {r : Int32} {hF : mH} (hrun : s_L_claim h v0 v1 v2 v3 v4 = some (r, hF)) : Met l yL_claim (m_wsH yL_claim cL_claim 6 (some .int) [(0, 12, 15, 13)]) rm_L_claim (mPc D ids st [.ref v0, .int v1, .int v2, .int v3, .ref v4] h z) (mQwi D ids (m_A h z) r hF) rm_L_claim.cells rm_L_claim.slots (m_A h z) := by
  refine mr_ofH (cc := cL_claim) (maxL := 6) (ret := some .int) (hh := [(0, 12, 15, 13)]) (by decide) rfl (Nat.le_of_ble_eq_true rfl) ?_
  intro p e s m below meth c ls hx hb hr hml hown hts hlocks hin htab hR hE hz hl
  have hA : ∀ q, s.heap.size ≤ q → m_A h z q := fun q hq => Or.inr (by rw [← hz]; exact hq)
  have hS : va_S (m_A h z) s.heap s.heap [] := va_S.rf
  have hl : lv_has ls 6 [(0, .ref v0), (1, .int v1), (2, .int v2), (3, .int v3), (4, .ref v4)] := hl
  unfold s_L_claim at hrun
  refine lv_aload hx hb dL_claim_0 (lv_at hl 4 rfl) ?_
  refine lv_iconst (v := 0) hx hb dL_claim_2 (by decide) ?_
  refine lv_aload_n hx hb dL_claim_3 rfl (lv_at hl 0 rfl) ?_
  refine lv_iload_n hx hb dL_claim_4 rfl (lv_at hl 1 rfl) ?_
  refine lv_iload_n hx hb dL_claim_5 rfl (lv_at hl 2 rfl) ?_
  refine lv_iload_n hx hb dL_claim_6 rfl (lv_at hl 3 rfl) ?_
  obtain ⟨_, ho9, hrun⟩ := m_bind hrun
  obtain ⟨fs9, ho9⟩ := m_is_spec ho9
  obtain ⟨⟨r7, h7⟩, hc9, hrun⟩ := m_bind hrun
  refine mrx_calli (mrx_runV (As := [.int v1, .int v2, .int v3]) (rest := [.int 0, .ref v4]) hx hb hml hown hts (c_X7_claim l hfl D ids st z hc9) yk_X7_claim ys_X7_claim wm_2_126 ⟨(Nat.le_of_ble_eq_true rfl), (Nat.le_of_ble_eq_true rfl)⟩ (mr_recv (ci := 5) hR hE hz hS hA rfl ho9) hl.1 rfl (Nat.le_of_ble_eq_true rfl) dL_claim_7 ⟨(Nat.le_of_ble_eq_true rfl), (Nat.le_of_ble_eq_true rfl)⟩) hR hz hS hA (fun E9 ce9 q9 H locs hr9 hR hS hce hcv hcl => ?_) (fun x7 H locs hr9 hR hS => ?_)
  · subst hr9
    obtain ⟨z, hz⟩ : ∃ z, H.size = z := ⟨_, rfl⟩
    by_cases hc0 : E9 = "java/lang/IllegalArgumentException"
    · have hrun := mt_t hrun hc0
      rw [hc0] at hcl
      refine mr_catch0 hown htab (by decide) (by decide) (hts _ (List.mem_cons_of_mem _ wm_1_216)) hE.2.2.2.2.2.2.2 (List.mem_of_getElem? (i := 0) rfl) hce hcv hcl ?_
      refine lv_astore (lv' := [(5, .ref q9), (0, .ref v0), (1, .int v1), (2, .int v2), (3, .int v3), (4, .ref v4)]) hx hb dL_claim_15 hl (by decide) rfl (fun ls hl => ?_)
      refine lv_iconst (v := 1) hx hb dL_claim_17 (by decide) ?_
      obtain ⟨rfl, rfl⟩ := Prod.mk.inj (Option.some.inj hrun)
      exact mrw_iret hx hb hr hlocks hR hS dL_claim_18 (Nat.le_of_ble_eq_true rfl) (Nat.le_of_ble_eq_true rfl)
    have hrun := mt_f hrun hc0
    exact absurd hrun (fun h9 => nomatch h9)
  · subst hr9
    obtain ⟨z, hz⟩ : ∃ z, H.size = z := ⟨_, rfl⟩
    refine lv_i2l (v := x7.toInt64) hx hb dL_claim_10 rfl ?_
    obtain ⟨h11, hc9, hrun⟩ := m_bind hrun
    refine mr_last hx hb hR hz hS hc9 dL_claim_11 (fun H locs hR hz hS => ?_)
    refine lv_goto (tgt := 19) hx hb dL_claim_12 (by decide) ?_
    refine lv_iconst (v := 0) hx hb dL_claim_19 (by decide) ?_
    obtain ⟨rfl, rfl⟩ := Prod.mk.inj (Option.some.inj hrun)
    exact mrw_iret hx hb hr hlocks hR hS dL_claim_20 (Nat.le_of_ble_eq_true rfl) (Nat.le_of_ble_eq_true rfl)
/-! X3_enter -/
abbrev rm_X3_enter : Room := { frames := 1, cells := 0, slots := 0, locals := 22 }
theorem yk_X3_enter : m_K yX3_enter cX3_enter 5 (none) 3 := ⟨wm_2_167, wm_0_2, by decide +kernel⟩
theorem ys_X3_enter : Cond.static yX3_enter ∈ wT := wm_2_166
set_option maxRecDepth 100000 in
set_option maxHeartbeats 4000000 in
theorem k_X3_enter_L9 {p : Program} {l : Launch} {e : Env} {s : State} {m : MethodId} {args : Array Value} {below : List Frame} {meth : Method} {c : Code} {D : va_G} {ids : m_I3} {st : m_T} {A : Nat → Prop} {z : Nat} {hF : mH} (hx : p.tables.exec = Jvm.exec) (hb : c.code = cX3_enter) (hr : meth.sig.returnType = none) (hml : c.maxLocals = 5) (hown : s.vm.findClass RX3 = some m.cls) (hts : ∀ w ∈ (m_ws yX3_enter cX3_enter 5 (none)), w.before args s = true) (hlocks : meth.locks = false) (hin : meth.name = yX3_enter.name) (hE : m_EV st A s s.heap) (hA : ∀ q, s.heap.size ≤ q → A q) : ∀ (n : Nat) (h : mH) (v0 : Nat) (v2 : Int32) (v3 : Int32) (v4 : Int32) (H : Heap) (locs : List Loc) (ls : Array Slot), s_X3_enter_L9 n h v0 v2 v3 v4 = some hF → Rl D ids A h s H → H.size = z → va_S A s.heap H locs → lv_has ls 5 [(0, .ref v0), (2, .int v2), (3, .int v3), (4, .int v4)] → W p l e rm_X3_enter s m args below meth c H locs 0 0 (MQ below (mQv D ids A hF z) args s 0 0 A) (F0 m 9 ls []) := by
  intro n
  induction n with
  | zero => intro h v0 v2 v3 v4 H locs ls hrun; exact absurd hrun (by intro h9; cases h9)
  | succ n ih =>
    intro h v0 v2 v3 v4 H locs ls hrun hR hz hS hl
    rw [s_X3_enter_L9] at hrun
    refine lv_iload hx hb dX3_enter_9 (lv_at hl 3 rfl) ?_
    refine lv_if_le (tgt := 38) hx hb dX3_enter_11 (by decide) (fun hc => ?_) (fun hc => ?_)
    · have hrun := mt_t hrun hc
      refine lv_aload_n hx hb dX3_enter_38 rfl (lv_at hl 0 rfl) ?_
      refine lv_iload_n hx hb dX3_enter_39 rfl (lv_at hl 2 rfl) ?_
      refine lv_iload_n hx hb dX3_enter_40 rfl (lv_at hl 1 rfl) ?_
      obtain ⟨h41, hc9, hrun⟩ := m_bind hrun
      refine mr_callv (mr_runS (As := [.ref v0, .int v3, .int v2]) (rest := []) hx hb hml hown hts (c_X1_put l D ids st z hc9) yk_X1_put ys_X1_put wm_2_163 ⟨(Nat.le_of_ble_eq_true rfl), (Nat.le_of_ble_eq_true rfl)⟩ (mr_recvS hR hE hz hS hA) hl.1 rfl (Nat.le_of_ble_eq_true rfl) dX3_enter_41 ⟨(Nat.le_of_ble_eq_true rfl), (Nat.le_of_ble_eq_true rfl)⟩) hR hz hS hA (fun H locs hR hz hS => ?_)
      obtain rfl := Option.some.inj hrun
      exact mr_vret hx hb hr hlocks hR hz hS dX3_enter_44
    · have hrun := mt_f hrun hc
      refine lv_aload_n hx hb dX3_enter_14 rfl (lv_at hl 0 rfl) ?_
      refine lv_iload_n hx hb dX3_enter_15 rfl (lv_at hl 2 rfl) ?_
      refine lv_iload hx hb dX3_enter_16 (lv_at hl 3 rfl) ?_
      refine lv_iadd hx hb dX3_enter_18 ?_
      refine lv_aload_n hx hb dX3_enter_19 rfl (lv_at hl 0 rfl) ?_
      refine lv_iload_n hx hb dX3_enter_20 rfl (lv_at hl 2 rfl) ?_
      refine lv_iload hx hb dX3_enter_21 (lv_at hl 3 rfl) ?_
      refine lv_iadd hx hb dX3_enter_23 ?_
      refine lv_iconst (v := 1) hx hb dX3_enter_24 (by decide) ?_
      refine lv_isub hx hb dX3_enter_25 ?_
      obtain ⟨x26, hc9, hrun⟩ := m_bind hrun
      refine mr_calli (mr_runS (As := [.ref v0, .int ((v3 + v4) - 1)]) (rest := [.int (v3 + v4), .ref v0]) hx hb hml hown hts (c_X1_at l D ids st z hc9) yk_X1_at ys_X1_at wm_1_175 ⟨(Nat.le_of_ble_eq_true rfl), (Nat.le_of_ble_eq_true rfl)⟩ (mr_recvS hR hE hz hS hA) hl.1 rfl (Nat.le_of_ble_eq_true rfl) dX3_enter_26 ⟨(Nat.le_of_ble_eq_true rfl), (Nat.le_of_ble_eq_true rfl)⟩) hR hz hS hA (fun H locs hR hz hS => ?_)
      obtain ⟨h29, hc9, hrun⟩ := m_bind hrun
      refine mr_callv (mr_runS (As := [.ref v0, .int (v3 + v4), .int x26]) (rest := []) hx hb hml hown hts (c_X1_put l D ids st z hc9) yk_X1_put ys_X1_put wm_2_163 ⟨(Nat.le_of_ble_eq_true rfl), (Nat.le_of_ble_eq_true rfl)⟩ (mr_recvS hR hE hz hS hA) hl.1 rfl (Nat.le_of_ble_eq_true rfl) dX3_enter_29 ⟨(Nat.le_of_ble_eq_true rfl), (Nat.le_of_ble_eq_true rfl)⟩) hR hz hS hA (fun H locs hR hz hS => ?_)
      refine lv_iinc (v := v4 + (-1)) (lv' := [(4, .int (v4 + (-1))), (0, .ref v0), (2, .int v2), (3, .int v3)]) hx hb dX3_enter_32 hl (k := 3) rfl rfl (by decide) rfl (fun ls hl => ?_)
      refine lv_goto (tgt := 9) hx hb dX3_enter_35 (by decide) ?_
      exact ih _ _ _ _ _ _ _ _ hrun hR hz hS (lv_sub hl [1, 2, 3, 0] rfl)
set_option maxRecDepth 100000 in
set_option maxHeartbeats 4000000 in
theorem c_X3_enter (l : Launch) (D : va_G) (ids : m_I3) (st : m_T) (z : Nat) {h : mH} {v0 : Nat} {v1 : Int32} {v2 : Int32} {hF : mH} (hrun : s_X3_enter h v0 v1 v2 = some hF) : Met l yX3_enter (m_ws yX3_enter cX3_enter 5 (none)) rm_X3_enter (mPc D ids st [.ref v0, .int v1, .int v2] h z) (mQv D ids (m_A h z) hF z) rm_X3_enter.cells rm_X3_enter.slots (m_A h z) := by
  refine mr_of (cc := cX3_enter) (maxL := 5) (ret := none) (by decide) rfl (Nat.le_of_ble_eq_true rfl) ?_
  intro p e s m below meth c ls hx hb hr hml hown hts hlocks hin hR hE hz hl
  have hA : ∀ q, s.heap.size ≤ q → m_A h z q := fun q hq => Or.inr (by rw [← hz]; exact hq)
  have hS : va_S (m_A h z) s.heap s.heap [] := va_S.rf
  have hl : lv_has ls 5 [(0, .ref v0), (1, .int v1), (2, .int v2)] := hl
  unfold s_X3_enter at hrun
  refine lv_iload_n hx hb dX3_enter_0 rfl (lv_at hl 1 rfl) ?_
  refine lv_bipush (v := 8) hx hb dX3_enter_1 (by decide) ?_
  refine lv_imul hx hb dX3_enter_3 ?_
  refine lv_istore_n (lv' := [(3, .int (v1 * 8)), (0, .ref v0), (1, .int v1), (2, .int v2)]) hx hb dX3_enter_4 rfl hl (by decide) rfl (fun ls hl => ?_)
  refine lv_bipush (v := 7) hx hb dX3_enter_5 (by decide) ?_
  refine lv_istore (lv' := [(4, .int 7), (3, .int (v1 * 8)), (0, .ref v0), (1, .int v1), (2, .int v2)]) hx hb dX3_enter_7 hl (by decide) rfl (fun ls hl => ?_)
  exact k_X3_enter_L9 hx hb hr hml hown hts hlocks hin hE hA _ _ _ _ _ _ _ _ _ hrun hR hz hS (lv_sub hl [2, 4, 1, 0] rfl)
