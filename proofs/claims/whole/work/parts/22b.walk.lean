/-! the machine does it: laid by program -/
/-! X8_settle -/
abbrev rm_X8_settle : Room := { frames := 6, cells := 0, slots := 0, locals := 142 }
theorem yk_X8_settle : m_K yX8_settle cX8_settle 6 (some .int) 1 := ⟨wm_3_145, wm_0_10, by decide +kernel⟩
theorem ys_X8_settle : Cond.instanceMethod yX8_settle ∈ wT ∧ Cond.selects RX8 yX8_settle yX8_settle ∈ wT := ⟨wm_3_143, wm_3_144⟩
set_option maxRecDepth 100000 in
set_option maxHeartbeats 4000000 in
theorem k_X8_settle_b131 {p : Program} {l : Launch} {e : Env} {s : State} {m : MethodId} {args : Array Value} {below : List Frame} {meth : Method} {c : Code} {D : va_G} {ids : m_I3} {st : m_T} {A : Nat → Prop} {z : Nat} {r : Int32} {hF : mH} (hx : p.tables.exec = Jvm.exec) (hb : c.code = cX8_settle) (hr : meth.sig.returnType = some .int) (hml : c.maxLocals = 6) (hown : s.vm.findClass RX8 = some m.cls) (hts : ∀ w ∈ (m_ws yX8_settle cX8_settle 6 (some .int)), w.before args s = true) (hlocks : meth.locks = false) (hin : meth.name = yX8_settle.name) (hE : m_EV st A s s.heap) (hA : ∀ q, s.heap.size ≤ q → A q) {k28 : mH → Nat → Int32 → Int32 → Int32 → Option (Int32 × mH)} (hk28 : ∀ (h : mH) (v0 : Nat) (v1 : Int32) (v2 : Int32) (v3 : Int32) (H : Heap) (locs : List Loc) (ls : Array Slot), k28 h v0 v1 v2 v3 = some (r, hF) → Rl D ids A h s H → H.size = z → va_S A s.heap H locs → lv_has ls 6 [(0, .ref v0), (1, .int v1), (2, .int v2), (3, .int v3)] → W p l e rm_X8_settle s m args below meth c H locs 0 0 (MQ below (mQi D ids A r hF z) args s 0 0 A) (F0 m 28 ls [])) (h : mH) (v0 : Nat) (v1 : Int32) (v2 : Int32) (v3 : Int32) (v5 : Int32) (t0 : Nat) (t1 : Int32) (t2 : Int32) (t3 : Int32) (H : Heap) (locs : List Loc) (ls : Array Slot) (hrun : s_X8_settle_b131 k28 h v0 v1 v2 v3 v5 t0 t1 t2 t3 = some (r, hF)) (hR : Rl D ids A h s H) (hz : H.size = z) (hS : va_S A s.heap H locs) (hl : lv_has ls 6 [(0, .ref v0), (1, .int v1), (2, .int v2), (3, .int v3), (5, .int v5)]) : W p l e rm_X8_settle s m args below meth c H locs 0 0 (MQ below (mQi D ids A r hF z) args s 0 0 A) (F0 m 131 ls [.int t3, .int t2, .int t1, .ref t0]) := by
  unfold s_X8_settle_b131 at hrun
  refine lv_iadd hx hb dX8_settle_131 ?_
  obtain ⟨h132, hc9, hrun⟩ := m_bind hrun
  refine mr_iast hx hb hR hz hS hc9 dX8_settle_132 (fun H locs hR hz hS => ?_)
  refine lv_aload_n hx hb dX8_settle_133 rfl (lv_at hl 0 rfl) ?_
  refine lv_iload_n hx hb dX8_settle_134 rfl (lv_at hl 3 rfl) ?_
  refine lv_iload_n hx hb dX8_settle_135 rfl (lv_at hl 1 rfl) ?_
  refine lv_iload hx hb dX8_settle_136 (lv_at hl 4 rfl) ?_
  obtain ⟨_, ho9, hrun⟩ := m_bind hrun
  obtain ⟨fs9, ho9⟩ := m_is_spec ho9
  obtain ⟨h138, hc9, hrun⟩ := m_bind hrun
  refine mr_callv (mr_runV (As := [.int v3, .int v1, .int v5]) (rest := []) hx hb hml hown hts (c_X8_entersLedger l D ids st z hc9) yk_X8_entersLedger ys_X8_entersLedger wm_3_166 ⟨(Nat.le_of_ble_eq_true rfl), (Nat.le_of_ble_eq_true rfl)⟩ (mr_recv (ci := 6) hR hE hz hS hA rfl ho9) hl.1 rfl (Nat.le_of_ble_eq_true rfl) dX8_settle_138 ⟨(Nat.le_of_ble_eq_true rfl), (Nat.le_of_ble_eq_true rfl)⟩) hR hz hS hA (fun H locs hR hz hS => ?_)
  refine lv_iload_n hx hb dX8_settle_141 rfl (lv_at hl 2 rfl) ?_
  refine lv_iload hx hb dX8_settle_142 (lv_at hl 4 rfl) ?_
  refine lv_iadd hx hb dX8_settle_144 ?_
  refine lv_istore_n (lv' := [(2, .int (v2 + v5)), (0, .ref v0), (1, .int v1), (3, .int v3), (5, .int v5)]) hx hb dX8_settle_145 rfl hl (by decide) rfl (fun ls hl => ?_)
  refine lv_iinc (v := v3 + 1) (lv' := [(3, .int (v3 + 1)), (2, .int (v2 + v5)), (0, .ref v0), (1, .int v1), (5, .int v5)]) hx hb dX8_settle_146 hl (k := 3) rfl rfl (by decide) rfl (fun ls hl => ?_)
  refine lv_goto (tgt := 28) hx hb dX8_settle_149 (by decide) ?_
  exact hk28 _ _ _ _ _ _ _ _ hrun hR hz hS (lv_sub hl [2, 3, 1, 0] rfl)
set_option maxRecDepth 100000 in
set_option maxHeartbeats 4000000 in
theorem k_X8_settle_b109 {p : Program} {l : Launch} {e : Env} {s : State} {m : MethodId} {args : Array Value} {below : List Frame} {meth : Method} {c : Code} {D : va_G} {ids : m_I3} {st : m_T} {A : Nat → Prop} {z : Nat} {r : Int32} {hF : mH} (hx : p.tables.exec = Jvm.exec) (hb : c.code = cX8_settle) (hr : meth.sig.returnType = some .int) (hml : c.maxLocals = 6) (hown : s.vm.findClass RX8 = some m.cls) (hts : ∀ w ∈ (m_ws yX8_settle cX8_settle 6 (some .int)), w.before args s = true) (hlocks : meth.locks = false) (hin : meth.name = yX8_settle.name) (hE : m_EV st A s s.heap) (hA : ∀ q, s.heap.size ≤ q → A q) {k28 : mH → Nat → Int32 → Int32 → Int32 → Option (Int32 × mH)} (hk28 : ∀ (h : mH) (v0 : Nat) (v1 : Int32) (v2 : Int32) (v3 : Int32) (H : Heap) (locs : List Loc) (ls : Array Slot), k28 h v0 v1 v2 v3 = some (r, hF) → Rl D ids A h s H → H.size = z → va_S A s.heap H locs → lv_has ls 6 [(0, .ref v0), (1, .int v1), (2, .int v2), (3, .int v3)] → W p l e rm_X8_settle s m args below meth c H locs 0 0 (MQ below (mQi D ids A r hF z) args s 0 0 A) (F0 m 28 ls [])) (h : mH) (v0 : Nat) (v1 : Int32) (v2 : Int32) (v3 : Int32) (v5 : Int32) (t0 : Nat) (t1 : Int32) (t2 : Int32) (t3 : Int32) (H : Heap) (locs : List Loc) (ls : Array Slot) (hrun : s_X8_settle_b109 k28 h v0 v1 v2 v3 v5 t0 t1 t2 t3 = some (r, hF)) (hR : Rl D ids A h s H) (hz : H.size = z) (hS : va_S A s.heap H locs) (hl : lv_has ls 6 [(0, .ref v0), (1, .int v1), (2, .int v2), (3, .int v3), (5, .int v5)]) : W p l e rm_X8_settle s m args below meth c H locs 0 0 (MQ below (mQi D ids A r hF z) args s 0 0 A) (F0 m 109 ls [.int t3, .int t2, .int t1, .ref t0]) := by
  unfold s_X8_settle_b109 at hrun
  refine lv_iadd hx hb dX8_settle_109 ?_
  obtain ⟨h110, hc9, hrun⟩ := m_bind hrun
  refine mr_iast hx hb hR hz hS hc9 dX8_settle_110 (fun H locs hR hz hS => ?_)
  refine lv_aload_n hx hb dX8_settle_111 rfl (lv_at hl 0 rfl) ?_
  obtain ⟨x112, hc9, hrun⟩ := m_bind hrun
  refine mr_get (C := RX8) (T := TX8) (N := 13) (ci := 6) hx hb hts (fun w q => m_ws_in (wi_X8 w q)) hown hR rfl 1 (by decide) (hts _ (m_ws_in wm_3_34)) (fun _ h9 => h9) (m_gr_spec hc9) dX8_settle_112 ?_
  refine lv_bipush (v := 7) hx hb dX8_settle_115 (by decide) ?_
  refine lv_dup2_11 hx hb dX8_settle_117 rfl rfl ?_
  obtain ⟨x118, hc9, hrun⟩ := m_bind hrun
  refine mr_iald hx hb hR hc9 dX8_settle_118 ?_
  refine lv_iload hx hb dX8_settle_119 (lv_at hl 4 rfl) ?_
  refine lv_if_ge (tgt := 130) hx hb dX8_settle_121 (by decide) (fun hc => ?_) (fun hc => ?_)
  · have hrun := mt_t hrun hc
    refine lv_iconst (v := 0) hx hb dX8_settle_130 (by decide) ?_
    exact k_X8_settle_b131 hx hb hr hml hown hts hlocks hin hE hA hk28 _ _ _ _ _ _ _ _ _ _ _ _ _ hrun hR hz hS (lv_sub hl [0, 1, 2, 3, 4] rfl)
  · have hrun := mt_f hrun hc
    refine lv_iload hx hb dX8_settle_124 (lv_at hl 4 rfl) ?_
    refine lv_ineg hx hb dX8_settle_126 ?_
    refine lv_goto (tgt := 131) hx hb dX8_settle_127 (by decide) ?_
    exact k_X8_settle_b131 hx hb hr hml hown hts hlocks hin hE hA hk28 _ _ _ _ _ _ _ _ _ _ _ _ _ hrun hR hz hS (lv_sub hl [0, 1, 2, 3, 4] rfl)
set_option maxRecDepth 100000 in
set_option maxHeartbeats 4000000 in
theorem k_X8_settle_L28 {p : Program} {l : Launch} {e : Env} {s : State} {m : MethodId} {args : Array Value} {below : List Frame} {meth : Method} {c : Code} {D : va_G} {ids : m_I3} {st : m_T} {A : Nat → Prop} {z : Nat} {r : Int32} {hF : mH} (hx : p.tables.exec = Jvm.exec) (hb : c.code = cX8_settle) (hr : meth.sig.returnType = some .int) (hml : c.maxLocals = 6) (hown : s.vm.findClass RX8 = some m.cls) (hts : ∀ w ∈ (m_ws yX8_settle cX8_settle 6 (some .int)), w.before args s = true) (hlocks : meth.locks = false) (hin : meth.name = yX8_settle.name) (hE : m_EV st A s s.heap) (hA : ∀ q, s.heap.size ≤ q → A q) : ∀ (n : Nat) (h : mH) (v0 : Nat) (v1 : Int32) (v2 : Int32) (v3 : Int32) (H : Heap) (locs : List Loc) (ls : Array Slot), s_X8_settle_L28 n h v0 v1 v2 v3 = some (r, hF) → Rl D ids A h s H → H.size = z → va_S A s.heap H locs → lv_has ls 6 [(0, .ref v0), (1, .int v1), (2, .int v2), (3, .int v3)] → W p l e rm_X8_settle s m args below meth c H locs 0 0 (MQ below (mQi D ids A r hF z) args s 0 0 A) (F0 m 28 ls []) := by
  intro n
  induction n with
  | zero => intro h v0 v1 v2 v3 H locs ls hrun; exact absurd hrun (by intro h9; cases h9)
  | succ n ih =>
    intro h v0 v1 v2 v3 H locs ls hrun hR hz hS hl
    rw [s_X8_settle_L28] at hrun
    refine lv_iload_n hx hb dX8_settle_28 rfl (lv_at hl 3 rfl) ?_
    refine lv_iconst (v := 4) hx hb dX8_settle_29 (by decide) ?_
    refine lv_icmp_ge (tgt := 152) hx hb dX8_settle_30 (by decide) (fun hc => ?_) (fun hc => ?_)
    · have hrun := mt_t hrun hc
      refine lv_iload_n hx hb dX8_settle_152 rfl (lv_at hl 2 rfl) ?_
      refine lv_ldc (v := 100000) hx hb hown (hts _ (m_ws_in wm_3_170)) dX8_settle_153 ?_
      refine lv_iadd hx hb dX8_settle_155 ?_
      obtain ⟨rfl, rfl⟩ := Prod.mk.inj (Option.some.inj hrun)
      exact mr_iret hx hb hr hlocks hR hz hS dX8_settle_156
    · have hrun := mt_f hrun hc
      refine lv_iconst (v := 4) hx hb dX8_settle_33 (by decide) ?_
      refine lv_iload_n hx hb dX8_settle_34 rfl (lv_at hl 3 rfl) ?_
      refine lv_imul hx hb dX8_settle_35 ?_
      refine lv_iload_n hx hb dX8_settle_36 rfl (lv_at hl 1 rfl) ?_
      refine lv_iadd hx hb dX8_settle_37 ?_
      refine lv_istore (lv' := [(4, .int ((4 * v3) + v1)), (0, .ref v0), (1, .int v1), (2, .int v2), (3, .int v3)]) hx hb dX8_settle_38 hl (by decide) rfl (fun ls hl => ?_)
      refine lv_aload_n hx hb dX8_settle_40 rfl (lv_at hl 1 rfl) ?_
      refine lv_iload_n hx hb dX8_settle_41 rfl (lv_at hl 4 rfl) ?_
      refine lv_iload_n hx hb dX8_settle_42 rfl (lv_at hl 2 rfl) ?_
      obtain ⟨_, ho9, hrun⟩ := m_bind hrun
      obtain ⟨fs9, ho9⟩ := m_is_spec ho9
      obtain ⟨⟨x43, h43⟩, hc9, hrun⟩ := m_bind hrun
      refine mr_calli (mr_runV (As := [.int v3, .int v1]) (rest := []) hx hb hml hown hts (c_X8_costs l D ids st z hc9) yk_X8_costs ys_X8_costs wm_3_146 ⟨(Nat.le_of_ble_eq_true rfl), (Nat.le_of_ble_eq_true rfl)⟩ (mr_recv (ci := 6) hR hE hz hS hA rfl ho9) hl.1 rfl (Nat.le_of_ble_eq_true rfl) dX8_settle_43 ⟨(Nat.le_of_ble_eq_true rfl), (Nat.le_of_ble_eq_true rfl)⟩) hR hz hS hA (fun H locs hR hz hS => ?_)
      refine lv_aload_n hx hb dX8_settle_46 rfl (lv_at hl 1 rfl) ?_
      obtain ⟨x47, hc9, hrun⟩ := m_bind hrun
      refine mr_get (C := RX8) (T := TX8) (N := 13) (ci := 6) hx hb hts (fun w q => m_ws_in (wi_X8 w q)) hown hR rfl 1 (by decide) (hts _ (m_ws_in wm_3_34)) (fun _ h9 => h9) (m_gr_spec hc9) dX8_settle_47 ?_
      refine lv_sipush (v := 376) hx hb dX8_settle_50 (by decide) ?_
      refine lv_iload hx hb dX8_settle_53 (lv_at hl 0 rfl) ?_
      refine lv_iadd hx hb dX8_settle_55 ?_
      obtain ⟨x56, hc9, hrun⟩ := m_bind hrun
      refine mr_iald hx hb hR hc9 dX8_settle_56 ?_
      refine lv_isub hx hb dX8_settle_57 ?_
      refine lv_istore (lv' := [(5, .int (x43 - x56)), (4, .int ((4 * v3) + v1)), (0, .ref v0), (1, .int v1), (2, .int v2), (3, .int v3)]) hx hb dX8_settle_58 hl (by decide) rfl (fun ls hl => ?_)
      refine lv_aload_n hx hb dX8_settle_60 rfl (lv_at hl 2 rfl) ?_
      obtain ⟨x61, hc9, hrun⟩ := m_bind hrun
      refine mr_get (C := RX8) (T := TX8) (N := 13) (ci := 6) hx hb hts (fun w q => m_ws_in (wi_X8 w q)) hown hR rfl 1 (by decide) (hts _ (m_ws_in wm_3_34)) (fun _ h9 => h9) (m_gr_spec hc9) dX8_settle_61 ?_
      refine lv_sipush (v := 376) hx hb dX8_settle_64 (by decide) ?_
      refine lv_iload hx hb dX8_settle_67 (lv_at hl 1 rfl) ?_
      refine lv_iadd hx hb dX8_settle_69 ?_
      refine lv_dup2_11 hx hb dX8_settle_70 rfl rfl ?_
      obtain ⟨x71, hc9, hrun⟩ := m_bind hrun
      refine mr_iald hx hb hR hc9 dX8_settle_71 ?_
      refine lv_iload hx hb dX8_settle_72 (lv_at hl 0 rfl) ?_
      refine lv_iadd hx hb dX8_settle_74 ?_
      obtain ⟨h75, hc9, hrun⟩ := m_bind hrun
      refine mr_iast hx hb hR hz hS hc9 dX8_settle_75 (fun H locs hR hz hS => ?_)
      refine lv_aload_n hx hb dX8_settle_76 rfl (lv_at hl 2 rfl) ?_
      obtain ⟨x77, hc9, hrun⟩ := m_bind hrun
      refine mr_get (C := RX8) (T := TX8) (N := 13) (ci := 6) hx hb hts (fun w q => m_ws_in (wi_X8 w q)) hown hR rfl 1 (by decide) (hts _ (m_ws_in wm_3_34)) (fun _ h9 => h9) (m_gr_spec hc9) dX8_settle_77 ?_
      refine lv_sipush (v := 408) hx hb dX8_settle_80 (by decide) ?_
      refine lv_iload hx hb dX8_settle_83 (lv_at hl 1 rfl) ?_
      refine lv_iadd hx hb dX8_settle_85 ?_
      refine lv_dup2_11 hx hb dX8_settle_86 rfl rfl ?_
      obtain ⟨x87, hc9, hrun⟩ := m_bind hrun
      refine mr_iald hx hb hR hc9 dX8_settle_87 ?_
      refine lv_iconst (v := 1) hx hb dX8_settle_88 (by decide) ?_
      refine lv_iadd hx hb dX8_settle_89 ?_
      obtain ⟨h90, hc9, hrun⟩ := m_bind hrun
      refine mr_iast hx hb hR hz hS hc9 dX8_settle_90 (fun H locs hR hz hS => ?_)
      refine lv_aload_n hx hb dX8_settle_91 rfl (lv_at hl 2 rfl) ?_
      obtain ⟨x92, hc9, hrun⟩ := m_bind hrun
      refine mr_get (C := RX8) (T := TX8) (N := 13) (ci := 6) hx hb hts (fun w q => m_ws_in (wi_X8 w q)) hown hR rfl 1 (by decide) (hts _ (m_ws_in wm_3_34)) (fun _ h9 => h9) (m_gr_spec hc9) dX8_settle_92 ?_
      refine lv_bipush (v := 6) hx hb dX8_settle_95 (by decide) ?_
      refine lv_dup2_11 hx hb dX8_settle_97 rfl rfl ?_
      obtain ⟨x98, hc9, hrun⟩ := m_bind hrun
      refine mr_iald hx hb hR hc9 dX8_settle_98 ?_
      refine lv_iload hx hb dX8_settle_99 (lv_at hl 0 rfl) ?_
      refine lv_if_ge (tgt := 108) hx hb dX8_settle_101 (by decide) (fun hc => ?_) (fun hc => ?_)
      · have hrun := mt_t hrun hc
        refine lv_iconst (v := 0) hx hb dX8_settle_108 (by decide) ?_
        exact k_X8_settle_b109 hx hb hr hml hown hts hlocks hin hE hA ih _ _ _ _ _ _ _ _ _ _ _ _ _ hrun hR hz hS (lv_sub hl [2, 3, 4, 5, 0] rfl)
      · have hrun := mt_f hrun hc
        refine lv_iconst (v := 1) hx hb dX8_settle_104 (by decide) ?_
        refine lv_goto (tgt := 109) hx hb dX8_settle_105 (by decide) ?_
        exact k_X8_settle_b109 hx hb hr hml hown hts hlocks hin hE hA ih _ _ _ _ _ _ _ _ _ _ _ _ _ hrun hR hz hS (lv_sub hl [2, 3, 4, 5, 0] rfl)
set_option maxRecDepth 100000 in
set_option maxHeartbeats 4000000 in
theorem c_X8_settle (l : Launch) (D : va_G) (ids : m_I3) (st : m_T) (z : Nat) {h : mH} {v0 : Nat} {v1 : Int32} {r : Int32} {hF : mH} (hrun : s_X8_settle h v0 v1 = some (r, hF)) : Met l yX8_settle (m_ws yX8_settle cX8_settle 6 (some .int)) rm_X8_settle (mPc D ids st [.ref v0, .int v1] h z) (mQi D ids (m_A h z) r hF z) rm_X8_settle.cells rm_X8_settle.slots (m_A h z) := by
  refine mr_of (cc := cX8_settle) (maxL := 6) (ret := some .int) (by decide) rfl (Nat.le_of_ble_eq_true rfl) ?_
  intro p e s m below meth c ls hx hb hr hml hown hts hlocks hin hR hE hz hl
  have hA : ∀ q, s.heap.size ≤ q → m_A h z q := fun q hq => Or.inr (by rw [← hz]; exact hq)
  have hS : va_S (m_A h z) s.heap s.heap [] := va_S.rf
  have hl : lv_has ls 6 [(0, .ref v0), (1, .int v1)] := hl
  unfold s_X8_settle at hrun
  refine lv_aload_n hx hb dX8_settle_0 rfl (lv_at hl 0 rfl) ?_
  refine lv_iconst (v := 0) hx hb dX8_settle_1 (by decide) ?_
  obtain ⟨h2, hc9, hrun⟩ := m_bind hrun
  refine mr_put (C := RX8) (T := TX8) (N := 13) (ci := 6) hx hb hts (fun w q => m_ws_in (wi_X8 w q)) tyX8 tyX8_ok nmX8 hown hR hz hS rfl 0 (by decide) (hts _ (m_ws_in wm_3_33)) (fun _ h9 => h9) rfl (tyX8_ok 0 (by decide)) rfl rfl hc9 dX8_settle_2 (fun H locs hR hz hS => ?_)
  refine lv_iload_n hx hb dX8_settle_5 rfl (lv_at hl 1 rfl) ?_
  refine lv_iconst (v := 0) hx hb dX8_settle_6 (by decide) ?_
  refine lv_iconst (v := 3) hx hb dX8_settle_7 (by decide) ?_
  obtain ⟨x8, hc9, hrun⟩ := m_bind hrun
  refine mr_calli (mr_runS (As := [.int v1, .int 0, .int 3]) (rest := []) hx hb hml hown hts (c_X8_in l D ids st z hc9) yk_X8_in ys_X8_in wm_3_87 ⟨(Nat.le_of_ble_eq_true rfl), (Nat.le_of_ble_eq_true rfl)⟩ (mr_recvS hR hE hz hS hA) hl.1 rfl (Nat.le_of_ble_eq_true rfl) dX8_settle_8 ⟨(Nat.le_of_ble_eq_true rfl), (Nat.le_of_ble_eq_true rfl)⟩) hR hz hS hA (fun H locs hR hz hS => ?_)
  refine lv_if_ne (tgt := 20) hx hb dX8_settle_11 (by decide) (fun hc => ?_) (fun hc => ?_)
  · have hrun := mt_f hrun hc
    refine lv_aload_n hx hb dX8_settle_20 rfl (lv_at hl 0 rfl) ?_
    obtain ⟨_, ho9, hrun⟩ := m_bind hrun
    obtain ⟨fs9, ho9⟩ := m_is_spec ho9
    obtain ⟨h21, hc9, hrun⟩ := m_bind hrun
    refine mr_callv (mr_runV (As := []) (rest := []) hx hb hml hown hts (c_X8_saves l D ids st z hc9) yk_X8_saves ys_X8_saves wm_3_94 ⟨(Nat.le_of_ble_eq_true rfl), (Nat.le_of_ble_eq_true rfl)⟩ (mr_recv (ci := 6) hR hE hz hS hA rfl ho9) hl.1 rfl (Nat.le_of_ble_eq_true rfl) dX8_settle_21 ⟨(Nat.le_of_ble_eq_true rfl), (Nat.le_of_ble_eq_true rfl)⟩) hR hz hS hA (fun H locs hR hz hS => ?_)
    refine lv_iconst (v := 0) hx hb dX8_settle_24 (by decide) ?_
    refine lv_istore_n (lv' := [(2, .int 0), (0, .ref v0), (1, .int v1)]) hx hb dX8_settle_25 rfl hl (by decide) rfl (fun ls hl => ?_)
    refine lv_iconst (v := 0) hx hb dX8_settle_26 (by decide) ?_
    refine lv_istore_n (lv' := [(3, .int 0), (2, .int 0), (0, .ref v0), (1, .int v1)]) hx hb dX8_settle_27 rfl hl (by decide) rfl (fun ls hl => ?_)
    exact k_X8_settle_L28 hx hb hr hml hown hts hlocks hin hE hA _ _ _ _ _ _ _ _ _ hrun hR hz hS (lv_sub hl [2, 3, 1, 0] rfl)
  · have hrun := mt_t hrun hc
    refine lv_aload_n hx hb dX8_settle_14 rfl (lv_at hl 0 rfl) ?_
    refine lv_iconst (v := 1) hx hb dX8_settle_15 (by decide) ?_
    obtain ⟨_, ho9, hrun⟩ := m_bind hrun
    obtain ⟨fs9, ho9⟩ := m_is_spec ho9
    obtain ⟨⟨x16, h16⟩, hc9, hrun⟩ := m_bind hrun
    refine mr_calli (mr_runV (As := [.int 1]) (rest := []) hx hb hml hown hts (c_X8_fails l D ids st z hc9) yk_X8_fails ys_X8_fails wm_3_90 ⟨(Nat.le_of_ble_eq_true rfl), (Nat.le_of_ble_eq_true rfl)⟩ (mr_recv (ci := 6) hR hE hz hS hA rfl ho9) hl.1 rfl (Nat.le_of_ble_eq_true rfl) dX8_settle_16 ⟨(Nat.le_of_ble_eq_true rfl), (Nat.le_of_ble_eq_true rfl)⟩) hR hz hS hA (fun H locs hR hz hS => ?_)
    obtain ⟨rfl, rfl⟩ := Prod.mk.inj (Option.some.inj hrun)
    exact mr_iret hx hb hr hlocks hR hz hS dX8_settle_19
/-! X8_isSetting -/
abbrev rm_X8_isSetting : Room := { frames := 1, cells := 0, slots := 0, locals := 22 }
theorem yk_X8_isSetting : m_K yX8_isSetting cX8_isSetting 2 (some .boolean) 2 := ⟨wm_3_177, wm_0_10, by decide +kernel⟩
theorem ys_X8_isSetting : Cond.static yX8_isSetting ∈ wT := wm_3_176
set_option maxRecDepth 100000 in
set_option maxHeartbeats 4000000 in
theorem k_X8_isSetting_b32 {p : Program} {l : Launch} {e : Env} {s : State} {m : MethodId} {args : Array Value} {below : List Frame} {meth : Method} {c : Code} {D : va_G} {ids : m_I3} {st : m_T} {A : Nat → Prop} {z : Nat} {r : Int32} (hx : p.tables.exec = Jvm.exec) (hb : c.code = cX8_isSetting) (hr : meth.sig.returnType = some .boolean) (hml : c.maxLocals = 2) (hown : s.vm.findClass RX8 = some m.cls) (hts : ∀ w ∈ (m_ws yX8_isSetting cX8_isSetting 2 (some .boolean)), w.before args s = true) (hlocks : meth.locks = false) (hin : meth.name = yX8_isSetting.name) (hE : m_EV st A s s.heap) (hA : ∀ q, s.heap.size ≤ q → A q) {h : mH} (v1 : Int32) (H : Heap) (locs : List Loc) (ls : Array Slot) (hrun : s_X8_isSetting_b32 h v1 = some r) (hR : Rl D ids A h s H) (hz : H.size = z) (hS : va_S A s.heap H locs) (hl : lv_has ls 2 [(1, .int v1)]) : W p l e rm_X8_isSetting s m args below meth c H locs 0 0 (MQ below (mQi D ids A r h z) args s 0 0 A) (F0 m 32 ls []) := by
  unfold s_X8_isSetting_b32 at hrun
  refine lv_iload_n hx hb dX8_isSetting_32 rfl (lv_at hl 0 rfl) ?_
  refine lv_iconst (v := 0) hx hb dX8_isSetting_33 (by decide) ?_
  refine lv_sipush (v := 999) hx hb dX8_isSetting_34 (by decide) ?_
  obtain ⟨x37, hc9, hrun⟩ := m_bind hrun
  refine mr_calli (mr_runS (As := [.int v1, .int 0, .int 999]) (rest := []) hx hb hml hown hts (c_X8_in l D ids st z hc9) yk_X8_in ys_X8_in wm_3_87 ⟨(Nat.le_of_ble_eq_true rfl), (Nat.le_of_ble_eq_true rfl)⟩ (mr_recvS hR hE hz hS hA) hl.1 rfl (Nat.le_of_ble_eq_true rfl) dX8_isSetting_37 ⟨(Nat.le_of_ble_eq_true rfl), (Nat.le_of_ble_eq_true rfl)⟩) hR hz hS hA (fun H locs hR hz hS => ?_)
  obtain ⟨w9, hzr, hrun⟩ := m_bind hrun
  obtain rfl := Option.some.inj hrun
  exact mr_zret hzr hx hb hr hlocks hR hz hS dX8_isSetting_40
set_option maxRecDepth 100000 in
set_option maxHeartbeats 4000000 in
theorem c_X8_isSetting (l : Launch) (D : va_G) (ids : m_I3) (st : m_T) (z : Nat) {h : mH} {v0 : Int32} {v1 : Int32} {r : Int32} (hrun : s_X8_isSetting h v0 v1 = some r) : Met l yX8_isSetting (m_ws yX8_isSetting cX8_isSetting 2 (some .boolean)) rm_X8_isSetting (mPc D ids st [.int v0, .int v1] h z) (mQi D ids (m_A h z) r h z) rm_X8_isSetting.cells rm_X8_isSetting.slots (m_A h z) := by
  refine mr_of (cc := cX8_isSetting) (maxL := 2) (ret := some .boolean) (by decide) rfl (Nat.le_of_ble_eq_true rfl) ?_
  intro p e s m below meth c ls hx hb hr hml hown hts hlocks hin hR hE hz hl
  have hA : ∀ q, s.heap.size ≤ q → m_A h z q := fun q hq => Or.inr (by rw [← hz]; exact hq)
  have hS : va_S (m_A h z) s.heap s.heap [] := va_S.rf
  have hl : lv_has ls 2 [(0, .int v0), (1, .int v1)] := hl
  unfold s_X8_isSetting at hrun
  refine lv_iload_n hx hb dX8_isSetting_0 rfl (lv_at hl 0 rfl) ?_
  by_cases hc0 : v0 = 0
  · have hrun := mt_t hrun hc0
    refine lv_tableIn (tgt := 32) (off := 31) hx hb dX8_isSetting_1 (by rw [hc0]; decide) (by rw [hc0]; decide) (by rw [hc0]; rfl) (by decide) ?_
    exact k_X8_isSetting_b32 hx hb hr hml hown hts hlocks hin hE hA _ _ _ _ hrun hR hz hS (lv_sub hl [1] rfl)
  have hrun := mt_f hrun hc0
  have hn0 : ¬ (v0).toInt = 0 := lv_neT hc0 rfl
  by_cases hc1 : v0 = 1
  · have hrun := mt_t hrun hc1
    refine lv_tableIn (tgt := 32) (off := 31) hx hb dX8_isSetting_1 (by rw [hc1]; decide) (by rw [hc1]; decide) (by rw [hc1]; rfl) (by decide) ?_
    exact k_X8_isSetting_b32 hx hb hr hml hown hts hlocks hin hE hA _ _ _ _ hrun hR hz hS (lv_sub hl [1] rfl)
  have hrun := mt_f hrun hc1
  have hn1 : ¬ (v0).toInt = 1 := lv_neT hc1 rfl
  by_cases hc2 : v0 = 2
  · have hrun := mt_t hrun hc2
    refine lv_tableIn (tgt := 32) (off := 31) hx hb dX8_isSetting_1 (by rw [hc2]; decide) (by rw [hc2]; decide) (by rw [hc2]; rfl) (by decide) ?_
    exact k_X8_isSetting_b32 hx hb hr hml hown hts hlocks hin hE hA _ _ _ _ hrun hR hz hS (lv_sub hl [1] rfl)
  have hrun := mt_f hrun hc2
  have hn2 : ¬ (v0).toInt = 2 := lv_neT hc2 rfl
  by_cases hc3 : v0 = 3
  · have hrun := mt_t hrun hc3
    refine lv_tableIn (tgt := 41) (off := 40) hx hb dX8_isSetting_1 (by rw [hc3]; decide) (by rw [hc3]; decide) (by rw [hc3]; rfl) (by decide) ?_
    refine lv_iload_n hx hb dX8_isSetting_41 rfl (lv_at hl 1 rfl) ?_
    refine lv_iconst (v := 1) hx hb dX8_isSetting_42 (by decide) ?_
    refine lv_sipush (v := 1439) hx hb dX8_isSetting_43 (by decide) ?_
    obtain ⟨x46, hc9, hrun⟩ := m_bind hrun
    refine mr_calli (mr_runS (As := [.int v1, .int 1, .int 1439]) (rest := []) hx hb hml hown hts (c_X8_in l D ids st z hc9) yk_X8_in ys_X8_in wm_3_87 ⟨(Nat.le_of_ble_eq_true rfl), (Nat.le_of_ble_eq_true rfl)⟩ (mr_recvS hR hE hz hS hA) hl.1 rfl (Nat.le_of_ble_eq_true rfl) dX8_isSetting_46 ⟨(Nat.le_of_ble_eq_true rfl), (Nat.le_of_ble_eq_true rfl)⟩) hR hz hS hA (fun H locs hR hz hS => ?_)
    obtain ⟨w9, hzr, hrun⟩ := m_bind hrun
    obtain rfl := Option.some.inj hrun
    exact mr_zret hzr hx hb hr hlocks hR hz hS dX8_isSetting_49
  have hrun := mt_f hrun hc3
  have hn3 : ¬ (v0).toInt = 3 := lv_neT hc3 rfl
  refine lv_tableOut (tgt := 50) hx hb dX8_isSetting_1 (by omega) (by decide) ?_
  refine lv_iload_n hx hb dX8_isSetting_50 rfl (lv_at hl 1 rfl) ?_
  refine lv_iconst (v := 0) hx hb dX8_isSetting_51 (by decide) ?_
  refine lv_sipush (v := 9999) hx hb dX8_isSetting_52 (by decide) ?_
  obtain ⟨x55, hc9, hrun⟩ := m_bind hrun
  refine mr_calli (mr_runS (As := [.int v1, .int 0, .int 9999]) (rest := []) hx hb hml hown hts (c_X8_in l D ids st z hc9) yk_X8_in ys_X8_in wm_3_87 ⟨(Nat.le_of_ble_eq_true rfl), (Nat.le_of_ble_eq_true rfl)⟩ (mr_recvS hR hE hz hS hA) hl.1 rfl (Nat.le_of_ble_eq_true rfl) dX8_isSetting_55 ⟨(Nat.le_of_ble_eq_true rfl), (Nat.le_of_ble_eq_true rfl)⟩) hR hz hS hA (fun H locs hR hz hS => ?_)
  obtain ⟨w9, hzr, hrun⟩ := m_bind hrun
  obtain rfl := Option.some.inj hrun
  exact mr_zret hzr hx hb hr hlocks hR hz hS dX8_isSetting_58
/-! X8_set -/
abbrev rm_X8_set : Room := { frames := 2, cells := 0, slots := 0, locals := 43 }
theorem yk_X8_set : m_K yX8_set cX8_set 4 (some .int) 2 := ⟨wm_3_174, wm_0_10, by decide +kernel⟩
theorem ys_X8_set : Cond.instanceMethod yX8_set ∈ wT ∧ Cond.selects RX8 yX8_set yX8_set ∈ wT := ⟨wm_3_172, wm_3_173⟩
set_option maxRecDepth 100000 in
set_option maxHeartbeats 4000000 in
theorem c_X8_set (l : Launch) (D : va_G) (ids : m_I3) (st : m_T) (z : Nat) {h : mH} {v0 : Nat} {v1 : Int32} {v2 : Int32} {r : Int32} {hF : mH} (hrun : s_X8_set h v0 v1 v2 = some (r, hF)) : Met l yX8_set (m_ws yX8_set cX8_set 4 (some .int)) rm_X8_set (mPc D ids st [.ref v0, .int v1, .int v2] h z) (mQi D ids (m_A h z) r hF z) rm_X8_set.cells rm_X8_set.slots (m_A h z) := by
  refine mr_of (cc := cX8_set) (maxL := 4) (ret := some .int) (by decide) rfl (Nat.le_of_ble_eq_true rfl) ?_
  intro p e s m below meth c ls hx hb hr hml hown hts hlocks hin hR hE hz hl
  have hA : ∀ q, s.heap.size ≤ q → m_A h z q := fun q hq => Or.inr (by rw [← hz]; exact hq)
  have hS : va_S (m_A h z) s.heap s.heap [] := va_S.rf
  have hl : lv_has ls 4 [(0, .ref v0), (1, .int v1), (2, .int v2)] := hl
  unfold s_X8_set at hrun
  refine lv_aload_n hx hb dX8_set_0 rfl (lv_at hl 0 rfl) ?_
  refine lv_iconst (v := 0) hx hb dX8_set_1 (by decide) ?_
  obtain ⟨h2, hc9, hrun⟩ := m_bind hrun
  refine mr_put (C := RX8) (T := TX8) (N := 13) (ci := 6) hx hb hts (fun w q => m_ws_in (wi_X8 w q)) tyX8 tyX8_ok nmX8 hown hR hz hS rfl 0 (by decide) (hts _ (m_ws_in wm_3_33)) (fun _ h9 => h9) rfl (tyX8_ok 0 (by decide)) rfl rfl hc9 dX8_set_2 (fun H locs hR hz hS => ?_)
  refine lv_iload_n hx hb dX8_set_5 rfl (lv_at hl 1 rfl) ?_
  refine lv_iconst (v := 0) hx hb dX8_set_6 (by decide) ?_
  refine lv_iconst (v := 5) hx hb dX8_set_7 (by decide) ?_
  obtain ⟨x8, hc9, hrun⟩ := m_bind hrun
  refine mr_calli (mr_runS (As := [.int v1, .int 0, .int 5]) (rest := []) hx hb hml hown hts (c_X8_in l D ids st z hc9) yk_X8_in ys_X8_in wm_3_87 ⟨(Nat.le_of_ble_eq_true rfl), (Nat.le_of_ble_eq_true rfl)⟩ (mr_recvS hR hE hz hS hA) hl.1 rfl (Nat.le_of_ble_eq_true rfl) dX8_set_8 ⟨(Nat.le_of_ble_eq_true rfl), (Nat.le_of_ble_eq_true rfl)⟩) hR hz hS hA (fun H locs hR hz hS => ?_)
  refine lv_if_ne (tgt := 20) hx hb dX8_set_11 (by decide) (fun hc => ?_) (fun hc => ?_)
  · have hrun := mt_f hrun hc
    refine lv_iload_n hx hb dX8_set_20 rfl (lv_at hl 1 rfl) ?_
    refine lv_iload_n hx hb dX8_set_21 rfl (lv_at hl 2 rfl) ?_
    obtain ⟨x22, hc9, hrun⟩ := m_bind hrun
    refine mr_calli (mr_runS (As := [.int v1, .int v2]) (rest := []) hx hb hml hown hts (c_X8_isSetting l D ids st z hc9) yk_X8_isSetting ys_X8_isSetting wm_3_175 ⟨(Nat.le_of_ble_eq_true rfl), (Nat.le_of_ble_eq_true rfl)⟩ (mr_recvS hR hE hz hS hA) hl.1 rfl (Nat.le_of_ble_eq_true rfl) dX8_set_22 ⟨(Nat.le_of_ble_eq_true rfl), (Nat.le_of_ble_eq_true rfl)⟩) hR hz hS hA (fun H locs hR hz hS => ?_)
    refine lv_if_ne (tgt := 34) hx hb dX8_set_25 (by decide) (fun hc => ?_) (fun hc => ?_)
    · have hrun := mt_f hrun hc
      refine lv_aload_n hx hb dX8_set_34 rfl (lv_at hl 0 rfl) ?_
      obtain ⟨_, ho9, hrun⟩ := m_bind hrun
      obtain ⟨fs9, ho9⟩ := m_is_spec ho9
      obtain ⟨h35, hc9, hrun⟩ := m_bind hrun
      refine mr_callv (mr_runV (As := []) (rest := []) hx hb hml hown hts (c_X8_saves l D ids st z hc9) yk_X8_saves ys_X8_saves wm_3_94 ⟨(Nat.le_of_ble_eq_true rfl), (Nat.le_of_ble_eq_true rfl)⟩ (mr_recv (ci := 6) hR hE hz hS hA rfl ho9) hl.1 rfl (Nat.le_of_ble_eq_true rfl) dX8_set_35 ⟨(Nat.le_of_ble_eq_true rfl), (Nat.le_of_ble_eq_true rfl)⟩) hR hz hS hA (fun H locs hR hz hS => ?_)
      refine lv_aload_n hx hb dX8_set_38 rfl (lv_at hl 0 rfl) ?_
      obtain ⟨x39, hc9, hrun⟩ := m_bind hrun
      refine mr_get (C := RX8) (T := TX8) (N := 13) (ci := 6) hx hb hts (fun w q => m_ws_in (wi_X8 w q)) hown hR rfl 1 (by decide) (hts _ (m_ws_in wm_3_34)) (fun _ h9 => h9) (m_gr_spec hc9) dX8_set_39 ?_
      refine lv_iload_n hx hb dX8_set_42 rfl (lv_at hl 1 rfl) ?_
      obtain ⟨x43, hc9, hrun⟩ := m_bind hrun
      refine mr_iald hx hb hR hc9 dX8_set_43 ?_
      refine lv_istore_n (lv' := [(3, .int x43), (0, .ref v0), (1, .int v1), (2, .int v2)]) hx hb dX8_set_44 rfl hl (by decide) rfl (fun ls hl => ?_)
      refine lv_aload_n hx hb dX8_set_45 rfl (lv_at hl 1 rfl) ?_
      obtain ⟨x46, hc9, hrun⟩ := m_bind hrun
      refine mr_get (C := RX8) (T := TX8) (N := 13) (ci := 6) hx hb hts (fun w q => m_ws_in (wi_X8 w q)) hown hR rfl 1 (by decide) (hts _ (m_ws_in wm_3_34)) (fun _ h9 => h9) (m_gr_spec hc9) dX8_set_46 ?_
      refine lv_iload_n hx hb dX8_set_49 rfl (lv_at hl 2 rfl) ?_
      refine lv_iload_n hx hb dX8_set_50 rfl (lv_at hl 3 rfl) ?_
      obtain ⟨h51, hc9, hrun⟩ := m_bind hrun
      refine mr_iast hx hb hR hz hS hc9 dX8_set_51 (fun H locs hR hz hS => ?_)
      refine lv_iload_n hx hb dX8_set_52 rfl (lv_at hl 0 rfl) ?_
      obtain ⟨rfl, rfl⟩ := Prod.mk.inj (Option.some.inj hrun)
      exact mr_iret hx hb hr hlocks hR hz hS dX8_set_53
    · have hrun := mt_t hrun hc
      refine lv_aload_n hx hb dX8_set_28 rfl (lv_at hl 0 rfl) ?_
      refine lv_iconst (v := 2) hx hb dX8_set_29 (by decide) ?_
      obtain ⟨_, ho9, hrun⟩ := m_bind hrun
      obtain ⟨fs9, ho9⟩ := m_is_spec ho9
      obtain ⟨⟨x30, h30⟩, hc9, hrun⟩ := m_bind hrun
      refine mr_calli (mr_runV (As := [.int 2]) (rest := []) hx hb hml hown hts (c_X8_fails l D ids st z hc9) yk_X8_fails ys_X8_fails wm_3_90 ⟨(Nat.le_of_ble_eq_true rfl), (Nat.le_of_ble_eq_true rfl)⟩ (mr_recv (ci := 6) hR hE hz hS hA rfl ho9) hl.1 rfl (Nat.le_of_ble_eq_true rfl) dX8_set_30 ⟨(Nat.le_of_ble_eq_true rfl), (Nat.le_of_ble_eq_true rfl)⟩) hR hz hS hA (fun H locs hR hz hS => ?_)
      obtain ⟨rfl, rfl⟩ := Prod.mk.inj (Option.some.inj hrun)
      exact mr_iret hx hb hr hlocks hR hz hS dX8_set_33
  · have hrun := mt_t hrun hc
    refine lv_aload_n hx hb dX8_set_14 rfl (lv_at hl 0 rfl) ?_
    refine lv_iconst (v := 1) hx hb dX8_set_15 (by decide) ?_
    obtain ⟨_, ho9, hrun⟩ := m_bind hrun
    obtain ⟨fs9, ho9⟩ := m_is_spec ho9
    obtain ⟨⟨x16, h16⟩, hc9, hrun⟩ := m_bind hrun
    refine mr_calli (mr_runV (As := [.int 1]) (rest := []) hx hb hml hown hts (c_X8_fails l D ids st z hc9) yk_X8_fails ys_X8_fails wm_3_90 ⟨(Nat.le_of_ble_eq_true rfl), (Nat.le_of_ble_eq_true rfl)⟩ (mr_recv (ci := 6) hR hE hz hS hA rfl ho9) hl.1 rfl (Nat.le_of_ble_eq_true rfl) dX8_set_16 ⟨(Nat.le_of_ble_eq_true rfl), (Nat.le_of_ble_eq_true rfl)⟩) hR hz hS hA (fun H locs hR hz hS => ?_)
    obtain ⟨rfl, rfl⟩ := Prod.mk.inj (Option.some.inj hrun)
    exact mr_iret hx hb hr hlocks hR hz hS dX8_set_19
/-! X8_append -/
abbrev rm_X8_append : Room := { frames := 1, cells := 0, slots := 0, locals := 22 }
theorem yk_X8_append : m_K yX8_append cX8_append 2 (some .int) 1 := ⟨wm_3_181, wm_0_10, by decide +kernel⟩
theorem ys_X8_append : Cond.instanceMethod yX8_append ∈ wT ∧ Cond.selects RX8 yX8_append yX8_append ∈ wT := ⟨wm_3_179, wm_3_180⟩
set_option maxRecDepth 100000 in
set_option maxHeartbeats 4000000 in
theorem c_X8_append (l : Launch) (D : va_G) (ids : m_I3) (st : m_T) (z : Nat) {h : mH} {v0 : Nat} {v1 : Int32} {r : Int32} {hF : mH} (hrun : s_X8_append h v0 v1 = some (r, hF)) : Met l yX8_append (m_ws yX8_append cX8_append 2 (some .int)) rm_X8_append (mPc D ids st [.ref v0, .int v1] h z) (mQi D ids (m_A h z) r hF z) rm_X8_append.cells rm_X8_append.slots (m_A h z) := by
  refine mr_of (cc := cX8_append) (maxL := 2) (ret := some .int) (by decide) rfl (Nat.le_of_ble_eq_true rfl) ?_
  intro p e s m below meth c ls hx hb hr hml hown hts hlocks hin hR hE hz hl
  have hA : ∀ q, s.heap.size ≤ q → m_A h z q := fun q hq => Or.inr (by rw [← hz]; exact hq)
  have hS : va_S (m_A h z) s.heap s.heap [] := va_S.rf
  have hl : lv_has ls 2 [(0, .ref v0), (1, .int v1)] := hl
  unfold s_X8_append at hrun
  refine lv_aload_n hx hb dX8_append_0 rfl (lv_at hl 0 rfl) ?_
  refine lv_iconst (v := 0) hx hb dX8_append_1 (by decide) ?_
  obtain ⟨h2, hc9, hrun⟩ := m_bind hrun
  refine mr_put (C := RX8) (T := TX8) (N := 13) (ci := 6) hx hb hts (fun w q => m_ws_in (wi_X8 w q)) tyX8 tyX8_ok nmX8 hown hR hz hS rfl 0 (by decide) (hts _ (m_ws_in wm_3_33)) (fun _ h9 => h9) rfl (tyX8_ok 0 (by decide)) rfl rfl hc9 dX8_append_2 (fun H locs hR hz hS => ?_)
  refine lv_iload_n hx hb dX8_append_5 rfl (lv_at hl 1 rfl) ?_
  refine lv_bipush (v := 33) hx hb dX8_append_6 (by decide) ?_
  refine lv_bipush (v := 126) hx hb dX8_append_8 (by decide) ?_
  obtain ⟨x10, hc9, hrun⟩ := m_bind hrun
  refine mr_calli (mr_runS (As := [.int v1, .int 33, .int 126]) (rest := []) hx hb hml hown hts (c_X8_in l D ids st z hc9) yk_X8_in ys_X8_in wm_3_87 ⟨(Nat.le_of_ble_eq_true rfl), (Nat.le_of_ble_eq_true rfl)⟩ (mr_recvS hR hE hz hS hA) hl.1 rfl (Nat.le_of_ble_eq_true rfl) dX8_append_10 ⟨(Nat.le_of_ble_eq_true rfl), (Nat.le_of_ble_eq_true rfl)⟩) hR hz hS hA (fun H locs hR hz hS => ?_)
  refine lv_if_ne (tgt := 22) hx hb dX8_append_13 (by decide) (fun hc => ?_) (fun hc => ?_)
  · have hrun := mt_f hrun hc
    refine lv_aload_n hx hb dX8_append_22 rfl (lv_at hl 0 rfl) ?_
    obtain ⟨x23, hc9, hrun⟩ := m_bind hrun
    refine mr_get (C := RX8) (T := TX8) (N := 13) (ci := 6) hx hb hts (fun w q => m_ws_in (wi_X8 w q)) hown hR rfl 6 (by decide) (hts _ (m_ws_in wm_3_39)) (fun _ h9 => h9) (m_gi_spec hc9) dX8_append_23 ?_
    refine lv_bipush (v := 60) hx hb dX8_append_26 (by decide) ?_
    refine lv_icmp_ne (tgt := 37) hx hb dX8_append_28 (by decide) (fun hc => ?_) (fun hc => ?_)
    · have hrun := mt_f hrun hc
      refine lv_aload_n hx hb dX8_append_37 rfl (lv_at hl 0 rfl) ?_
      obtain ⟨x38, hc9, hrun⟩ := m_bind hrun
      refine mr_get (C := RX8) (T := TX8) (N := 13) (ci := 6) hx hb hts (fun w q => m_ws_in (wi_X8 w q)) hown hR rfl 5 (by decide) (hts _ (m_ws_in wm_3_38)) (fun _ h9 => h9) (m_gr_spec hc9) dX8_append_38 ?_
      refine lv_aload_n hx hb dX8_append_41 rfl (lv_at hl 0 rfl) ?_
      obtain ⟨x42, hc9, hrun⟩ := m_bind hrun
      refine mr_get (C := RX8) (T := TX8) (N := 13) (ci := 6) hx hb hts (fun w q => m_ws_in (wi_X8 w q)) hown hR rfl 6 (by decide) (hts _ (m_ws_in wm_3_39)) (fun _ h9 => h9) (m_gi_spec hc9) dX8_append_42 ?_
      refine lv_iload_n hx hb dX8_append_45 rfl (lv_at hl 1 rfl) ?_
      obtain ⟨h46, hc9, hrun⟩ := m_bind hrun
      refine mr_iast hx hb hR hz hS hc9 dX8_append_46 (fun H locs hR hz hS => ?_)
      refine lv_aload_n hx hb dX8_append_47 rfl (lv_at hl 0 rfl) ?_
      refine lv_dup hx hb dX8_append_48 rfl ?_
      obtain ⟨x49, hc9, hrun⟩ := m_bind hrun
      refine mr_get (C := RX8) (T := TX8) (N := 13) (ci := 6) hx hb hts (fun w q => m_ws_in (wi_X8 w q)) hown hR rfl 6 (by decide) (hts _ (m_ws_in wm_3_39)) (fun _ h9 => h9) (m_gi_spec hc9) dX8_append_49 ?_
      refine lv_iconst (v := 1) hx hb dX8_append_52 (by decide) ?_
      refine lv_iadd hx hb dX8_append_53 ?_
      obtain ⟨h54, hc9, hrun⟩ := m_bind hrun
      refine mr_put (C := RX8) (T := TX8) (N := 13) (ci := 6) hx hb hts (fun w q => m_ws_in (wi_X8 w q)) tyX8 tyX8_ok nmX8 hown hR hz hS rfl 6 (by decide) (hts _ (m_ws_in wm_3_39)) (fun _ h9 => h9) rfl (tyX8_ok 6 (by decide)) rfl rfl hc9 dX8_append_54 (fun H locs hR hz hS => ?_)
      refine lv_aload_n hx hb dX8_append_57 rfl (lv_at hl 0 rfl) ?_
      obtain ⟨x58, hc9, hrun⟩ := m_bind hrun
      refine mr_get (C := RX8) (T := TX8) (N := 13) (ci := 6) hx hb hts (fun w q => m_ws_in (wi_X8 w q)) hown hR rfl 6 (by decide) (hts _ (m_ws_in wm_3_39)) (fun _ h9 => h9) (m_gi_spec hc9) dX8_append_58 ?_
      obtain ⟨rfl, rfl⟩ := Prod.mk.inj (Option.some.inj hrun)
      exact mr_iret hx hb hr hlocks hR hz hS dX8_append_61
    · have hrun := mt_t hrun hc
      refine lv_aload_n hx hb dX8_append_31 rfl (lv_at hl 0 rfl) ?_
      refine lv_iconst (v := 2) hx hb dX8_append_32 (by decide) ?_
      obtain ⟨_, ho9, hrun⟩ := m_bind hrun
      obtain ⟨fs9, ho9⟩ := m_is_spec ho9
      obtain ⟨⟨x33, h33⟩, hc9, hrun⟩ := m_bind hrun
      refine mr_calli (mr_runV (As := [.int 2]) (rest := []) hx hb hml hown hts (c_X8_fails l D ids st z hc9) yk_X8_fails ys_X8_fails wm_3_90 ⟨(Nat.le_of_ble_eq_true rfl), (Nat.le_of_ble_eq_true rfl)⟩ (mr_recv (ci := 6) hR hE hz hS hA rfl ho9) hl.1 rfl (Nat.le_of_ble_eq_true rfl) dX8_append_33 ⟨(Nat.le_of_ble_eq_true rfl), (Nat.le_of_ble_eq_true rfl)⟩) hR hz hS hA (fun H locs hR hz hS => ?_)
      obtain ⟨rfl, rfl⟩ := Prod.mk.inj (Option.some.inj hrun)
      exact mr_iret hx hb hr hlocks hR hz hS dX8_append_36
  · have hrun := mt_t hrun hc
    refine lv_aload_n hx hb dX8_append_16 rfl (lv_at hl 0 rfl) ?_
    refine lv_iconst (v := 1) hx hb dX8_append_17 (by decide) ?_
    obtain ⟨_, ho9, hrun⟩ := m_bind hrun
    obtain ⟨fs9, ho9⟩ := m_is_spec ho9
    obtain ⟨⟨x18, h18⟩, hc9, hrun⟩ := m_bind hrun
    refine mr_calli (mr_runV (As := [.int 1]) (rest := []) hx hb hml hown hts (c_X8_fails l D ids st z hc9) yk_X8_fails ys_X8_fails wm_3_90 ⟨(Nat.le_of_ble_eq_true rfl), (Nat.le_of_ble_eq_true rfl)⟩ (mr_recv (ci := 6) hR hE hz hS hA rfl ho9) hl.1 rfl (Nat.le_of_ble_eq_true rfl) dX8_append_18 ⟨(Nat.le_of_ble_eq_true rfl), (Nat.le_of_ble_eq_true rfl)⟩) hR hz hS hA (fun H locs hR hz hS => ?_)
    obtain ⟨rfl, rfl⟩ := Prod.mk.inj (Option.some.inj hrun)
    exact mr_iret hx hb hr hlocks hR hz hS dX8_append_21
/-! X8_clearBuffer -/
abbrev rm_X8_clearBuffer : Room := { frames := 0, cells := 0, slots := 0, locals := 0 }
theorem yk_X8_clearBuffer : m_K yX8_clearBuffer cX8_clearBuffer 2 (some .int) 0 := ⟨wm_3_185, wm_0_10, by decide +kernel⟩
theorem ys_X8_clearBuffer : Cond.instanceMethod yX8_clearBuffer ∈ wT ∧ Cond.selects RX8 yX8_clearBuffer yX8_clearBuffer ∈ wT := ⟨wm_3_183, wm_3_184⟩
set_option maxRecDepth 100000 in
set_option maxHeartbeats 4000000 in
theorem c_X8_clearBuffer (l : Launch) (D : va_G) (ids : m_I3) (st : m_T) (z : Nat) {h : mH} {v0 : Nat} {r : Int32} {hF : mH} (hrun : s_X8_clearBuffer h v0 = some (r, hF)) : Met l yX8_clearBuffer (m_ws yX8_clearBuffer cX8_clearBuffer 2 (some .int)) rm_X8_clearBuffer (mPc D ids st [.ref v0] h z) (mQi D ids (m_A h z) r hF z) rm_X8_clearBuffer.cells rm_X8_clearBuffer.slots (m_A h z) := by
  refine mr_of (cc := cX8_clearBuffer) (maxL := 2) (ret := some .int) (by decide) rfl (Nat.le_of_ble_eq_true rfl) ?_
  intro p e s m below meth c ls hx hb hr hml hown hts hlocks hin hR hE hz hl
  have hA : ∀ q, s.heap.size ≤ q → m_A h z q := fun q hq => Or.inr (by rw [← hz]; exact hq)
  have hS : va_S (m_A h z) s.heap s.heap [] := va_S.rf
  have hl : lv_has ls 2 [(0, .ref v0)] := hl
  unfold s_X8_clearBuffer at hrun
  refine lv_aload_n hx hb dX8_clearBuffer_0 rfl (lv_at hl 0 rfl) ?_
  refine lv_iconst (v := 0) hx hb dX8_clearBuffer_1 (by decide) ?_
  obtain ⟨h2, hc9, hrun⟩ := m_bind hrun
  refine mr_put (C := RX8) (T := TX8) (N := 13) (ci := 6) hx hb hts (fun w q => m_ws_in (wi_X8 w q)) tyX8 tyX8_ok nmX8 hown hR hz hS rfl 0 (by decide) (hts _ (m_ws_in wm_3_33)) (fun _ h9 => h9) rfl (tyX8_ok 0 (by decide)) rfl rfl hc9 dX8_clearBuffer_2 (fun H locs hR hz hS => ?_)
  refine lv_aload_n hx hb dX8_clearBuffer_5 rfl (lv_at hl 0 rfl) ?_
  obtain ⟨x6, hc9, hrun⟩ := m_bind hrun
  refine mr_get (C := RX8) (T := TX8) (N := 13) (ci := 6) hx hb hts (fun w q => m_ws_in (wi_X8 w q)) hown hR rfl 6 (by decide) (hts _ (m_ws_in wm_3_39)) (fun _ h9 => h9) (m_gi_spec hc9) dX8_clearBuffer_6 ?_
  refine lv_istore_n (lv' := [(1, .int x6), (0, .ref v0)]) hx hb dX8_clearBuffer_9 rfl hl (by decide) rfl (fun ls hl => ?_)
  refine lv_aload_n hx hb dX8_clearBuffer_10 rfl (lv_at hl 1 rfl) ?_
  refine lv_iconst (v := 0) hx hb dX8_clearBuffer_11 (by decide) ?_
  obtain ⟨h12, hc9, hrun⟩ := m_bind hrun
  refine mr_put (C := RX8) (T := TX8) (N := 13) (ci := 6) hx hb hts (fun w q => m_ws_in (wi_X8 w q)) tyX8 tyX8_ok nmX8 hown hR hz hS rfl 6 (by decide) (hts _ (m_ws_in wm_3_39)) (fun _ h9 => h9) rfl (tyX8_ok 6 (by decide)) rfl rfl hc9 dX8_clearBuffer_12 (fun H locs hR hz hS => ?_)
  refine lv_iload_n hx hb dX8_clearBuffer_15 rfl (lv_at hl 0 rfl) ?_
  obtain ⟨rfl, rfl⟩ := Prod.mk.inj (Option.some.inj hrun)
  exact mr_iret hx hb hr hlocks hR hz hS dX8_clearBuffer_16
/-! X8_sign -/
abbrev rm_X8_sign : Room := { frames := 0, cells := 0, slots := 0, locals := 0 }
theorem yk_X8_sign : m_K yX8_sign cX8_sign 1 (some .int) 0 := ⟨wm_3_205, wm_0_10, by decide +kernel⟩
theorem ys_X8_sign : Cond.instanceMethod yX8_sign ∈ wT ∧ Cond.selects RX8 yX8_sign yX8_sign ∈ wT := ⟨wm_3_204, wp_2_12⟩
set_option maxRecDepth 100000 in
set_option maxHeartbeats 4000000 in
theorem k_X8_sign_b24 {p : Program} {l : Launch} {e : Env} {s : State} {m : MethodId} {args : Array Value} {below : List Frame} {meth : Method} {c : Code} {D : va_G} {ids : m_I3} {st : m_T} {A : Nat → Prop} {z : Nat} {r : Int32} (hx : p.tables.exec = Jvm.exec) (hb : c.code = cX8_sign) (hr : meth.sig.returnType = some .int) (hml : c.maxLocals = 1) (hown : s.vm.findClass RX8 = some m.cls) (hts : ∀ w ∈ (m_ws yX8_sign cX8_sign 1 (some .int)), w.before args s = true) (hlocks : meth.locks = false) (hin : meth.name = yX8_sign.name) (hE : m_EV st A s s.heap) (hA : ∀ q, s.heap.size ≤ q → A q) {h : mH} (t0 : Int32) (H : Heap) (locs : List Loc) (ls : Array Slot) (hrun : s_X8_sign_b24 h t0 = some r) (hR : Rl D ids A h s H) (hz : H.size = z) (hS : va_S A s.heap H locs) (hl : lv_has ls 1 []) : W p l e rm_X8_sign s m args below meth c H locs 0 0 (MQ below (mQi D ids A r h z) args s 0 0 A) (F0 m 24 ls [.int t0]) := by
  unfold s_X8_sign_b24 at hrun
  obtain rfl := Option.some.inj hrun
  exact mr_iret hx hb hr hlocks hR hz hS dX8_sign_24
set_option maxRecDepth 100000 in
set_option maxHeartbeats 4000000 in
theorem c_X8_sign (l : Launch) (D : va_G) (ids : m_I3) (st : m_T) (z : Nat) {h : mH} {v0 : Nat} {r : Int32} (hrun : s_X8_sign h v0 = some r) : Met l yX8_sign (m_ws yX8_sign cX8_sign 1 (some .int)) rm_X8_sign (mPc D ids st [.ref v0] h z) (mQi D ids (m_A h z) r h z) rm_X8_sign.cells rm_X8_sign.slots (m_A h z) := by
  refine mr_of (cc := cX8_sign) (maxL := 1) (ret := some .int) (by decide) rfl (Nat.le_of_ble_eq_true rfl) ?_
  intro p e s m below meth c ls hx hb hr hml hown hts hlocks hin hR hE hz hl
  have hA : ∀ q, s.heap.size ≤ q → m_A h z q := fun q hq => Or.inr (by rw [← hz]; exact hq)
  have hS : va_S (m_A h z) s.heap s.heap [] := va_S.rf
  have hl : lv_has ls 1 [(0, .ref v0)] := hl
  unfold s_X8_sign at hrun
  refine lv_aload_n hx hb dX8_sign_0 rfl (lv_at hl 0 rfl) ?_
  obtain ⟨x1, hc9, hrun⟩ := m_bind hrun
  refine mr_get (C := RX8) (T := TX8) (N := 13) (ci := 6) hx hb hts (fun w q => m_ws_in (wi_X8 w q)) hown hR rfl 8 (by decide) (hts _ (m_ws_in wm_3_41)) (fun _ h9 => h9) (m_gi_spec hc9) dX8_sign_1 ?_
  refine lv_aload_n hx hb dX8_sign_4 rfl (lv_at hl 0 rfl) ?_
  obtain ⟨x5, hc9, hrun⟩ := m_bind hrun
  refine mr_get (C := RX8) (T := TX8) (N := 13) (ci := 6) hx hb hts (fun w q => m_ws_in (wi_X8 w q)) hown hR rfl 6 (by decide) (hts _ (m_ws_in wm_3_39)) (fun _ h9 => h9) (m_gi_spec hc9) dX8_sign_5 ?_
  refine lv_icmp_ge (tgt := 23) hx hb dX8_sign_8 (by decide) (fun hc => ?_) (fun hc => ?_)
  · have hrun := mt_t hrun hc
    refine lv_iconst (v := 0) hx hb dX8_sign_23 (by decide) ?_
    exact k_X8_sign_b24 hx hb hr hml hown hts hlocks hin hE hA _ _ _ _ hrun hR hz hS (lv_sub hl [] rfl)
  · have hrun := mt_f hrun hc
    refine lv_aload_n hx hb dX8_sign_11 rfl (lv_at hl 0 rfl) ?_
    obtain ⟨x12, hc9, hrun⟩ := m_bind hrun
    refine mr_get (C := RX8) (T := TX8) (N := 13) (ci := 6) hx hb hts (fun w q => m_ws_in (wi_X8 w q)) hown hR rfl 5 (by decide) (hts _ (m_ws_in wm_3_38)) (fun _ h9 => h9) (m_gr_spec hc9) dX8_sign_12 ?_
    refine lv_aload_n hx hb dX8_sign_15 rfl (lv_at hl 0 rfl) ?_
    obtain ⟨x16, hc9, hrun⟩ := m_bind hrun
    refine mr_get (C := RX8) (T := TX8) (N := 13) (ci := 6) hx hb hts (fun w q => m_ws_in (wi_X8 w q)) hown hR rfl 8 (by decide) (hts _ (m_ws_in wm_3_41)) (fun _ h9 => h9) (m_gi_spec hc9) dX8_sign_16 ?_
    obtain ⟨x19, hc9, hrun⟩ := m_bind hrun
    refine mr_iald hx hb hR hc9 dX8_sign_19 ?_
    refine lv_goto (tgt := 24) hx hb dX8_sign_20 (by decide) ?_
    exact k_X8_sign_b24 hx hb hr hml hown hts hlocks hin hE hA _ _ _ _ hrun hR hz hS (lv_sub hl [] rfl)
/-! X8_wants -/
abbrev rm_X8_wants : Room := { frames := 1, cells := 0, slots := 0, locals := 20 }
theorem yk_X8_wants : m_K yX8_wants cX8_wants 2 (none) 1 := ⟨wm_3_209, wm_0_10, by decide +kernel⟩
theorem ys_X8_wants : Cond.instanceMethod yX8_wants ∈ wT ∧ Cond.selects RX8 yX8_wants yX8_wants ∈ wT := ⟨wm_3_208, wp_2_13⟩
set_option maxRecDepth 100000 in
set_option maxHeartbeats 4000000 in
theorem k_X8_wants_b41 {p : Program} {l : Launch} {e : Env} {s : State} {m : MethodId} {args : Array Value} {below : List Frame} {meth : Method} {c : Code} {D : va_G} {ids : m_I3} {st : m_T} {A : Nat → Prop} {z : Nat} {hF : mH} (hx : p.tables.exec = Jvm.exec) (hb : c.code = cX8_wants) (hr : meth.sig.returnType = none) (hml : c.maxLocals = 2) (hown : s.vm.findClass RX8 = some m.cls) (hts : ∀ w ∈ (m_ws yX8_wants cX8_wants 2 (none)), w.before args s = true) (hlocks : meth.locks = false) (hin : meth.name = yX8_wants.name) (hE : m_EV st A s s.heap) (hA : ∀ q, s.heap.size ≤ q → A q) (h : mH) (t0 : Nat) (t1 : Int32) (t2 : Int32) (H : Heap) (locs : List Loc) (ls : Array Slot) (hrun : s_X8_wants_b41 h t0 t1 t2 = some hF) (hR : Rl D ids A h s H) (hz : H.size = z) (hS : va_S A s.heap H locs) (hl : lv_has ls 2 []) : W p l e rm_X8_wants s m args below meth c H locs 0 0 (MQ below (mQv D ids A hF z) args s 0 0 A) (F0 m 41 ls [.int t2, .int t1, .ref t0]) := by
  unfold s_X8_wants_b41 at hrun
  refine lv_iadd hx hb dX8_wants_41 ?_
  obtain ⟨h42, hc9, hrun⟩ := m_bind hrun
  refine mr_put (C := RX8) (T := TX8) (N := 13) (ci := 6) hx hb hts (fun w q => m_ws_in (wi_X8 w q)) tyX8 tyX8_ok nmX8 hown hR hz hS rfl 8 (by decide) (hts _ (m_ws_in wm_3_41)) (fun _ h9 => h9) rfl (tyX8_ok 8 (by decide)) rfl rfl hc9 dX8_wants_42 (fun H locs hR hz hS => ?_)
  obtain rfl := Option.some.inj hrun
  exact mr_vret hx hb hr hlocks hR hz hS dX8_wants_45
set_option maxRecDepth 100000 in
set_option maxHeartbeats 4000000 in
theorem k_X8_wants_b21 {p : Program} {l : Launch} {e : Env} {s : State} {m : MethodId} {args : Array Value} {below : List Frame} {meth : Method} {c : Code} {D : va_G} {ids : m_I3} {st : m_T} {A : Nat → Prop} {z : Nat} {hF : mH} (hx : p.tables.exec = Jvm.exec) (hb : c.code = cX8_wants) (hr : meth.sig.returnType = none) (hml : c.maxLocals = 2) (hown : s.vm.findClass RX8 = some m.cls) (hts : ∀ w ∈ (m_ws yX8_wants cX8_wants 2 (none)), w.before args s = true) (hlocks : meth.locks = false) (hin : meth.name = yX8_wants.name) (hE : m_EV st A s s.heap) (hA : ∀ q, s.heap.size ≤ q → A q) (h : mH) (v0 : Nat) (t0 : Nat) (t1 : Int32) (H : Heap) (locs : List Loc) (ls : Array Slot) (hrun : s_X8_wants_b21 h v0 t0 t1 = some hF) (hR : Rl D ids A h s H) (hz : H.size = z) (hS : va_S A s.heap H locs) (hl : lv_has ls 2 [(0, .ref v0)]) : W p l e rm_X8_wants s m args below meth c H locs 0 0 (MQ below (mQv D ids A hF z) args s 0 0 A) (F0 m 21 ls [.int t1, .ref t0]) := by
  unfold s_X8_wants_b21 at hrun
  obtain ⟨_, hz9, hrun⟩ := m_bind hrun
  obtain ⟨h21, hc9, hrun⟩ := m_bind hrun
  refine mr_put (C := RX8) (T := TX8) (N := 13) (ci := 6) hx hb hts (fun w q => m_ws_in (wi_X8 w q)) tyX8 tyX8_ok nmX8 hown hR hz hS rfl 9 (by decide) (hts _ (m_ws_in wm_3_42)) (fun _ h9 => h9) rfl (tyX8_ok 9 (by decide)) (m_z_spec hz9).2 (m_z_fit hz9) hc9 dX8_wants_21 (fun H locs hR hz hS => ?_)
  refine lv_aload_n hx hb dX8_wants_24 rfl (lv_at hl 0 rfl) ?_
  refine lv_dup hx hb dX8_wants_25 rfl ?_
  obtain ⟨x26, hc9, hrun⟩ := m_bind hrun
  refine mr_get (C := RX8) (T := TX8) (N := 13) (ci := 6) hx hb hts (fun w q => m_ws_in (wi_X8 w q)) hown hR rfl 8 (by decide) (hts _ (m_ws_in wm_3_41)) (fun _ h9 => h9) (m_gi_spec hc9) dX8_wants_26 ?_
  refine lv_aload_n hx hb dX8_wants_29 rfl (lv_at hl 0 rfl) ?_
  obtain ⟨x30, hc9, hrun⟩ := m_bind hrun
  refine mr_get (C := RX8) (T := TX8) (N := 13) (ci := 6) hx hb hts (fun w q => m_ws_in (wi_X8 w q)) hown hR rfl 9 (by decide) (hts _ (m_ws_in wm_3_42)) (fun _ h9 => h9) (m_gi_spec hc9) dX8_wants_30 ?_
  refine lv_if_eq (tgt := 40) hx hb dX8_wants_33 (by decide) (fun hc => ?_) (fun hc => ?_)
  · have hrun := mt_t hrun hc
    refine lv_iconst (v := 0) hx hb dX8_wants_40 (by decide) ?_
    exact k_X8_wants_b41 hx hb hr hml hown hts hlocks hin hE hA _ _ _ _ _ _ _ hrun hR hz hS (lv_sub hl [] rfl)
  · have hrun := mt_f hrun hc
    refine lv_iconst (v := 1) hx hb dX8_wants_36 (by decide) ?_
    refine lv_goto (tgt := 41) hx hb dX8_wants_37 (by decide) ?_
    exact k_X8_wants_b41 hx hb hr hml hown hts hlocks hin hE hA _ _ _ _ _ _ _ hrun hR hz hS (lv_sub hl [] rfl)
set_option maxRecDepth 100000 in
set_option maxHeartbeats 4000000 in
theorem k_X8_wants_b20 {p : Program} {l : Launch} {e : Env} {s : State} {m : MethodId} {args : Array Value} {below : List Frame} {meth : Method} {c : Code} {D : va_G} {ids : m_I3} {st : m_T} {A : Nat → Prop} {z : Nat} {hF : mH} (hx : p.tables.exec = Jvm.exec) (hb : c.code = cX8_wants) (hr : meth.sig.returnType = none) (hml : c.maxLocals = 2) (hown : s.vm.findClass RX8 = some m.cls) (hts : ∀ w ∈ (m_ws yX8_wants cX8_wants 2 (none)), w.before args s = true) (hlocks : meth.locks = false) (hin : meth.name = yX8_wants.name) (hE : m_EV st A s s.heap) (hA : ∀ q, s.heap.size ≤ q → A q) (h : mH) (v0 : Nat) (t0 : Nat) (H : Heap) (locs : List Loc) (ls : Array Slot) (hrun : s_X8_wants_b20 h v0 t0 = some hF) (hR : Rl D ids A h s H) (hz : H.size = z) (hS : va_S A s.heap H locs) (hl : lv_has ls 2 [(0, .ref v0)]) : W p l e rm_X8_wants s m args below meth c H locs 0 0 (MQ below (mQv D ids A hF z) args s 0 0 A) (F0 m 20 ls [.ref t0]) := by
  unfold s_X8_wants_b20 at hrun
  refine lv_iconst (v := 0) hx hb dX8_wants_20 (by decide) ?_
  exact k_X8_wants_b21 hx hb hr hml hown hts hlocks hin hE hA _ _ _ _ _ _ _ hrun hR hz hS (lv_sub hl [0] rfl)
set_option maxRecDepth 100000 in
set_option maxHeartbeats 4000000 in
theorem c_X8_wants (l : Launch) (D : va_G) (ids : m_I3) (st : m_T) (z : Nat) {h : mH} {v0 : Nat} {v1 : Int32} {hF : mH} (hrun : s_X8_wants h v0 v1 = some hF) : Met l yX8_wants (m_ws yX8_wants cX8_wants 2 (none)) rm_X8_wants (mPc D ids st [.ref v0, .int v1] h z) (mQv D ids (m_A h z) hF z) rm_X8_wants.cells rm_X8_wants.slots (m_A h z) := by
  refine mr_of (cc := cX8_wants) (maxL := 2) (ret := none) (by decide) rfl (Nat.le_of_ble_eq_true rfl) ?_
  intro p e s m below meth c ls hx hb hr hml hown hts hlocks hin hR hE hz hl
  have hA : ∀ q, s.heap.size ≤ q → m_A h z q := fun q hq => Or.inr (by rw [← hz]; exact hq)
  have hS : va_S (m_A h z) s.heap s.heap [] := va_S.rf
  have hl : lv_has ls 2 [(0, .ref v0), (1, .int v1)] := hl
  unfold s_X8_wants at hrun
  refine lv_aload_n hx hb dX8_wants_0 rfl (lv_at hl 0 rfl) ?_
  refine lv_aload_n hx hb dX8_wants_1 rfl (lv_at hl 0 rfl) ?_
  obtain ⟨x2, hc9, hrun⟩ := m_bind hrun
  refine mr_get (C := RX8) (T := TX8) (N := 13) (ci := 6) hx hb hts (fun w q => m_ws_in (wi_X8 w q)) hown hR rfl 9 (by decide) (hts _ (m_ws_in wm_3_42)) (fun _ h9 => h9) (m_gi_spec hc9) dX8_wants_2 ?_
  refine lv_if_eq (tgt := 20) hx hb dX8_wants_5 (by decide) (fun hc => ?_) (fun hc => ?_)
  · have hrun := mt_t hrun hc
    exact k_X8_wants_b20 hx hb hr hml hown hts hlocks hin hE hA _ _ _ _ _ _ hrun hR hz hS (lv_sub hl [0] rfl)
  · have hrun := mt_f hrun hc
    refine lv_aload_n hx hb dX8_wants_8 rfl (lv_at hl 0 rfl) ?_
    obtain ⟨_, ho9, hrun⟩ := m_bind hrun
    obtain ⟨fs9, ho9⟩ := m_is_spec ho9
    obtain ⟨x9, hc9, hrun⟩ := m_bind hrun
    refine mr_calli (mr_runV (As := []) (rest := [.ref v0]) hx hb hml hown hts (c_X8_sign l D ids st z hc9) yk_X8_sign ys_X8_sign wm_3_202 ⟨(Nat.le_of_ble_eq_true rfl), (Nat.le_of_ble_eq_true rfl)⟩ (mr_recv (ci := 6) hR hE hz hS hA rfl ho9) hl.1 rfl (Nat.le_of_ble_eq_true rfl) dX8_wants_9 ⟨(Nat.le_of_ble_eq_true rfl), (Nat.le_of_ble_eq_true rfl)⟩) hR hz hS hA (fun H locs hR hz hS => ?_)
    refine lv_iload_n hx hb dX8_wants_12 rfl (lv_at hl 1 rfl) ?_
    refine lv_icmp_ne (tgt := 20) hx hb dX8_wants_13 (by decide) (fun hc => ?_) (fun hc => ?_)
    · have hrun := mt_f hrun hc
      exact k_X8_wants_b20 hx hb hr hml hown hts hlocks hin hE hA _ _ _ _ _ _ hrun hR hz hS (lv_sub hl [0] rfl)
    · have hrun := mt_t hrun hc
      refine lv_iconst (v := 1) hx hb dX8_wants_16 (by decide) ?_
      refine lv_goto (tgt := 21) hx hb dX8_wants_17 (by decide) ?_
      exact k_X8_wants_b21 hx hb hr hml hown hts hlocks hin hE hA _ _ _ _ _ _ _ hrun hR hz hS (lv_sub hl [0] rfl)
/-! X8_number -/
abbrev rm_X8_number : Room := { frames := 1, cells := 0, slots := 0, locals := 22 }
theorem yk_X8_number : m_K yX8_number cX8_number 3 (some .int) 1 := ⟨wm_3_201, wm_0_10, by decide +kernel⟩
theorem ys_X8_number : Cond.instanceMethod yX8_number ∈ wT ∧ Cond.selects RX8 yX8_number yX8_number ∈ wT := ⟨wm_3_200, wp_2_11⟩
set_option maxRecDepth 100000 in
set_option maxHeartbeats 4000000 in
theorem k_X8_number_b139 {p : Program} {l : Launch} {e : Env} {s : State} {m : MethodId} {args : Array Value} {below : List Frame} {meth : Method} {c : Code} {D : va_G} {ids : m_I3} {st : m_T} {A : Nat → Prop} {z : Nat} {r : Int32} {hF : mH} (hx : p.tables.exec = Jvm.exec) (hb : c.code = cX8_number) (hr : meth.sig.returnType = some .int) (hml : c.maxLocals = 3) (hown : s.vm.findClass RX8 = some m.cls) (hts : ∀ w ∈ (m_ws yX8_number cX8_number 3 (some .int)), w.before args s = true) (hlocks : meth.locks = false) (hin : meth.name = yX8_number.name) (hE : m_EV st A s s.heap) (hA : ∀ q, s.heap.size ≤ q → A q) (h : mH) (v2 : Int32) (H : Heap) (locs : List Loc) (ls : Array Slot) (hrun : s_X8_number_b139 h v2 = some (r, hF)) (hR : Rl D ids A h s H) (hz : H.size = z) (hS : va_S A s.heap H locs) (hl : lv_has ls 3 [(2, .int v2)]) : W p l e rm_X8_number s m args below meth c H locs 0 0 (MQ below (mQi D ids A r hF z) args s 0 0 A) (F0 m 139 ls []) := by
  unfold s_X8_number_b139 at hrun
  refine lv_iload_n hx hb dX8_number_139 rfl (lv_at hl 0 rfl) ?_
  obtain ⟨rfl, rfl⟩ := Prod.mk.inj (Option.some.inj hrun)
  exact mr_iret hx hb hr hlocks hR hz hS dX8_number_140
set_option maxRecDepth 100000 in
set_option maxHeartbeats 4000000 in
theorem k_X8_number_L72 {p : Program} {l : Launch} {e : Env} {s : State} {m : MethodId} {args : Array Value} {below : List Frame} {meth : Method} {c : Code} {D : va_G} {ids : m_I3} {st : m_T} {A : Nat → Prop} {z : Nat} {r : Int32} {hF : mH} (hx : p.tables.exec = Jvm.exec) (hb : c.code = cX8_number) (hr : meth.sig.returnType = some .int) (hml : c.maxLocals = 3) (hown : s.vm.findClass RX8 = some m.cls) (hts : ∀ w ∈ (m_ws yX8_number cX8_number 3 (some .int)), w.before args s = true) (hlocks : meth.locks = false) (hin : meth.name = yX8_number.name) (hE : m_EV st A s s.heap) (hA : ∀ q, s.heap.size ≤ q → A q) : ∀ (n : Nat) (h : mH) (v0 : Nat) (v1 : Int32) (v2 : Int32) (H : Heap) (locs : List Loc) (ls : Array Slot), s_X8_number_L72 n h v0 v1 v2 = some (r, hF) → Rl D ids A h s H → H.size = z → va_S A s.heap H locs → lv_has ls 3 [(0, .ref v0), (1, .int v1), (2, .int v2)] → W p l e rm_X8_number s m args below meth c H locs 0 0 (MQ below (mQi D ids A r hF z) args s 0 0 A) (F0 m 72 ls []) := by
  intro n
  induction n with
  | zero => intro h v0 v1 v2 H locs ls hrun; exact absurd hrun (by intro h9; cases h9)
  | succ n ih =>
    intro h v0 v1 v2 H locs ls hrun hR hz hS hl
    rw [s_X8_number_L72] at hrun
    refine lv_aload_n hx hb dX8_number_72 rfl (lv_at hl 0 rfl) ?_
    obtain ⟨x73, hc9, hrun⟩ := m_bind hrun
    refine mr_get (C := RX8) (T := TX8) (N := 13) (ci := 6) hx hb hts (fun w q => m_ws_in (wi_X8 w q)) hown hR rfl 9 (by decide) (hts _ (m_ws_in wm_3_42)) (fun _ h9 => h9) (m_gi_spec hc9) dX8_number_73 ?_
    refine lv_if_eq (tgt := 139) hx hb dX8_number_76 (by decide) (fun hc => ?_) (fun hc => ?_)
    · have hrun := mt_t hrun hc
      exact k_X8_number_b139 hx hb hr hml hown hts hlocks hin hE hA _ _ _ _ _ hrun hR hz hS (lv_sub hl [2] rfl)
    · have hrun := mt_f hrun hc
      refine lv_iload_n hx hb dX8_number_79 rfl (lv_at hl 2 rfl) ?_
      refine lv_if_le (tgt := 139) hx hb dX8_number_80 (by decide) (fun hc => ?_) (fun hc => ?_)
      · have hrun := mt_t hrun hc
        exact k_X8_number_b139 hx hb hr hml hown hts hlocks hin hE hA _ _ _ _ _ hrun hR hz hS (lv_sub hl [2] rfl)
      · have hrun := mt_f hrun hc
        refine lv_aload_n hx hb dX8_number_83 rfl (lv_at hl 0 rfl) ?_
        obtain ⟨_, ho9, hrun⟩ := m_bind hrun
        obtain ⟨fs9, ho9⟩ := m_is_spec ho9
        obtain ⟨x84, hc9, hrun⟩ := m_bind hrun
        refine mr_calli (mr_runV (As := []) (rest := []) hx hb hml hown hts (c_X8_sign l D ids st z hc9) yk_X8_sign ys_X8_sign wm_3_202 ⟨(Nat.le_of_ble_eq_true rfl), (Nat.le_of_ble_eq_true rfl)⟩ (mr_recv (ci := 6) hR hE hz hS hA rfl ho9) hl.1 rfl (Nat.le_of_ble_eq_true rfl) dX8_number_84 ⟨(Nat.le_of_ble_eq_true rfl), (Nat.le_of_ble_eq_true rfl)⟩) hR hz hS hA (fun H locs hR hz hS => ?_)
        refine lv_bipush (v := 48) hx hb dX8_number_87 (by decide) ?_
        refine lv_bipush (v := 57) hx hb dX8_number_89 (by decide) ?_
        obtain ⟨x91, hc9, hrun⟩ := m_bind hrun
        refine mr_calli (mr_runS (As := [.int x84, .int 48, .int 57]) (rest := []) hx hb hml hown hts (c_X8_in l D ids st z hc9) yk_X8_in ys_X8_in wm_3_87 ⟨(Nat.le_of_ble_eq_true rfl), (Nat.le_of_ble_eq_true rfl)⟩ (mr_recvS hR hE hz hS hA) hl.1 rfl (Nat.le_of_ble_eq_true rfl) dX8_number_91 ⟨(Nat.le_of_ble_eq_true rfl), (Nat.le_of_ble_eq_true rfl)⟩) hR hz hS hA (fun H locs hR hz hS => ?_)
        refine lv_if_eq (tgt := 139) hx hb dX8_number_94 (by decide) (fun hc => ?_) (fun hc => ?_)
        · have hrun := mt_t hrun hc
          exact k_X8_number_b139 hx hb hr hml hown hts hlocks hin hE hA _ _ _ _ _ hrun hR hz hS (lv_sub hl [2] rfl)
        · have hrun := mt_f hrun hc
          refine lv_bipush (v := 10) hx hb dX8_number_97 (by decide) ?_
          refine lv_iload_n hx hb dX8_number_99 rfl (lv_at hl 2 rfl) ?_
          refine lv_imul hx hb dX8_number_100 ?_
          refine lv_aload_n hx hb dX8_number_101 rfl (lv_at hl 0 rfl) ?_
          obtain ⟨_, ho9, hrun⟩ := m_bind hrun
          obtain ⟨fs9, ho9⟩ := m_is_spec ho9
          obtain ⟨x102, hc9, hrun⟩ := m_bind hrun
          refine mr_calli (mr_runV (As := []) (rest := [.int (10 * v2)]) hx hb hml hown hts (c_X8_sign l D ids st z hc9) yk_X8_sign ys_X8_sign wm_3_202 ⟨(Nat.le_of_ble_eq_true rfl), (Nat.le_of_ble_eq_true rfl)⟩ (mr_recv (ci := 6) hR hE hz hS hA rfl ho9) hl.1 rfl (Nat.le_of_ble_eq_true rfl) dX8_number_102 ⟨(Nat.le_of_ble_eq_true rfl), (Nat.le_of_ble_eq_true rfl)⟩) hR hz hS hA (fun H locs hR hz hS => ?_)
          refine lv_iadd hx hb dX8_number_105 ?_
          refine lv_bipush (v := 48) hx hb dX8_number_106 (by decide) ?_
          refine lv_isub hx hb dX8_number_108 ?_
          refine lv_iload_n hx hb dX8_number_109 rfl (lv_at hl 1 rfl) ?_
          refine lv_icmp_gt (tgt := 139) hx hb dX8_number_110 (by decide) (fun hc => ?_) (fun hc => ?_)
          · have hrun := mt_t hrun hc
            exact k_X8_number_b139 hx hb hr hml hown hts hlocks hin hE hA _ _ _ _ _ hrun hR hz hS (lv_sub hl [2] rfl)
          · have hrun := mt_f hrun hc
            refine lv_bipush (v := 10) hx hb dX8_number_113 (by decide) ?_
            refine lv_iload_n hx hb dX8_number_115 rfl (lv_at hl 2 rfl) ?_
            refine lv_imul hx hb dX8_number_116 ?_
            refine lv_aload_n hx hb dX8_number_117 rfl (lv_at hl 0 rfl) ?_
            obtain ⟨_, ho9, hrun⟩ := m_bind hrun
            obtain ⟨fs9, ho9⟩ := m_is_spec ho9
            obtain ⟨x118, hc9, hrun⟩ := m_bind hrun
            refine mr_calli (mr_runV (As := []) (rest := [.int (10 * v2)]) hx hb hml hown hts (c_X8_sign l D ids st z hc9) yk_X8_sign ys_X8_sign wm_3_202 ⟨(Nat.le_of_ble_eq_true rfl), (Nat.le_of_ble_eq_true rfl)⟩ (mr_recv (ci := 6) hR hE hz hS hA rfl ho9) hl.1 rfl (Nat.le_of_ble_eq_true rfl) dX8_number_118 ⟨(Nat.le_of_ble_eq_true rfl), (Nat.le_of_ble_eq_true rfl)⟩) hR hz hS hA (fun H locs hR hz hS => ?_)
            refine lv_iadd hx hb dX8_number_121 ?_
            refine lv_bipush (v := 48) hx hb dX8_number_122 (by decide) ?_
            refine lv_isub hx hb dX8_number_124 ?_
            refine lv_istore_n (lv' := [(2, .int (((10 * v2) + x118) - 48)), (0, .ref v0), (1, .int v1)]) hx hb dX8_number_125 rfl hl (by decide) rfl (fun ls hl => ?_)
            refine lv_aload_n hx hb dX8_number_126 rfl (lv_at hl 1 rfl) ?_
            refine lv_dup hx hb dX8_number_127 rfl ?_
            obtain ⟨x128, hc9, hrun⟩ := m_bind hrun
            refine mr_get (C := RX8) (T := TX8) (N := 13) (ci := 6) hx hb hts (fun w q => m_ws_in (wi_X8 w q)) hown hR rfl 8 (by decide) (hts _ (m_ws_in wm_3_41)) (fun _ h9 => h9) (m_gi_spec hc9) dX8_number_128 ?_
            refine lv_iconst (v := 1) hx hb dX8_number_131 (by decide) ?_
            refine lv_iadd hx hb dX8_number_132 ?_
            obtain ⟨h133, hc9, hrun⟩ := m_bind hrun
            refine mr_put (C := RX8) (T := TX8) (N := 13) (ci := 6) hx hb hts (fun w q => m_ws_in (wi_X8 w q)) tyX8 tyX8_ok nmX8 hown hR hz hS rfl 8 (by decide) (hts _ (m_ws_in wm_3_41)) (fun _ h9 => h9) rfl (tyX8_ok 8 (by decide)) rfl rfl hc9 dX8_number_133 (fun H locs hR hz hS => ?_)
            refine lv_goto (tgt := 72) hx hb dX8_number_136 (by decide) ?_
            exact ih _ _ _ _ _ _ _ hrun hR hz hS (lv_sub hl [1, 2, 0] rfl)
set_option maxRecDepth 100000 in
set_option maxHeartbeats 4000000 in
theorem k_X8_number_b68 {p : Program} {l : Launch} {e : Env} {s : State} {m : MethodId} {args : Array Value} {below : List Frame} {meth : Method} {c : Code} {D : va_G} {ids : m_I3} {st : m_T} {A : Nat → Prop} {z : Nat} {r : Int32} {hF : mH} (hx : p.tables.exec = Jvm.exec) (hb : c.code = cX8_number) (hr : meth.sig.returnType = some .int) (hml : c.maxLocals = 3) (hown : s.vm.findClass RX8 = some m.cls) (hts : ∀ w ∈ (m_ws yX8_number cX8_number 3 (some .int)), w.before args s = true) (hlocks : meth.locks = false) (hin : meth.name = yX8_number.name) (hE : m_EV st A s s.heap) (hA : ∀ q, s.heap.size ≤ q → A q) (h : mH) (v0 : Nat) (v1 : Int32) (v2 : Int32) (t0 : Nat) (t1 : Int32) (t2 : Int32) (H : Heap) (locs : List Loc) (ls : Array Slot) (hrun : s_X8_number_b68 h v0 v1 v2 t0 t1 t2 = some (r, hF)) (hR : Rl D ids A h s H) (hz : H.size = z) (hS : va_S A s.heap H locs) (hl : lv_has ls 3 [(0, .ref v0), (1, .int v1), (2, .int v2)]) : W p l e rm_X8_number s m args below meth c H locs 0 0 (MQ below (mQi D ids A r hF z) args s 0 0 A) (F0 m 68 ls [.int t2, .int t1, .ref t0]) := by
  unfold s_X8_number_b68 at hrun
  refine lv_iadd hx hb dX8_number_68 ?_
  obtain ⟨h69, hc9, hrun⟩ := m_bind hrun
  refine mr_put (C := RX8) (T := TX8) (N := 13) (ci := 6) hx hb hts (fun w q => m_ws_in (wi_X8 w q)) tyX8 tyX8_ok nmX8 hown hR hz hS rfl 8 (by decide) (hts _ (m_ws_in wm_3_41)) (fun _ h9 => h9) rfl (tyX8_ok 8 (by decide)) rfl rfl hc9 dX8_number_69 (fun H locs hR hz hS => ?_)
  exact k_X8_number_L72 hx hb hr hml hown hts hlocks hin hE hA _ _ _ _ _ _ _ _ hrun hR hz hS (lv_sub hl [0, 1, 2] rfl)
set_option maxRecDepth 100000 in
set_option maxHeartbeats 4000000 in
theorem k_X8_number_b40 {p : Program} {l : Launch} {e : Env} {s : State} {m : MethodId} {args : Array Value} {below : List Frame} {meth : Method} {c : Code} {D : va_G} {ids : m_I3} {st : m_T} {A : Nat → Prop} {z : Nat} {r : Int32} {hF : mH} (hx : p.tables.exec = Jvm.exec) (hb : c.code = cX8_number) (hr : meth.sig.returnType = some .int) (hml : c.maxLocals = 3) (hown : s.vm.findClass RX8 = some m.cls) (hts : ∀ w ∈ (m_ws yX8_number cX8_number 3 (some .int)), w.before args s = true) (hlocks : meth.locks = false) (hin : meth.name = yX8_number.name) (hE : m_EV st A s s.heap) (hA : ∀ q, s.heap.size ≤ q → A q) (h : mH) (v0 : Nat) (v1 : Int32) (t0 : Nat) (t1 : Int32) (H : Heap) (locs : List Loc) (ls : Array Slot) (hrun : s_X8_number_b40 h v0 v1 t0 t1 = some (r, hF)) (hR : Rl D ids A h s H) (hz : H.size = z) (hS : va_S A s.heap H locs) (hl : lv_has ls 3 [(0, .ref v0), (1, .int v1)]) : W p l e rm_X8_number s m args below meth c H locs 0 0 (MQ below (mQi D ids A r hF z) args s 0 0 A) (F0 m 40 ls [.int t1, .ref t0]) := by
  unfold s_X8_number_b40 at hrun
  obtain ⟨_, hz9, hrun⟩ := m_bind hrun
  obtain ⟨h40, hc9, hrun⟩ := m_bind hrun
  refine mr_put (C := RX8) (T := TX8) (N := 13) (ci := 6) hx hb hts (fun w q => m_ws_in (wi_X8 w q)) tyX8 tyX8_ok nmX8 hown hR hz hS rfl 9 (by decide) (hts _ (m_ws_in wm_3_42)) (fun _ h9 => h9) rfl (tyX8_ok 9 (by decide)) (m_z_spec hz9).2 (m_z_fit hz9) hc9 dX8_number_40 (fun H locs hR hz hS => ?_)
  refine lv_aload_n hx hb dX8_number_43 rfl (lv_at hl 0 rfl) ?_
  obtain ⟨_, ho9, hrun⟩ := m_bind hrun
  obtain ⟨fs9, ho9⟩ := m_is_spec ho9
  obtain ⟨x44, hc9, hrun⟩ := m_bind hrun
  refine mr_calli (mr_runV (As := []) (rest := []) hx hb hml hown hts (c_X8_sign l D ids st z hc9) yk_X8_sign ys_X8_sign wm_3_202 ⟨(Nat.le_of_ble_eq_true rfl), (Nat.le_of_ble_eq_true rfl)⟩ (mr_recv (ci := 6) hR hE hz hS hA rfl ho9) hl.1 rfl (Nat.le_of_ble_eq_true rfl) dX8_number_44 ⟨(Nat.le_of_ble_eq_true rfl), (Nat.le_of_ble_eq_true rfl)⟩) hR hz hS hA (fun H locs hR hz hS => ?_)
  refine lv_bipush (v := 48) hx hb dX8_number_47 (by decide) ?_
  refine lv_isub hx hb dX8_number_49 ?_
  refine lv_istore_n (lv' := [(2, .int (x44 - 48)), (0, .ref v0), (1, .int v1)]) hx hb dX8_number_50 rfl hl (by decide) rfl (fun ls hl => ?_)
  refine lv_aload_n hx hb dX8_number_51 rfl (lv_at hl 1 rfl) ?_
  refine lv_dup hx hb dX8_number_52 rfl ?_
  obtain ⟨x53, hc9, hrun⟩ := m_bind hrun
  refine mr_get (C := RX8) (T := TX8) (N := 13) (ci := 6) hx hb hts (fun w q => m_ws_in (wi_X8 w q)) hown hR rfl 8 (by decide) (hts _ (m_ws_in wm_3_41)) (fun _ h9 => h9) (m_gi_spec hc9) dX8_number_53 ?_
  refine lv_aload_n hx hb dX8_number_56 rfl (lv_at hl 1 rfl) ?_
  obtain ⟨x57, hc9, hrun⟩ := m_bind hrun
  refine mr_get (C := RX8) (T := TX8) (N := 13) (ci := 6) hx hb hts (fun w q => m_ws_in (wi_X8 w q)) hown hR rfl 9 (by decide) (hts _ (m_ws_in wm_3_42)) (fun _ h9 => h9) (m_gi_spec hc9) dX8_number_57 ?_
  refine lv_if_eq (tgt := 67) hx hb dX8_number_60 (by decide) (fun hc => ?_) (fun hc => ?_)
  · have hrun := mt_t hrun hc
    refine lv_iconst (v := 0) hx hb dX8_number_67 (by decide) ?_
    exact k_X8_number_b68 hx hb hr hml hown hts hlocks hin hE hA _ _ _ _ _ _ _ _ _ _ hrun hR hz hS (lv_sub hl [1, 2, 0] rfl)
  · have hrun := mt_f hrun hc
    refine lv_iconst (v := 1) hx hb dX8_number_63 (by decide) ?_
    refine lv_goto (tgt := 68) hx hb dX8_number_64 (by decide) ?_
    exact k_X8_number_b68 hx hb hr hml hown hts hlocks hin hE hA _ _ _ _ _ _ _ _ _ _ hrun hR hz hS (lv_sub hl [1, 2, 0] rfl)
set_option maxRecDepth 100000 in
set_option maxHeartbeats 4000000 in
theorem k_X8_number_b39 {p : Program} {l : Launch} {e : Env} {s : State} {m : MethodId} {args : Array Value} {below : List Frame} {meth : Method} {c : Code} {D : va_G} {ids : m_I3} {st : m_T} {A : Nat → Prop} {z : Nat} {r : Int32} {hF : mH} (hx : p.tables.exec = Jvm.exec) (hb : c.code = cX8_number) (hr : meth.sig.returnType = some .int) (hml : c.maxLocals = 3) (hown : s.vm.findClass RX8 = some m.cls) (hts : ∀ w ∈ (m_ws yX8_number cX8_number 3 (some .int)), w.before args s = true) (hlocks : meth.locks = false) (hin : meth.name = yX8_number.name) (hE : m_EV st A s s.heap) (hA : ∀ q, s.heap.size ≤ q → A q) (h : mH) (v0 : Nat) (v1 : Int32) (t0 : Nat) (H : Heap) (locs : List Loc) (ls : Array Slot) (hrun : s_X8_number_b39 h v0 v1 t0 = some (r, hF)) (hR : Rl D ids A h s H) (hz : H.size = z) (hS : va_S A s.heap H locs) (hl : lv_has ls 3 [(0, .ref v0), (1, .int v1)]) : W p l e rm_X8_number s m args below meth c H locs 0 0 (MQ below (mQi D ids A r hF z) args s 0 0 A) (F0 m 39 ls [.ref t0]) := by
  unfold s_X8_number_b39 at hrun
  refine lv_iconst (v := 0) hx hb dX8_number_39 (by decide) ?_
  exact k_X8_number_b40 hx hb hr hml hown hts hlocks hin hE hA _ _ _ _ _ _ _ _ hrun hR hz hS (lv_sub hl [0, 1] rfl)
set_option maxRecDepth 100000 in
set_option maxHeartbeats 4000000 in
theorem k_X8_number_b29 {p : Program} {l : Launch} {e : Env} {s : State} {m : MethodId} {args : Array Value} {below : List Frame} {meth : Method} {c : Code} {D : va_G} {ids : m_I3} {st : m_T} {A : Nat → Prop} {z : Nat} {r : Int32} {hF : mH} (hx : p.tables.exec = Jvm.exec) (hb : c.code = cX8_number) (hr : meth.sig.returnType = some .int) (hml : c.maxLocals = 3) (hown : s.vm.findClass RX8 = some m.cls) (hts : ∀ w ∈ (m_ws yX8_number cX8_number 3 (some .int)), w.before args s = true) (hlocks : meth.locks = false) (hin : meth.name = yX8_number.name) (hE : m_EV st A s s.heap) (hA : ∀ q, s.heap.size ≤ q → A q) (h : mH) (v0 : Nat) (v1 : Int32) (t0 : Nat) (t1 : Int32) (t2 : Int32) (t3 : Int32) (H : Heap) (locs : List Loc) (ls : Array Slot) (hrun : s_X8_number_b29 h v0 v1 t0 t1 t2 t3 = some (r, hF)) (hR : Rl D ids A h s H) (hz : H.size = z) (hS : va_S A s.heap H locs) (hl : lv_has ls 3 [(0, .ref v0), (1, .int v1)]) : W p l e rm_X8_number s m args below meth c H locs 0 0 (MQ below (mQi D ids A r hF z) args s 0 0 A) (F0 m 29 ls [.int t3, .int t2, .int t1, .ref t0]) := by
  unfold s_X8_number_b29 at hrun
  obtain ⟨x29, hc9, hrun⟩ := m_bind hrun
  refine mr_calli (mr_runS (As := [.int t1, .int t2, .int t3]) (rest := [.ref t0]) hx hb hml hown hts (c_X8_in l D ids st z hc9) yk_X8_in ys_X8_in wm_3_87 ⟨(Nat.le_of_ble_eq_true rfl), (Nat.le_of_ble_eq_true rfl)⟩ (mr_recvS hR hE hz hS hA) hl.1 rfl (Nat.le_of_ble_eq_true rfl) dX8_number_29 ⟨(Nat.le_of_ble_eq_true rfl), (Nat.le_of_ble_eq_true rfl)⟩) hR hz hS hA (fun H locs hR hz hS => ?_)
  refine lv_if_eq (tgt := 39) hx hb dX8_number_32 (by decide) (fun hc => ?_) (fun hc => ?_)
  · have hrun := mt_t hrun hc
    exact k_X8_number_b39 hx hb hr hml hown hts hlocks hin hE hA _ _ _ _ _ _ _ hrun hR hz hS (lv_sub hl [0, 1] rfl)
  · have hrun := mt_f hrun hc
    refine lv_iconst (v := 1) hx hb dX8_number_35 (by decide) ?_
    refine lv_goto (tgt := 40) hx hb dX8_number_36 (by decide) ?_
    exact k_X8_number_b40 hx hb hr hml hown hts hlocks hin hE hA _ _ _ _ _ _ _ _ hrun hR hz hS (lv_sub hl [0, 1] rfl)
set_option maxRecDepth 100000 in
set_option maxHeartbeats 4000000 in
theorem c_X8_number (l : Launch) (D : va_G) (ids : m_I3) (st : m_T) (z : Nat) {h : mH} {v0 : Nat} {v1 : Int32} {r : Int32} {hF : mH} (hrun : s_X8_number h v0 v1 = some (r, hF)) : Met l yX8_number (m_ws yX8_number cX8_number 3 (some .int)) rm_X8_number (mPc D ids st [.ref v0, .int v1] h z) (mQi D ids (m_A h z) r hF z) rm_X8_number.cells rm_X8_number.slots (m_A h z) := by
  refine mr_of (cc := cX8_number) (maxL := 3) (ret := some .int) (by decide) rfl (Nat.le_of_ble_eq_true rfl) ?_
  intro p e s m below meth c ls hx hb hr hml hown hts hlocks hin hR hE hz hl
  have hA : ∀ q, s.heap.size ≤ q → m_A h z q := fun q hq => Or.inr (by rw [← hz]; exact hq)
  have hS : va_S (m_A h z) s.heap s.heap [] := va_S.rf
  have hl : lv_has ls 3 [(0, .ref v0), (1, .int v1)] := hl
  unfold s_X8_number at hrun
  refine lv_aload_n hx hb dX8_number_0 rfl (lv_at hl 0 rfl) ?_
  refine lv_aload_n hx hb dX8_number_1 rfl (lv_at hl 0 rfl) ?_
  obtain ⟨x2, hc9, hrun⟩ := m_bind hrun
  refine mr_get (C := RX8) (T := TX8) (N := 13) (ci := 6) hx hb hts (fun w q => m_ws_in (wi_X8 w q)) hown hR rfl 9 (by decide) (hts _ (m_ws_in wm_3_42)) (fun _ h9 => h9) (m_gi_spec hc9) dX8_number_2 ?_
  refine lv_if_eq (tgt := 39) hx hb dX8_number_5 (by decide) (fun hc => ?_) (fun hc => ?_)
  · have hrun := mt_t hrun hc
    exact k_X8_number_b39 hx hb hr hml hown hts hlocks hin hE hA _ _ _ _ _ _ _ hrun hR hz hS (lv_sub hl [0, 1] rfl)
  · have hrun := mt_f hrun hc
    refine lv_aload_n hx hb dX8_number_8 rfl (lv_at hl 0 rfl) ?_
    obtain ⟨_, ho9, hrun⟩ := m_bind hrun
    obtain ⟨fs9, ho9⟩ := m_is_spec ho9
    obtain ⟨x9, hc9, hrun⟩ := m_bind hrun
    refine mr_calli (mr_runV (As := []) (rest := [.ref v0]) hx hb hml hown hts (c_X8_sign l D ids st z hc9) yk_X8_sign ys_X8_sign wm_3_202 ⟨(Nat.le_of_ble_eq_true rfl), (Nat.le_of_ble_eq_true rfl)⟩ (mr_recv (ci := 6) hR hE hz hS hA rfl ho9) hl.1 rfl (Nat.le_of_ble_eq_true rfl) dX8_number_9 ⟨(Nat.le_of_ble_eq_true rfl), (Nat.le_of_ble_eq_true rfl)⟩) hR hz hS hA (fun H locs hR hz hS => ?_)
    refine lv_bipush (v := 48) hx hb dX8_number_12 (by decide) ?_
    refine lv_iload_n hx hb dX8_number_14 rfl (lv_at hl 1 rfl) ?_
    refine lv_bipush (v := 9) hx hb dX8_number_15 (by decide) ?_
    refine lv_icmp_ge (tgt := 27) hx hb dX8_number_17 (by decide) (fun hc => ?_) (fun hc => ?_)
    · have hrun := mt_t hrun hc
      refine lv_bipush (v := 57) hx hb dX8_number_27 (by decide) ?_
      exact k_X8_number_b29 hx hb hr hml hown hts hlocks hin hE hA _ _ _ _ _ _ _ _ _ _ hrun hR hz hS (lv_sub hl [0, 1] rfl)
    · have hrun := mt_f hrun hc
      refine lv_bipush (v := 48) hx hb dX8_number_20 (by decide) ?_
      refine lv_iload_n hx hb dX8_number_22 rfl (lv_at hl 1 rfl) ?_
      refine lv_iadd hx hb dX8_number_23 ?_
      refine lv_goto (tgt := 29) hx hb dX8_number_24 (by decide) ?_
      exact k_X8_number_b29 hx hb hr hml hown hts hlocks hin hE hA _ _ _ _ _ _ _ _ _ _ hrun hR hz hS (lv_sub hl [0, 1] rfl)
/-! X8_readsTap -/
abbrev rm_X8_readsTap : Room := { frames := 2, cells := 0, slots := 0, locals := 44 }
theorem yk_X8_readsTap : m_K yX8_readsTap cX8_readsTap 3 (none) 0 := ⟨wm_3_197, wm_0_10, by decide +kernel⟩
theorem ys_X8_readsTap : Cond.instanceMethod yX8_readsTap ∈ wT ∧ Cond.selects RX8 yX8_readsTap yX8_readsTap ∈ wT := ⟨wm_3_196, wp_2_10⟩
set_option maxRecDepth 100000 in
set_option maxHeartbeats 4000000 in
theorem k_X8_readsTap_b163 {p : Program} {l : Launch} {e : Env} {s : State} {m : MethodId} {args : Array Value} {below : List Frame} {meth : Method} {c : Code} {D : va_G} {ids : m_I3} {st : m_T} {A : Nat → Prop} {z : Nat} {hF : mH} (hx : p.tables.exec = Jvm.exec) (hb : c.code = cX8_readsTap) (hr : meth.sig.returnType = none) (hml : c.maxLocals = 3) (hown : s.vm.findClass RX8 = some m.cls) (hts : ∀ w ∈ (m_ws yX8_readsTap cX8_readsTap 3 (none)), w.before args s = true) (hlocks : meth.locks = false) (hin : meth.name = yX8_readsTap.name) (hE : m_EV st A s s.heap) (hA : ∀ q, s.heap.size ≤ q → A q) (h : mH) (t0 : Nat) (t1 : Int32) (t2 : Int32) (H : Heap) (locs : List Loc) (ls : Array Slot) (hrun : s_X8_readsTap_b163 h t0 t1 t2 = some hF) (hR : Rl D ids A h s H) (hz : H.size = z) (hS : va_S A s.heap H locs) (hl : lv_has ls 3 []) : W p l e rm_X8_readsTap s m args below meth c H locs 0 0 (MQ below (mQv D ids A hF z) args s 0 0 A) (F0 m 163 ls [.int t2, .int t1, .ref t0]) := by
  unfold s_X8_readsTap_b163 at hrun
  refine lv_iadd hx hb dX8_readsTap_163 ?_
  obtain ⟨h164, hc9, hrun⟩ := m_bind hrun
  refine mr_put (C := RX8) (T := TX8) (N := 13) (ci := 6) hx hb hts (fun w q => m_ws_in (wi_X8 w q)) tyX8 tyX8_ok nmX8 hown hR hz hS rfl 11 (by decide) (hts _ (m_ws_in wm_3_44)) (fun _ h9 => h9) rfl (tyX8_ok 11 (by decide)) rfl rfl hc9 dX8_readsTap_164 (fun H locs hR hz hS => ?_)
  obtain rfl := Option.some.inj hrun
  exact mr_vret hx hb hr hlocks hR hz hS dX8_readsTap_167
set_option maxRecDepth 100000 in
set_option maxHeartbeats 4000000 in
theorem k_X8_readsTap_b131 {p : Program} {l : Launch} {e : Env} {s : State} {m : MethodId} {args : Array Value} {below : List Frame} {meth : Method} {c : Code} {D : va_G} {ids : m_I3} {st : m_T} {A : Nat → Prop} {z : Nat} {hF : mH} (hx : p.tables.exec = Jvm.exec) (hb : c.code = cX8_readsTap) (hr : meth.sig.returnType = none) (hml : c.maxLocals = 3) (hown : s.vm.findClass RX8 = some m.cls) (hts : ∀ w ∈ (m_ws yX8_readsTap cX8_readsTap 3 (none)), w.before args s = true) (hlocks : meth.locks = false) (hin : meth.name = yX8_readsTap.name) (hE : m_EV st A s s.heap) (hA : ∀ q, s.heap.size ≤ q → A q) (h : mH) (v0 : Nat) (v1 : Int32) (t0 : Nat) (t1 : Int32) (t2 : Int32) (H : Heap) (locs : List Loc) (ls : Array Slot) (hrun : s_X8_readsTap_b131 h v0 v1 t0 t1 t2 = some hF) (hR : Rl D ids A h s H) (hz : H.size = z) (hS : va_S A s.heap H locs) (hl : lv_has ls 3 [(0, .ref v0), (1, .int v1)]) : W p l e rm_X8_readsTap s m args below meth c H locs 0 0 (MQ below (mQv D ids A hF z) args s 0 0 A) (F0 m 131 ls [.int t2, .int t1, .ref t0]) := by
  unfold s_X8_readsTap_b131 at hrun
  obtain ⟨h131, hc9, hrun⟩ := m_bind hrun
  refine mr_iast hx hb hR hz hS hc9 dX8_readsTap_131 (fun H locs hR hz hS => ?_)
  refine lv_aload_n hx hb dX8_readsTap_132 rfl (lv_at hl 0 rfl) ?_
  obtain ⟨x133, hc9, hrun⟩ := m_bind hrun
  refine mr_get (C := RX8) (T := TX8) (N := 13) (ci := 6) hx hb hts (fun w q => m_ws_in (wi_X8 w q)) hown hR rfl 10 (by decide) (hts _ (m_ws_in wm_3_43)) (fun _ h9 => h9) (m_gr_spec hc9) dX8_readsTap_133 ?_
  refine lv_iload_n hx hb dX8_readsTap_136 rfl (lv_at hl 1 rfl) ?_
  refine lv_iconst (v := 3) hx hb dX8_readsTap_137 (by decide) ?_
  refine lv_iadd hx hb dX8_readsTap_138 ?_
  refine lv_aload_n hx hb dX8_readsTap_139 rfl (lv_at hl 0 rfl) ?_
  refine lv_bipush (v := 9) hx hb dX8_readsTap_140 (by decide) ?_
  obtain ⟨_, ho9, hrun⟩ := m_bind hrun
  obtain ⟨fs9, ho9⟩ := m_is_spec ho9
  obtain ⟨⟨x142, h142⟩, hc9, hrun⟩ := m_bind hrun
  refine mr_calli (mr_runV (As := [.int 9]) (rest := [.int (v1 + 3), .ref x133]) hx hb hml hown hts (c_X8_number l D ids st z hc9) yk_X8_number ys_X8_number wm_3_198 ⟨(Nat.le_of_ble_eq_true rfl), (Nat.le_of_ble_eq_true rfl)⟩ (mr_recv (ci := 6) hR hE hz hS hA rfl ho9) hl.1 rfl (Nat.le_of_ble_eq_true rfl) dX8_readsTap_142 ⟨(Nat.le_of_ble_eq_true rfl), (Nat.le_of_ble_eq_true rfl)⟩) hR hz hS hA (fun H locs hR hz hS => ?_)
  obtain ⟨h145, hc9, hrun⟩ := m_bind hrun
  refine mr_iast hx hb hR hz hS hc9 dX8_readsTap_145 (fun H locs hR hz hS => ?_)
  refine lv_aload_n hx hb dX8_readsTap_146 rfl (lv_at hl 0 rfl) ?_
  refine lv_dup hx hb dX8_readsTap_147 rfl ?_
  obtain ⟨x148, hc9, hrun⟩ := m_bind hrun
  refine mr_get (C := RX8) (T := TX8) (N := 13) (ci := 6) hx hb hts (fun w q => m_ws_in (wi_X8 w q)) hown hR rfl 11 (by decide) (hts _ (m_ws_in wm_3_44)) (fun _ h9 => h9) (m_gi_spec hc9) dX8_readsTap_148 ?_
  refine lv_aload_n hx hb dX8_readsTap_151 rfl (lv_at hl 0 rfl) ?_
  obtain ⟨x152, hc9, hrun⟩ := m_bind hrun
  refine mr_get (C := RX8) (T := TX8) (N := 13) (ci := 6) hx hb hts (fun w q => m_ws_in (wi_X8 w q)) hown hR rfl 9 (by decide) (hts _ (m_ws_in wm_3_42)) (fun _ h9 => h9) (m_gi_spec hc9) dX8_readsTap_152 ?_
  refine lv_if_eq (tgt := 162) hx hb dX8_readsTap_155 (by decide) (fun hc => ?_) (fun hc => ?_)
  · have hrun := mt_t hrun hc
    refine lv_iconst (v := 0) hx hb dX8_readsTap_162 (by decide) ?_
    exact k_X8_readsTap_b163 hx hb hr hml hown hts hlocks hin hE hA _ _ _ _ _ _ _ hrun hR hz hS (lv_sub hl [] rfl)
  · have hrun := mt_f hrun hc
    refine lv_iconst (v := 1) hx hb dX8_readsTap_158 (by decide) ?_
    refine lv_goto (tgt := 163) hx hb dX8_readsTap_159 (by decide) ?_
    exact k_X8_readsTap_b163 hx hb hr hml hown hts hlocks hin hE hA _ _ _ _ _ _ _ hrun hR hz hS (lv_sub hl [] rfl)
set_option maxRecDepth 100000 in
set_option maxHeartbeats 4000000 in
theorem k_X8_readsTap_b109 {p : Program} {l : Launch} {e : Env} {s : State} {m : MethodId} {args : Array Value} {below : List Frame} {meth : Method} {c : Code} {D : va_G} {ids : m_I3} {st : m_T} {A : Nat → Prop} {z : Nat} {hF : mH} (hx : p.tables.exec = Jvm.exec) (hb : c.code = cX8_readsTap) (hr : meth.sig.returnType = none) (hml : c.maxLocals = 3) (hown : s.vm.findClass RX8 = some m.cls) (hts : ∀ w ∈ (m_ws yX8_readsTap cX8_readsTap 3 (none)), w.before args s = true) (hlocks : meth.locks = false) (hin : meth.name = yX8_readsTap.name) (hE : m_EV st A s s.heap) (hA : ∀ q, s.heap.size ≤ q → A q) (h : mH) (v0 : Nat) (v1 : Int32) (v2 : Int32) (t0 : Nat) (t1 : Int32) (t2 : Int32) (H : Heap) (locs : List Loc) (ls : Array Slot) (hrun : s_X8_readsTap_b109 h v0 v1 v2 t0 t1 t2 = some hF) (hR : Rl D ids A h s H) (hz : H.size = z) (hS : va_S A s.heap H locs) (hl : lv_has ls 3 [(0, .ref v0), (1, .int v1), (2, .int v2)]) : W p l e rm_X8_readsTap s m args below meth c H locs 0 0 (MQ below (mQv D ids A hF z) args s 0 0 A) (F0 m 109 ls [.int t2, .int t1, .ref t0]) := by
  unfold s_X8_readsTap_b109 at hrun
  refine lv_iadd hx hb dX8_readsTap_109 ?_
  obtain ⟨h110, hc9, hrun⟩ := m_bind hrun
  refine mr_put (C := RX8) (T := TX8) (N := 13) (ci := 6) hx hb hts (fun w q => m_ws_in (wi_X8 w q)) tyX8 tyX8_ok nmX8 hown hR hz hS rfl 8 (by decide) (hts _ (m_ws_in wm_3_41)) (fun _ h9 => h9) rfl (tyX8_ok 8 (by decide)) rfl rfl hc9 dX8_readsTap_110 (fun H locs hR hz hS => ?_)
  refine lv_aload_n hx hb dX8_readsTap_113 rfl (lv_at hl 0 rfl) ?_
  obtain ⟨x114, hc9, hrun⟩ := m_bind hrun
  refine mr_get (C := RX8) (T := TX8) (N := 13) (ci := 6) hx hb hts (fun w q => m_ws_in (wi_X8 w q)) hown hR rfl 10 (by decide) (hts _ (m_ws_in wm_3_43)) (fun _ h9 => h9) (m_gr_spec hc9) dX8_readsTap_114 ?_
  refine lv_iload_n hx hb dX8_readsTap_117 rfl (lv_at hl 1 rfl) ?_
  refine lv_iconst (v := 4) hx hb dX8_readsTap_118 (by decide) ?_
  refine lv_iadd hx hb dX8_readsTap_119 ?_
  refine lv_iload_n hx hb dX8_readsTap_120 rfl (lv_at hl 2 rfl) ?_
  refine lv_bipush (v := 43) hx hb dX8_readsTap_121 (by decide) ?_
  refine lv_icmp_ne (tgt := 130) hx hb dX8_readsTap_123 (by decide) (fun hc => ?_) (fun hc => ?_)
  · have hrun := mt_f hrun hc
    refine lv_iconst (v := 0) hx hb dX8_readsTap_130 (by decide) ?_
    exact k_X8_readsTap_b131 hx hb hr hml hown hts hlocks hin hE hA _ _ _ _ _ _ _ _ _ hrun hR hz hS (lv_sub hl [0, 1] rfl)
  · have hrun := mt_t hrun hc
    refine lv_iconst (v := 1) hx hb dX8_readsTap_126 (by decide) ?_
    refine lv_goto (tgt := 131) hx hb dX8_readsTap_127 (by decide) ?_
    exact k_X8_readsTap_b131 hx hb hr hml hown hts hlocks hin hE hA _ _ _ _ _ _ _ _ _ hrun hR hz hS (lv_sub hl [0, 1] rfl)
set_option maxRecDepth 100000 in
set_option maxHeartbeats 4000000 in
theorem k_X8_readsTap_b89 {p : Program} {l : Launch} {e : Env} {s : State} {m : MethodId} {args : Array Value} {below : List Frame} {meth : Method} {c : Code} {D : va_G} {ids : m_I3} {st : m_T} {A : Nat → Prop} {z : Nat} {hF : mH} (hx : p.tables.exec = Jvm.exec) (hb : c.code = cX8_readsTap) (hr : meth.sig.returnType = none) (hml : c.maxLocals = 3) (hown : s.vm.findClass RX8 = some m.cls) (hts : ∀ w ∈ (m_ws yX8_readsTap cX8_readsTap 3 (none)), w.before args s = true) (hlocks : meth.locks = false) (hin : meth.name = yX8_readsTap.name) (hE : m_EV st A s s.heap) (hA : ∀ q, s.heap.size ≤ q → A q) (h : mH) (v0 : Nat) (v1 : Int32) (v2 : Int32) (t0 : Nat) (t1 : Int32) (H : Heap) (locs : List Loc) (ls : Array Slot) (hrun : s_X8_readsTap_b89 h v0 v1 v2 t0 t1 = some hF) (hR : Rl D ids A h s H) (hz : H.size = z) (hS : va_S A s.heap H locs) (hl : lv_has ls 3 [(0, .ref v0), (1, .int v1), (2, .int v2)]) : W p l e rm_X8_readsTap s m args below meth c H locs 0 0 (MQ below (mQv D ids A hF z) args s 0 0 A) (F0 m 89 ls [.int t1, .ref t0]) := by
  unfold s_X8_readsTap_b89 at hrun
  obtain ⟨_, hz9, hrun⟩ := m_bind hrun
  obtain ⟨h89, hc9, hrun⟩ := m_bind hrun
  refine mr_put (C := RX8) (T := TX8) (N := 13) (ci := 6) hx hb hts (fun w q => m_ws_in (wi_X8 w q)) tyX8 tyX8_ok nmX8 hown hR hz hS rfl 9 (by decide) (hts _ (m_ws_in wm_3_42)) (fun _ h9 => h9) rfl (tyX8_ok 9 (by decide)) (m_z_spec hz9).2 (m_z_fit hz9) hc9 dX8_readsTap_89 (fun H locs hR hz hS => ?_)
  refine lv_aload_n hx hb dX8_readsTap_92 rfl (lv_at hl 0 rfl) ?_
  refine lv_dup hx hb dX8_readsTap_93 rfl ?_
  obtain ⟨x94, hc9, hrun⟩ := m_bind hrun
  refine mr_get (C := RX8) (T := TX8) (N := 13) (ci := 6) hx hb hts (fun w q => m_ws_in (wi_X8 w q)) hown hR rfl 8 (by decide) (hts _ (m_ws_in wm_3_41)) (fun _ h9 => h9) (m_gi_spec hc9) dX8_readsTap_94 ?_
  refine lv_aload_n hx hb dX8_readsTap_97 rfl (lv_at hl 0 rfl) ?_
  obtain ⟨x98, hc9, hrun⟩ := m_bind hrun
  refine mr_get (C := RX8) (T := TX8) (N := 13) (ci := 6) hx hb hts (fun w q => m_ws_in (wi_X8 w q)) hown hR rfl 9 (by decide) (hts _ (m_ws_in wm_3_42)) (fun _ h9 => h9) (m_gi_spec hc9) dX8_readsTap_98 ?_
  refine lv_if_eq (tgt := 108) hx hb dX8_readsTap_101 (by decide) (fun hc => ?_) (fun hc => ?_)
  · have hrun := mt_t hrun hc
    refine lv_iconst (v := 0) hx hb dX8_readsTap_108 (by decide) ?_
    exact k_X8_readsTap_b109 hx hb hr hml hown hts hlocks hin hE hA _ _ _ _ _ _ _ _ _ _ hrun hR hz hS (lv_sub hl [0, 1, 2] rfl)
  · have hrun := mt_f hrun hc
    refine lv_iconst (v := 1) hx hb dX8_readsTap_104 (by decide) ?_
    refine lv_goto (tgt := 109) hx hb dX8_readsTap_105 (by decide) ?_
    exact k_X8_readsTap_b109 hx hb hr hml hown hts hlocks hin hE hA _ _ _ _ _ _ _ _ _ _ hrun hR hz hS (lv_sub hl [0, 1, 2] rfl)
set_option maxRecDepth 100000 in
set_option maxHeartbeats 4000000 in
theorem k_X8_readsTap_b88 {p : Program} {l : Launch} {e : Env} {s : State} {m : MethodId} {args : Array Value} {below : List Frame} {meth : Method} {c : Code} {D : va_G} {ids : m_I3} {st : m_T} {A : Nat → Prop} {z : Nat} {hF : mH} (hx : p.tables.exec = Jvm.exec) (hb : c.code = cX8_readsTap) (hr : meth.sig.returnType = none) (hml : c.maxLocals = 3) (hown : s.vm.findClass RX8 = some m.cls) (hts : ∀ w ∈ (m_ws yX8_readsTap cX8_readsTap 3 (none)), w.before args s = true) (hlocks : meth.locks = false) (hin : meth.name = yX8_readsTap.name) (hE : m_EV st A s s.heap) (hA : ∀ q, s.heap.size ≤ q → A q) (h : mH) (v0 : Nat) (v1 : Int32) (v2 : Int32) (t0 : Nat) (H : Heap) (locs : List Loc) (ls : Array Slot) (hrun : s_X8_readsTap_b88 h v0 v1 v2 t0 = some hF) (hR : Rl D ids A h s H) (hz : H.size = z) (hS : va_S A s.heap H locs) (hl : lv_has ls 3 [(0, .ref v0), (1, .int v1), (2, .int v2)]) : W p l e rm_X8_readsTap s m args below meth c H locs 0 0 (MQ below (mQv D ids A hF z) args s 0 0 A) (F0 m 88 ls [.ref t0]) := by
  unfold s_X8_readsTap_b88 at hrun
  refine lv_iconst (v := 0) hx hb dX8_readsTap_88 (by decide) ?_
  exact k_X8_readsTap_b89 hx hb hr hml hown hts hlocks hin hE hA _ _ _ _ _ _ _ _ _ hrun hR hz hS (lv_sub hl [0, 1, 2] rfl)
set_option maxRecDepth 100000 in
set_option maxHeartbeats 4000000 in
theorem k_X8_readsTap_b84 {p : Program} {l : Launch} {e : Env} {s : State} {m : MethodId} {args : Array Value} {below : List Frame} {meth : Method} {c : Code} {D : va_G} {ids : m_I3} {st : m_T} {A : Nat → Prop} {z : Nat} {hF : mH} (hx : p.tables.exec = Jvm.exec) (hb : c.code = cX8_readsTap) (hr : meth.sig.returnType = none) (hml : c.maxLocals = 3) (hown : s.vm.findClass RX8 = some m.cls) (hts : ∀ w ∈ (m_ws yX8_readsTap cX8_readsTap 3 (none)), w.before args s = true) (hlocks : meth.locks = false) (hin : meth.name = yX8_readsTap.name) (hE : m_EV st A s s.heap) (hA : ∀ q, s.heap.size ≤ q → A q) (h : mH) (v0 : Nat) (v1 : Int32) (v2 : Int32) (t0 : Nat) (H : Heap) (locs : List Loc) (ls : Array Slot) (hrun : s_X8_readsTap_b84 h v0 v1 v2 t0 = some hF) (hR : Rl D ids A h s H) (hz : H.size = z) (hS : va_S A s.heap H locs) (hl : lv_has ls 3 [(0, .ref v0), (1, .int v1), (2, .int v2)]) : W p l e rm_X8_readsTap s m args below meth c H locs 0 0 (MQ below (mQv D ids A hF z) args s 0 0 A) (F0 m 84 ls [.ref t0]) := by
  unfold s_X8_readsTap_b84 at hrun
  refine lv_iconst (v := 1) hx hb dX8_readsTap_84 (by decide) ?_
  refine lv_goto (tgt := 89) hx hb dX8_readsTap_85 (by decide) ?_
  exact k_X8_readsTap_b89 hx hb hr hml hown hts hlocks hin hE hA _ _ _ _ _ _ _ _ _ hrun hR hz hS (lv_sub hl [0, 1, 2] rfl)
set_option maxRecDepth 100000 in
set_option maxHeartbeats 4000000 in
theorem c_X8_readsTap (l : Launch) (D : va_G) (ids : m_I3) (st : m_T) (z : Nat) {h : mH} {v0 : Nat} {hF : mH} (hrun : s_X8_readsTap h v0 = some hF) : Met l yX8_readsTap (m_ws yX8_readsTap cX8_readsTap 3 (none)) rm_X8_readsTap (mPc D ids st [.ref v0] h z) (mQv D ids (m_A h z) hF z) rm_X8_readsTap.cells rm_X8_readsTap.slots (m_A h z) := by
  refine mr_of (cc := cX8_readsTap) (maxL := 3) (ret := none) (by decide) rfl (Nat.le_of_ble_eq_true rfl) ?_
  intro p e s m below meth c ls hx hb hr hml hown hts hlocks hin hR hE hz hl
  have hA : ∀ q, s.heap.size ≤ q → m_A h z q := fun q hq => Or.inr (by rw [← hz]; exact hq)
  have hS : va_S (m_A h z) s.heap s.heap [] := va_S.rf
  have hl : lv_has ls 3 [(0, .ref v0)] := hl
  unfold s_X8_readsTap at hrun
  refine lv_iconst (v := 5) hx hb dX8_readsTap_0 (by decide) ?_
  refine lv_aload_n hx hb dX8_readsTap_1 rfl (lv_at hl 0 rfl) ?_
  obtain ⟨x2, hc9, hrun⟩ := m_bind hrun
  refine mr_get (C := RX8) (T := TX8) (N := 13) (ci := 6) hx hb hts (fun w q => m_ws_in (wi_X8 w q)) hown hR rfl 11 (by decide) (hts _ (m_ws_in wm_3_44)) (fun _ h9 => h9) (m_gi_spec hc9) dX8_readsTap_2 ?_
  refine lv_imul hx hb dX8_readsTap_5 ?_
  refine lv_istore_n (lv' := [(1, .int (5 * x2)), (0, .ref v0)]) hx hb dX8_readsTap_6 rfl hl (by decide) rfl (fun ls hl => ?_)
  refine lv_aload_n hx hb dX8_readsTap_7 rfl (lv_at hl 1 rfl) ?_
  obtain ⟨x8, hc9, hrun⟩ := m_bind hrun
  refine mr_get (C := RX8) (T := TX8) (N := 13) (ci := 6) hx hb hts (fun w q => m_ws_in (wi_X8 w q)) hown hR rfl 10 (by decide) (hts _ (m_ws_in wm_3_43)) (fun _ h9 => h9) (m_gr_spec hc9) dX8_readsTap_8 ?_
  refine lv_iload_n hx hb dX8_readsTap_11 rfl (lv_at hl 0 rfl) ?_
  refine lv_aload_n hx hb dX8_readsTap_12 rfl (lv_at hl 1 rfl) ?_
  refine lv_iconst (v := 3) hx hb dX8_readsTap_13 (by decide) ?_
  obtain ⟨_, ho9, hrun⟩ := m_bind hrun
  obtain ⟨fs9, ho9⟩ := m_is_spec ho9
  obtain ⟨⟨x14, h14⟩, hc9, hrun⟩ := m_bind hrun
  refine mr_calli (mr_runV (As := [.int 3]) (rest := [.int (5 * x2), .ref x8]) hx hb hml hown hts (c_X8_number l D ids st z hc9) yk_X8_number ys_X8_number wm_3_198 ⟨(Nat.le_of_ble_eq_true rfl), (Nat.le_of_ble_eq_true rfl)⟩ (mr_recv (ci := 6) hR hE hz hS hA rfl ho9) hl.1 rfl (Nat.le_of_ble_eq_true rfl) dX8_readsTap_14 ⟨(Nat.le_of_ble_eq_true rfl), (Nat.le_of_ble_eq_true rfl)⟩) hR hz hS hA (fun H locs hR hz hS => ?_)
  obtain ⟨h17, hc9, hrun⟩ := m_bind hrun
  refine mr_iast hx hb hR hz hS hc9 dX8_readsTap_17 (fun H locs hR hz hS => ?_)
  refine lv_aload_n hx hb dX8_readsTap_18 rfl (lv_at hl 1 rfl) ?_
  refine lv_bipush (v := 100) hx hb dX8_readsTap_19 (by decide) ?_
  obtain ⟨_, ho9, hrun⟩ := m_bind hrun
  obtain ⟨fs9, ho9⟩ := m_is_spec ho9
  obtain ⟨h21, hc9, hrun⟩ := m_bind hrun
  refine mr_callv (mr_runV (As := [.int 100]) (rest := []) hx hb hml hown hts (c_X8_wants l D ids st z hc9) yk_X8_wants ys_X8_wants wm_3_206 ⟨(Nat.le_of_ble_eq_true rfl), (Nat.le_of_ble_eq_true rfl)⟩ (mr_recv (ci := 6) hR hE hz hS hA rfl ho9) hl.1 rfl (Nat.le_of_ble_eq_true rfl) dX8_readsTap_21 ⟨(Nat.le_of_ble_eq_true rfl), (Nat.le_of_ble_eq_true rfl)⟩) hR hz hS hA (fun H locs hR hz hS => ?_)
  refine lv_aload_n hx hb dX8_readsTap_24 rfl (lv_at hl 1 rfl) ?_
  obtain ⟨x25, hc9, hrun⟩ := m_bind hrun
  refine mr_get (C := RX8) (T := TX8) (N := 13) (ci := 6) hx hb hts (fun w q => m_ws_in (wi_X8 w q)) hown hR rfl 10 (by decide) (hts _ (m_ws_in wm_3_43)) (fun _ h9 => h9) (m_gr_spec hc9) dX8_readsTap_25 ?_
  refine lv_iload_n hx hb dX8_readsTap_28 rfl (lv_at hl 0 rfl) ?_
  refine lv_iconst (v := 1) hx hb dX8_readsTap_29 (by decide) ?_
  refine lv_iadd hx hb dX8_readsTap_30 ?_
  refine lv_aload_n hx hb dX8_readsTap_31 rfl (lv_at hl 1 rfl) ?_
  refine lv_bipush (v := 27) hx hb dX8_readsTap_32 (by decide) ?_
  obtain ⟨_, ho9, hrun⟩ := m_bind hrun
  obtain ⟨fs9, ho9⟩ := m_is_spec ho9
  obtain ⟨⟨x34, h34⟩, hc9, hrun⟩ := m_bind hrun
  refine mr_calli (mr_runV (As := [.int 27]) (rest := [.int ((5 * x2) + 1), .ref x25]) hx hb hml hown hts (c_X8_number l D ids st z hc9) yk_X8_number ys_X8_number wm_3_198 ⟨(Nat.le_of_ble_eq_true rfl), (Nat.le_of_ble_eq_true rfl)⟩ (mr_recv (ci := 6) hR hE hz hS hA rfl ho9) hl.1 rfl (Nat.le_of_ble_eq_true rfl) dX8_readsTap_34 ⟨(Nat.le_of_ble_eq_true rfl), (Nat.le_of_ble_eq_true rfl)⟩) hR hz hS hA (fun H locs hR hz hS => ?_)
  obtain ⟨h37, hc9, hrun⟩ := m_bind hrun
  refine mr_iast hx hb hR hz hS hc9 dX8_readsTap_37 (fun H locs hR hz hS => ?_)
  refine lv_aload_n hx hb dX8_readsTap_38 rfl (lv_at hl 1 rfl) ?_
  refine lv_bipush (v := 58) hx hb dX8_readsTap_39 (by decide) ?_
  obtain ⟨_, ho9, hrun⟩ := m_bind hrun
  obtain ⟨fs9, ho9⟩ := m_is_spec ho9
  obtain ⟨h41, hc9, hrun⟩ := m_bind hrun
  refine mr_callv (mr_runV (As := [.int 58]) (rest := []) hx hb hml hown hts (c_X8_wants l D ids st z hc9) yk_X8_wants ys_X8_wants wm_3_206 ⟨(Nat.le_of_ble_eq_true rfl), (Nat.le_of_ble_eq_true rfl)⟩ (mr_recv (ci := 6) hR hE hz hS hA rfl ho9) hl.1 rfl (Nat.le_of_ble_eq_true rfl) dX8_readsTap_41 ⟨(Nat.le_of_ble_eq_true rfl), (Nat.le_of_ble_eq_true rfl)⟩) hR hz hS hA (fun H locs hR hz hS => ?_)
  refine lv_aload_n hx hb dX8_readsTap_44 rfl (lv_at hl 1 rfl) ?_
  obtain ⟨x45, hc9, hrun⟩ := m_bind hrun
  refine mr_get (C := RX8) (T := TX8) (N := 13) (ci := 6) hx hb hts (fun w q => m_ws_in (wi_X8 w q)) hown hR rfl 10 (by decide) (hts _ (m_ws_in wm_3_43)) (fun _ h9 => h9) (m_gr_spec hc9) dX8_readsTap_45 ?_
  refine lv_iload_n hx hb dX8_readsTap_48 rfl (lv_at hl 0 rfl) ?_
  refine lv_iconst (v := 2) hx hb dX8_readsTap_49 (by decide) ?_
  refine lv_iadd hx hb dX8_readsTap_50 ?_
  refine lv_aload_n hx hb dX8_readsTap_51 rfl (lv_at hl 1 rfl) ?_
  refine lv_sipush (v := 1439) hx hb dX8_readsTap_52 (by decide) ?_
  obtain ⟨_, ho9, hrun⟩ := m_bind hrun
  obtain ⟨fs9, ho9⟩ := m_is_spec ho9
  obtain ⟨⟨x55, h55⟩, hc9, hrun⟩ := m_bind hrun
  refine mr_calli (mr_runV (As := [.int 1439]) (rest := [.int ((5 * x2) + 2), .ref x45]) hx hb hml hown hts (c_X8_number l D ids st z hc9) yk_X8_number ys_X8_number wm_3_198 ⟨(Nat.le_of_ble_eq_true rfl), (Nat.le_of_ble_eq_true rfl)⟩ (mr_recv (ci := 6) hR hE hz hS hA rfl ho9) hl.1 rfl (Nat.le_of_ble_eq_true rfl) dX8_readsTap_55 ⟨(Nat.le_of_ble_eq_true rfl), (Nat.le_of_ble_eq_true rfl)⟩) hR hz hS hA (fun H locs hR hz hS => ?_)
  obtain ⟨h58, hc9, hrun⟩ := m_bind hrun
  refine mr_iast hx hb hR hz hS hc9 dX8_readsTap_58 (fun H locs hR hz hS => ?_)
  refine lv_aload_n hx hb dX8_readsTap_59 rfl (lv_at hl 1 rfl) ?_
  obtain ⟨_, ho9, hrun⟩ := m_bind hrun
  obtain ⟨fs9, ho9⟩ := m_is_spec ho9
  obtain ⟨x60, hc9, hrun⟩ := m_bind hrun
  refine mr_calli (mr_runV (As := []) (rest := []) hx hb hml hown hts (c_X8_sign l D ids st z hc9) yk_X8_sign ys_X8_sign wm_3_202 ⟨(Nat.le_of_ble_eq_true rfl), (Nat.le_of_ble_eq_true rfl)⟩ (mr_recv (ci := 6) hR hE hz hS hA rfl ho9) hl.1 rfl (Nat.le_of_ble_eq_true rfl) dX8_readsTap_60 ⟨(Nat.le_of_ble_eq_true rfl), (Nat.le_of_ble_eq_true rfl)⟩) hR hz hS hA (fun H locs hR hz hS => ?_)
  refine lv_istore_n (lv' := [(2, .int x60), (1, .int (5 * x2)), (0, .ref v0)]) hx hb dX8_readsTap_63 rfl hl (by decide) rfl (fun ls hl => ?_)
  refine lv_aload_n hx hb dX8_readsTap_64 rfl (lv_at hl 2 rfl) ?_
  refine lv_aload_n hx hb dX8_readsTap_65 rfl (lv_at hl 2 rfl) ?_
  obtain ⟨x66, hc9, hrun⟩ := m_bind hrun
  refine mr_get (C := RX8) (T := TX8) (N := 13) (ci := 6) hx hb hts (fun w q => m_ws_in (wi_X8 w q)) hown hR rfl 9 (by decide) (hts _ (m_ws_in wm_3_42)) (fun _ h9 => h9) (m_gi_spec hc9) dX8_readsTap_66 ?_
  refine lv_if_eq (tgt := 88) hx hb dX8_readsTap_69 (by decide) (fun hc => ?_) (fun hc => ?_)
  · have hrun := mt_t hrun hc
    exact k_X8_readsTap_b88 hx hb hr hml hown hts hlocks hin hE hA _ _ _ _ _ _ _ _ hrun hR hz hS (lv_sub hl [2, 1, 0] rfl)
  · have hrun := mt_f hrun hc
    refine lv_iload_n hx hb dX8_readsTap_72 rfl (lv_at hl 0 rfl) ?_
    refine lv_bipush (v := 43) hx hb dX8_readsTap_73 (by decide) ?_
    refine lv_icmp_eq (tgt := 84) hx hb dX8_readsTap_75 (by decide) (fun hc => ?_) (fun hc => ?_)
    · have hrun := mt_t hrun hc
      exact k_X8_readsTap_b84 hx hb hr hml hown hts hlocks hin hE hA _ _ _ _ _ _ _ _ hrun hR hz hS (lv_sub hl [2, 1, 0] rfl)
    · have hrun := mt_f hrun hc
      refine lv_iload_n hx hb dX8_readsTap_78 rfl (lv_at hl 0 rfl) ?_
      refine lv_bipush (v := 45) hx hb dX8_readsTap_79 (by decide) ?_
      refine lv_icmp_ne (tgt := 88) hx hb dX8_readsTap_81 (by decide) (fun hc => ?_) (fun hc => ?_)
      · have hrun := mt_f hrun hc
        exact k_X8_readsTap_b88 hx hb hr hml hown hts hlocks hin hE hA _ _ _ _ _ _ _ _ hrun hR hz hS (lv_sub hl [2, 1, 0] rfl)
      · have hrun := mt_t hrun hc
        exact k_X8_readsTap_b84 hx hb hr hml hown hts hlocks hin hE hA _ _ _ _ _ _ _ _ hrun hR hz hS (lv_sub hl [2, 1, 0] rfl)
/-! X8_readsAll -/
abbrev rm_X8_readsAll : Room := { frames := 3, cells := 0, slots := 0, locals := 66 }
theorem yk_X8_readsAll : m_K yX8_readsAll cX8_readsAll 1 (none) 0 := ⟨wm_3_193, wm_0_10, by decide +kernel⟩
theorem ys_X8_readsAll : Cond.instanceMethod yX8_readsAll ∈ wT ∧ Cond.selects RX8 yX8_readsAll yX8_readsAll ∈ wT := ⟨wm_3_192, wp_2_9⟩
set_option maxRecDepth 100000 in
set_option maxHeartbeats 4000000 in
theorem k_X8_readsAll_b57 {p : Program} {l : Launch} {e : Env} {s : State} {m : MethodId} {args : Array Value} {below : List Frame} {meth : Method} {c : Code} {D : va_G} {ids : m_I3} {st : m_T} {A : Nat → Prop} {z : Nat} {hF : mH} (hx : p.tables.exec = Jvm.exec) (hb : c.code = cX8_readsAll) (hr : meth.sig.returnType = none) (hml : c.maxLocals = 1) (hown : s.vm.findClass RX8 = some m.cls) (hts : ∀ w ∈ (m_ws yX8_readsAll cX8_readsAll 1 (none)), w.before args s = true) (hlocks : meth.locks = false) (hin : meth.name = yX8_readsAll.name) (hE : m_EV st A s s.heap) (hA : ∀ q, s.heap.size ≤ q → A q) (h : mH) (H : Heap) (locs : List Loc) (ls : Array Slot) (hrun : s_X8_readsAll_b57 h = some hF) (hR : Rl D ids A h s H) (hz : H.size = z) (hS : va_S A s.heap H locs) (hl : lv_has ls 1 []) : W p l e rm_X8_readsAll s m args below meth c H locs 0 0 (MQ below (mQv D ids A hF z) args s 0 0 A) (F0 m 57 ls []) := by
  unfold s_X8_readsAll_b57 at hrun
  obtain rfl := Option.some.inj hrun
  exact mr_vret hx hb hr hlocks hR hz hS dX8_readsAll_57
set_option maxRecDepth 100000 in
set_option maxHeartbeats 4000000 in
theorem k_X8_readsAll_L19 {p : Program} {l : Launch} {e : Env} {s : State} {m : MethodId} {args : Array Value} {below : List Frame} {meth : Method} {c : Code} {D : va_G} {ids : m_I3} {st : m_T} {A : Nat → Prop} {z : Nat} {hF : mH} (hx : p.tables.exec = Jvm.exec) (hb : c.code = cX8_readsAll) (hr : meth.sig.returnType = none) (hml : c.maxLocals = 1) (hown : s.vm.findClass RX8 = some m.cls) (hts : ∀ w ∈ (m_ws yX8_readsAll cX8_readsAll 1 (none)), w.before args s = true) (hlocks : meth.locks = false) (hin : meth.name = yX8_readsAll.name) (hE : m_EV st A s s.heap) (hA : ∀ q, s.heap.size ≤ q → A q) : ∀ (n : Nat) (h : mH) (v0 : Nat) (H : Heap) (locs : List Loc) (ls : Array Slot), s_X8_readsAll_L19 n h v0 = some hF → Rl D ids A h s H → H.size = z → va_S A s.heap H locs → lv_has ls 1 [(0, .ref v0)] → W p l e rm_X8_readsAll s m args below meth c H locs 0 0 (MQ below (mQv D ids A hF z) args s 0 0 A) (F0 m 19 ls []) := by
  intro n
  induction n with
  | zero => intro h v0 H locs ls hrun; exact absurd hrun (by intro h9; cases h9)
  | succ n ih =>
    intro h v0 H locs ls hrun hR hz hS hl
    rw [s_X8_readsAll_L19] at hrun
    refine lv_aload_n hx hb dX8_readsAll_19 rfl (lv_at hl 0 rfl) ?_
    obtain ⟨x20, hc9, hrun⟩ := m_bind hrun
    refine mr_get (C := RX8) (T := TX8) (N := 13) (ci := 6) hx hb hts (fun w q => m_ws_in (wi_X8 w q)) hown hR rfl 9 (by decide) (hts _ (m_ws_in wm_3_42)) (fun _ h9 => h9) (m_gi_spec hc9) dX8_readsAll_20 ?_
    refine lv_if_eq (tgt := 57) hx hb dX8_readsAll_23 (by decide) (fun hc => ?_) (fun hc => ?_)
    · have hrun := mt_t hrun hc
      exact k_X8_readsAll_b57 hx hb hr hml hown hts hlocks hin hE hA _ _ _ _ hrun hR hz hS (lv_sub hl [] rfl)
    · have hrun := mt_f hrun hc
      refine lv_aload_n hx hb dX8_readsAll_26 rfl (lv_at hl 0 rfl) ?_
      obtain ⟨x27, hc9, hrun⟩ := m_bind hrun
      refine mr_get (C := RX8) (T := TX8) (N := 13) (ci := 6) hx hb hts (fun w q => m_ws_in (wi_X8 w q)) hown hR rfl 8 (by decide) (hts _ (m_ws_in wm_3_41)) (fun _ h9 => h9) (m_gi_spec hc9) dX8_readsAll_27 ?_
      refine lv_aload_n hx hb dX8_readsAll_30 rfl (lv_at hl 0 rfl) ?_
      obtain ⟨x31, hc9, hrun⟩ := m_bind hrun
      refine mr_get (C := RX8) (T := TX8) (N := 13) (ci := 6) hx hb hts (fun w q => m_ws_in (wi_X8 w q)) hown hR rfl 6 (by decide) (hts _ (m_ws_in wm_3_39)) (fun _ h9 => h9) (m_gi_spec hc9) dX8_readsAll_31 ?_
      refine lv_icmp_ge (tgt := 57) hx hb dX8_readsAll_34 (by decide) (fun hc => ?_) (fun hc => ?_)
      · have hrun := mt_t hrun hc
        exact k_X8_readsAll_b57 hx hb hr hml hown hts hlocks hin hE hA _ _ _ _ hrun hR hz hS (lv_sub hl [] rfl)
      · have hrun := mt_f hrun hc
        refine lv_aload_n hx hb dX8_readsAll_37 rfl (lv_at hl 0 rfl) ?_
        refine lv_bipush (v := 59) hx hb dX8_readsAll_38 (by decide) ?_
        obtain ⟨_, ho9, hrun⟩ := m_bind hrun
        obtain ⟨fs9, ho9⟩ := m_is_spec ho9
        obtain ⟨h40, hc9, hrun⟩ := m_bind hrun
        refine mr_callv (mr_runV (As := [.int 59]) (rest := []) hx hb hml hown hts (c_X8_wants l D ids st z hc9) yk_X8_wants ys_X8_wants wm_3_206 ⟨(Nat.le_of_ble_eq_true rfl), (Nat.le_of_ble_eq_true rfl)⟩ (mr_recv (ci := 6) hR hE hz hS hA rfl ho9) hl.1 rfl (Nat.le_of_ble_eq_true rfl) dX8_readsAll_40 ⟨(Nat.le_of_ble_eq_true rfl), (Nat.le_of_ble_eq_true rfl)⟩) hR hz hS hA (fun H locs hR hz hS => ?_)
        refine lv_aload_n hx hb dX8_readsAll_43 rfl (lv_at hl 0 rfl) ?_
        obtain ⟨x44, hc9, hrun⟩ := m_bind hrun
        refine mr_get (C := RX8) (T := TX8) (N := 13) (ci := 6) hx hb hts (fun w q => m_ws_in (wi_X8 w q)) hown hR rfl 9 (by decide) (hts _ (m_ws_in wm_3_42)) (fun _ h9 => h9) (m_gi_spec hc9) dX8_readsAll_44 ?_
        refine lv_if_eq (tgt := 19) hx hb dX8_readsAll_47 (by decide) (fun hc => ?_) (fun hc => ?_)
        · have hrun := mt_t hrun hc
          exact ih _ _ _ _ _ hrun hR hz hS (lv_sub hl [0] rfl)
        · have hrun := mt_f hrun hc
          refine lv_aload_n hx hb dX8_readsAll_50 rfl (lv_at hl 0 rfl) ?_
          obtain ⟨_, ho9, hrun⟩ := m_bind hrun
          obtain ⟨fs9, ho9⟩ := m_is_spec ho9
          obtain ⟨h51, hc9, hrun⟩ := m_bind hrun
          refine mr_callv (mr_runV (As := []) (rest := []) hx hb hml hown hts (c_X8_readsTap l D ids st z hc9) yk_X8_readsTap ys_X8_readsTap wm_3_194 ⟨(Nat.le_of_ble_eq_true rfl), (Nat.le_of_ble_eq_true rfl)⟩ (mr_recv (ci := 6) hR hE hz hS hA rfl ho9) hl.1 rfl (Nat.le_of_ble_eq_true rfl) dX8_readsAll_51 ⟨(Nat.le_of_ble_eq_true rfl), (Nat.le_of_ble_eq_true rfl)⟩) hR hz hS hA (fun H locs hR hz hS => ?_)
          refine lv_goto (tgt := 19) hx hb dX8_readsAll_54 (by decide) ?_
          exact ih _ _ _ _ _ hrun hR hz hS (lv_sub hl [0] rfl)
set_option maxRecDepth 100000 in
set_option maxHeartbeats 4000000 in
theorem c_X8_readsAll (l : Launch) (D : va_G) (ids : m_I3) (st : m_T) (z : Nat) {h : mH} {v0 : Nat} {hF : mH} (hrun : s_X8_readsAll h v0 = some hF) : Met l yX8_readsAll (m_ws yX8_readsAll cX8_readsAll 1 (none)) rm_X8_readsAll (mPc D ids st [.ref v0] h z) (mQv D ids (m_A h z) hF z) rm_X8_readsAll.cells rm_X8_readsAll.slots (m_A h z) := by
  refine mr_of (cc := cX8_readsAll) (maxL := 1) (ret := none) (by decide) rfl (Nat.le_of_ble_eq_true rfl) ?_
  intro p e s m below meth c ls hx hb hr hml hown hts hlocks hin hR hE hz hl
  have hA : ∀ q, s.heap.size ≤ q → m_A h z q := fun q hq => Or.inr (by rw [← hz]; exact hq)
  have hS : va_S (m_A h z) s.heap s.heap [] := va_S.rf
  have hl : lv_has ls 1 [(0, .ref v0)] := hl
  unfold s_X8_readsAll at hrun
  refine lv_aload_n hx hb dX8_readsAll_0 rfl (lv_at hl 0 rfl) ?_
  refine lv_iconst (v := 0) hx hb dX8_readsAll_1 (by decide) ?_
  obtain ⟨h2, hc9, hrun⟩ := m_bind hrun
  refine mr_put (C := RX8) (T := TX8) (N := 13) (ci := 6) hx hb hts (fun w q => m_ws_in (wi_X8 w q)) tyX8 tyX8_ok nmX8 hown hR hz hS rfl 8 (by decide) (hts _ (m_ws_in wm_3_41)) (fun _ h9 => h9) rfl (tyX8_ok 8 (by decide)) rfl rfl hc9 dX8_readsAll_2 (fun H locs hR hz hS => ?_)
  refine lv_aload_n hx hb dX8_readsAll_5 rfl (lv_at hl 0 rfl) ?_
  refine lv_iconst (v := 1) hx hb dX8_readsAll_6 (by decide) ?_
  obtain ⟨_, hz9, hrun⟩ := m_bind hrun
  obtain ⟨h7, hc9, hrun⟩ := m_bind hrun
  refine mr_put (C := RX8) (T := TX8) (N := 13) (ci := 6) hx hb hts (fun w q => m_ws_in (wi_X8 w q)) tyX8 tyX8_ok nmX8 hown hR hz hS rfl 9 (by decide) (hts _ (m_ws_in wm_3_42)) (fun _ h9 => h9) rfl (tyX8_ok 9 (by decide)) (m_z_spec hz9).2 (m_z_fit hz9) hc9 dX8_readsAll_7 (fun H locs hR hz hS => ?_)
  refine lv_aload_n hx hb dX8_readsAll_10 rfl (lv_at hl 0 rfl) ?_
  refine lv_iconst (v := 0) hx hb dX8_readsAll_11 (by decide) ?_
  obtain ⟨h12, hc9, hrun⟩ := m_bind hrun
  refine mr_put (C := RX8) (T := TX8) (N := 13) (ci := 6) hx hb hts (fun w q => m_ws_in (wi_X8 w q)) tyX8 tyX8_ok nmX8 hown hR hz hS rfl 11 (by decide) (hts _ (m_ws_in wm_3_44)) (fun _ h9 => h9) rfl (tyX8_ok 11 (by decide)) rfl rfl hc9 dX8_readsAll_12 (fun H locs hR hz hS => ?_)
  refine lv_aload_n hx hb dX8_readsAll_15 rfl (lv_at hl 0 rfl) ?_
  obtain ⟨_, ho9, hrun⟩ := m_bind hrun
  obtain ⟨fs9, ho9⟩ := m_is_spec ho9
  obtain ⟨h16, hc9, hrun⟩ := m_bind hrun
  refine mr_callv (mr_runV (As := []) (rest := []) hx hb hml hown hts (c_X8_readsTap l D ids st z hc9) yk_X8_readsTap ys_X8_readsTap wm_3_194 ⟨(Nat.le_of_ble_eq_true rfl), (Nat.le_of_ble_eq_true rfl)⟩ (mr_recv (ci := 6) hR hE hz hS hA rfl ho9) hl.1 rfl (Nat.le_of_ble_eq_true rfl) dX8_readsAll_16 ⟨(Nat.le_of_ble_eq_true rfl), (Nat.le_of_ble_eq_true rfl)⟩) hR hz hS hA (fun H locs hR hz hS => ?_)
  exact k_X8_readsAll_L19 hx hb hr hml hown hts hlocks hin hE hA _ _ _ _ _ _ hrun hR hz hS (lv_sub hl [0] rfl)
/-! X8_firstError -/
abbrev rm_X8_firstError : Room := { frames := 4, cells := 0, slots := 0, locals := 86 }
theorem yk_X8_firstError : m_K yX8_firstError cX8_firstError 1 (some .int) 0 := ⟨wm_3_189, wm_0_10, by decide +kernel⟩
theorem ys_X8_firstError : Cond.instanceMethod yX8_firstError ∈ wT ∧ Cond.selects RX8 yX8_firstError yX8_firstError ∈ wT := ⟨wm_3_187, wm_3_188⟩
set_option maxRecDepth 100000 in
set_option maxHeartbeats 4000000 in
theorem c_X8_firstError (l : Launch) (D : va_G) (ids : m_I3) (st : m_T) (z : Nat) {h : mH} {v0 : Nat} {r : Int32} {hF : mH} (hrun : s_X8_firstError h v0 = some (r, hF)) : Met l yX8_firstError (m_ws yX8_firstError cX8_firstError 1 (some .int)) rm_X8_firstError (mPc D ids st [.ref v0] h z) (mQi D ids (m_A h z) r hF z) rm_X8_firstError.cells rm_X8_firstError.slots (m_A h z) := by
  refine mr_of (cc := cX8_firstError) (maxL := 1) (ret := some .int) (by decide) rfl (Nat.le_of_ble_eq_true rfl) ?_
  intro p e s m below meth c ls hx hb hr hml hown hts hlocks hin hR hE hz hl
  have hA : ∀ q, s.heap.size ≤ q → m_A h z q := fun q hq => Or.inr (by rw [← hz]; exact hq)
  have hS : va_S (m_A h z) s.heap s.heap [] := va_S.rf
  have hl : lv_has ls 1 [(0, .ref v0)] := hl
  unfold s_X8_firstError at hrun
  refine lv_aload_n hx hb dX8_firstError_0 rfl (lv_at hl 0 rfl) ?_
  refine lv_iconst (v := 0) hx hb dX8_firstError_1 (by decide) ?_
  obtain ⟨h2, hc9, hrun⟩ := m_bind hrun
  refine mr_put (C := RX8) (T := TX8) (N := 13) (ci := 6) hx hb hts (fun w q => m_ws_in (wi_X8 w q)) tyX8 tyX8_ok nmX8 hown hR hz hS rfl 0 (by decide) (hts _ (m_ws_in wm_3_33)) (fun _ h9 => h9) rfl (tyX8_ok 0 (by decide)) rfl rfl hc9 dX8_firstError_2 (fun H locs hR hz hS => ?_)
  refine lv_aload_n hx hb dX8_firstError_5 rfl (lv_at hl 0 rfl) ?_
  obtain ⟨_, ho9, hrun⟩ := m_bind hrun
  obtain ⟨fs9, ho9⟩ := m_is_spec ho9
  obtain ⟨h6, hc9, hrun⟩ := m_bind hrun
  refine mr_callv (mr_runV (As := []) (rest := []) hx hb hml hown hts (c_X8_readsAll l D ids st z hc9) yk_X8_readsAll ys_X8_readsAll wm_3_190 ⟨(Nat.le_of_ble_eq_true rfl), (Nat.le_of_ble_eq_true rfl)⟩ (mr_recv (ci := 6) hR hE hz hS hA rfl ho9) hl.1 rfl (Nat.le_of_ble_eq_true rfl) dX8_firstError_6 ⟨(Nat.le_of_ble_eq_true rfl), (Nat.le_of_ble_eq_true rfl)⟩) hR hz hS hA (fun H locs hR hz hS => ?_)
  refine lv_aload_n hx hb dX8_firstError_9 rfl (lv_at hl 0 rfl) ?_
  obtain ⟨x10, hc9, hrun⟩ := m_bind hrun
  refine mr_get (C := RX8) (T := TX8) (N := 13) (ci := 6) hx hb hts (fun w q => m_ws_in (wi_X8 w q)) hown hR rfl 8 (by decide) (hts _ (m_ws_in wm_3_41)) (fun _ h9 => h9) (m_gi_spec hc9) dX8_firstError_10 ?_
  obtain ⟨rfl, rfl⟩ := Prod.mk.inj (Option.some.inj hrun)
  exact mr_iret hx hb hr hlocks hR hz hS dX8_firstError_13
/-! X8_load -/
abbrev rm_X8_load : Room := { frames := 4, cells := 0, slots := 0, locals := 86 }
theorem yk_X8_load : m_K yX8_load cX8_load 2 (some .int) 0 := ⟨wm_3_213, wm_0_10, by decide +kernel⟩
theorem ys_X8_load : Cond.instanceMethod yX8_load ∈ wT ∧ Cond.selects RX8 yX8_load yX8_load ∈ wT := ⟨wm_3_211, wm_3_212⟩
set_option maxRecDepth 100000 in
set_option maxHeartbeats 4000000 in
theorem k_X8_load_b113 {p : Program} {l : Launch} {e : Env} {s : State} {m : MethodId} {args : Array Value} {below : List Frame} {meth : Method} {c : Code} {D : va_G} {ids : m_I3} {st : m_T} {A : Nat → Prop} {z : Nat} {r : Int32} {hF : mH} (hx : p.tables.exec = Jvm.exec) (hb : c.code = cX8_load) (hr : meth.sig.returnType = some .int) (hml : c.maxLocals = 2) (hown : s.vm.findClass RX8 = some m.cls) (hts : ∀ w ∈ (m_ws yX8_load cX8_load 2 (some .int)), w.before args s = true) (hlocks : meth.locks = false) (hin : meth.name = yX8_load.name) (hE : m_EV st A s s.heap) (hA : ∀ q, s.heap.size ≤ q → A q) (h : mH) (v1 : Int32) (H : Heap) (locs : List Loc) (ls : Array Slot) (hrun : s_X8_load_b113 h v1 = some (r, hF)) (hR : Rl D ids A h s H) (hz : H.size = z) (hS : va_S A s.heap H locs) (hl : lv_has ls 2 [(1, .int v1)]) : W p l e rm_X8_load s m args below meth c H locs 0 0 (MQ below (mQi D ids A r hF z) args s 0 0 A) (F0 m 113 ls []) := by
  unfold s_X8_load_b113 at hrun
  refine lv_iload_n hx hb dX8_load_113 rfl (lv_at hl 0 rfl) ?_
  obtain ⟨rfl, rfl⟩ := Prod.mk.inj (Option.some.inj hrun)
  exact mr_iret hx hb hr hlocks hR hz hS dX8_load_114
set_option maxRecDepth 100000 in
set_option maxHeartbeats 4000000 in
theorem k_X8_load_L33 {p : Program} {l : Launch} {e : Env} {s : State} {m : MethodId} {args : Array Value} {below : List Frame} {meth : Method} {c : Code} {D : va_G} {ids : m_I3} {st : m_T} {A : Nat → Prop} {z : Nat} {r : Int32} {hF : mH} (hx : p.tables.exec = Jvm.exec) (hb : c.code = cX8_load) (hr : meth.sig.returnType = some .int) (hml : c.maxLocals = 2) (hown : s.vm.findClass RX8 = some m.cls) (hts : ∀ w ∈ (m_ws yX8_load cX8_load 2 (some .int)), w.before args s = true) (hlocks : meth.locks = false) (hin : meth.name = yX8_load.name) (hE : m_EV st A s s.heap) (hA : ∀ q, s.heap.size ≤ q → A q) : ∀ (n : Nat) (h : mH) (v0 : Nat) (v1 : Int32) (H : Heap) (locs : List Loc) (ls : Array Slot), s_X8_load_L33 n h v0 v1 = some (r, hF) → Rl D ids A h s H → H.size = z → va_S A s.heap H locs → lv_has ls 2 [(0, .ref v0), (1, .int v1)] → W p l e rm_X8_load s m args below meth c H locs 0 0 (MQ below (mQi D ids A r hF z) args s 0 0 A) (F0 m 33 ls []) := by
  intro n
  induction n with
  | zero => intro h v0 v1 H locs ls hrun; exact absurd hrun (by intro h9; cases h9)
  | succ n ih =>
    intro h v0 v1 H locs ls hrun hR hz hS hl
    rw [s_X8_load_L33] at hrun
    refine lv_iload_n hx hb dX8_load_33 rfl (lv_at hl 1 rfl) ?_
    refine lv_aload_n hx hb dX8_load_34 rfl (lv_at hl 0 rfl) ?_
    obtain ⟨x35, hc9, hrun⟩ := m_bind hrun
    refine mr_get (C := RX8) (T := TX8) (N := 13) (ci := 6) hx hb hts (fun w q => m_ws_in (wi_X8 w q)) hown hR rfl 11 (by decide) (hts _ (m_ws_in wm_3_44)) (fun _ h9 => h9) (m_gi_spec hc9) dX8_load_35 ?_
    refine lv_icmp_ge (tgt := 113) hx hb dX8_load_38 (by decide) (fun hc => ?_) (fun hc => ?_)
    · have hrun := mt_t hrun hc
      exact k_X8_load_b113 hx hb hr hml hown hts hlocks hin hE hA _ _ _ _ _ hrun hR hz hS (lv_sub hl [1] rfl)
    · have hrun := mt_f hrun hc
      refine lv_aload_n hx hb dX8_load_41 rfl (lv_at hl 0 rfl) ?_
      obtain ⟨x42, hc9, hrun⟩ := m_bind hrun
      refine mr_get (C := RX8) (T := TX8) (N := 13) (ci := 6) hx hb hts (fun w q => m_ws_in (wi_X8 w q)) hown hR rfl 1 (by decide) (hts _ (m_ws_in wm_3_34)) (fun _ h9 => h9) (m_gr_spec hc9) dX8_load_42 ?_
      refine lv_bipush (v := 9) hx hb dX8_load_45 (by decide) ?_
      obtain ⟨x47, hc9, hrun⟩ := m_bind hrun
      refine mr_iald hx hb hR hc9 dX8_load_47 ?_
      refine lv_bipush (v := 60) hx hb dX8_load_48 (by decide) ?_
      refine lv_icmp_ge (tgt := 113) hx hb dX8_load_50 (by decide) (fun hc => ?_) (fun hc => ?_)
      · have hrun := mt_t hrun hc
        exact k_X8_load_b113 hx hb hr hml hown hts hlocks hin hE hA _ _ _ _ _ hrun hR hz hS (lv_sub hl [1] rfl)
      · have hrun := mt_f hrun hc
        refine lv_aload_n hx hb dX8_load_53 rfl (lv_at hl 0 rfl) ?_
        refine lv_aload_n hx hb dX8_load_54 rfl (lv_at hl 0 rfl) ?_
        obtain ⟨x55, hc9, hrun⟩ := m_bind hrun
        refine mr_get (C := RX8) (T := TX8) (N := 13) (ci := 6) hx hb hts (fun w q => m_ws_in (wi_X8 w q)) hown hR rfl 10 (by decide) (hts _ (m_ws_in wm_3_43)) (fun _ h9 => h9) (m_gr_spec hc9) dX8_load_55 ?_
        refine lv_iconst (v := 5) hx hb dX8_load_58 (by decide) ?_
        refine lv_iload_n hx hb dX8_load_59 rfl (lv_at hl 1 rfl) ?_
        refine lv_imul hx hb dX8_load_60 ?_
        obtain ⟨x61, hc9, hrun⟩ := m_bind hrun
        refine mr_iald hx hb hR hc9 dX8_load_61 ?_
        refine lv_aload_n hx hb dX8_load_62 rfl (lv_at hl 0 rfl) ?_
        obtain ⟨x63, hc9, hrun⟩ := m_bind hrun
        refine mr_get (C := RX8) (T := TX8) (N := 13) (ci := 6) hx hb hts (fun w q => m_ws_in (wi_X8 w q)) hown hR rfl 10 (by decide) (hts _ (m_ws_in wm_3_43)) (fun _ h9 => h9) (m_gr_spec hc9) dX8_load_63 ?_
        refine lv_iconst (v := 5) hx hb dX8_load_66 (by decide) ?_
        refine lv_iload_n hx hb dX8_load_67 rfl (lv_at hl 1 rfl) ?_
        refine lv_imul hx hb dX8_load_68 ?_
        refine lv_iconst (v := 1) hx hb dX8_load_69 (by decide) ?_
        refine lv_iadd hx hb dX8_load_70 ?_
        obtain ⟨x71, hc9, hrun⟩ := m_bind hrun
        refine mr_iald hx hb hR hc9 dX8_load_71 ?_
        refine lv_aload_n hx hb dX8_load_72 rfl (lv_at hl 0 rfl) ?_
        obtain ⟨x73, hc9, hrun⟩ := m_bind hrun
        refine mr_get (C := RX8) (T := TX8) (N := 13) (ci := 6) hx hb hts (fun w q => m_ws_in (wi_X8 w q)) hown hR rfl 10 (by decide) (hts _ (m_ws_in wm_3_43)) (fun _ h9 => h9) (m_gr_spec hc9) dX8_load_73 ?_
        refine lv_iconst (v := 5) hx hb dX8_load_76 (by decide) ?_
        refine lv_iload_n hx hb dX8_load_77 rfl (lv_at hl 1 rfl) ?_
        refine lv_imul hx hb dX8_load_78 ?_
        refine lv_iconst (v := 2) hx hb dX8_load_79 (by decide) ?_
        refine lv_iadd hx hb dX8_load_80 ?_
        obtain ⟨x81, hc9, hrun⟩ := m_bind hrun
        refine mr_iald hx hb hR hc9 dX8_load_81 ?_
        refine lv_aload_n hx hb dX8_load_82 rfl (lv_at hl 0 rfl) ?_
        obtain ⟨x83, hc9, hrun⟩ := m_bind hrun
        refine mr_get (C := RX8) (T := TX8) (N := 13) (ci := 6) hx hb hts (fun w q => m_ws_in (wi_X8 w q)) hown hR rfl 10 (by decide) (hts _ (m_ws_in wm_3_43)) (fun _ h9 => h9) (m_gr_spec hc9) dX8_load_83 ?_
        refine lv_iconst (v := 5) hx hb dX8_load_86 (by decide) ?_
        refine lv_iload_n hx hb dX8_load_87 rfl (lv_at hl 1 rfl) ?_
        refine lv_imul hx hb dX8_load_88 ?_
        refine lv_iconst (v := 3) hx hb dX8_load_89 (by decide) ?_
        refine lv_iadd hx hb dX8_load_90 ?_
        obtain ⟨x91, hc9, hrun⟩ := m_bind hrun
        refine mr_iald hx hb hR hc9 dX8_load_91 ?_
        refine lv_aload_n hx hb dX8_load_92 rfl (lv_at hl 0 rfl) ?_
        obtain ⟨x93, hc9, hrun⟩ := m_bind hrun
        refine mr_get (C := RX8) (T := TX8) (N := 13) (ci := 6) hx hb hts (fun w q => m_ws_in (wi_X8 w q)) hown hR rfl 10 (by decide) (hts _ (m_ws_in wm_3_43)) (fun _ h9 => h9) (m_gr_spec hc9) dX8_load_93 ?_
        refine lv_iconst (v := 5) hx hb dX8_load_96 (by decide) ?_
        refine lv_iload_n hx hb dX8_load_97 rfl (lv_at hl 1 rfl) ?_
        refine lv_imul hx hb dX8_load_98 ?_
        refine lv_iconst (v := 4) hx hb dX8_load_99 (by decide) ?_
        refine lv_iadd hx hb dX8_load_100 ?_
        obtain ⟨x101, hc9, hrun⟩ := m_bind hrun
        refine mr_iald hx hb hR hc9 dX8_load_101 ?_
        refine lv_iconst (v := 0) hx hb dX8_load_102 (by decide) ?_
        obtain ⟨_, ho9, hrun⟩ := m_bind hrun
        obtain ⟨fs9, ho9⟩ := m_is_spec ho9
        obtain ⟨⟨x103, h103⟩, hc9, hrun⟩ := m_bind hrun
        refine mr_calli (mr_runV (As := [.int x61, .int x71, .int x81, .int x91, .int x101, .int 0]) (rest := []) hx hb hml hown hts (c_X8_comes l D ids st z hc9) yk_X8_comes ys_X8_comes wm_3_98 ⟨(Nat.le_of_ble_eq_true rfl), (Nat.le_of_ble_eq_true rfl)⟩ (mr_recv (ci := 6) hR hE hz hS hA rfl ho9) hl.1 rfl (Nat.le_of_ble_eq_true rfl) dX8_load_103 ⟨(Nat.le_of_ble_eq_true rfl), (Nat.le_of_ble_eq_true rfl)⟩) hR hz hS hA (fun H locs hR hz hS => ?_)
        refine lv_pop hx hb dX8_load_106 rfl ?_
        refine lv_iinc (v := v1 + 1) (lv' := [(1, .int (v1 + 1)), (0, .ref v0)]) hx hb dX8_load_107 hl (k := 1) rfl rfl (by decide) rfl (fun ls hl => ?_)
        refine lv_goto (tgt := 33) hx hb dX8_load_110 (by decide) ?_
        exact ih _ _ _ _ _ _ hrun hR hz hS (lv_sub hl [1, 0] rfl)
set_option maxRecDepth 100000 in
set_option maxHeartbeats 4000000 in
theorem c_X8_load (l : Launch) (D : va_G) (ids : m_I3) (st : m_T) (z : Nat) {h : mH} {v0 : Nat} {r : Int32} {hF : mH} (hrun : s_X8_load h v0 = some (r, hF)) : Met l yX8_load (m_ws yX8_load cX8_load 2 (some .int)) rm_X8_load (mPc D ids st [.ref v0] h z) (mQi D ids (m_A h z) r hF z) rm_X8_load.cells rm_X8_load.slots (m_A h z) := by
  refine mr_of (cc := cX8_load) (maxL := 2) (ret := some .int) (by decide) rfl (Nat.le_of_ble_eq_true rfl) ?_
  intro p e s m below meth c ls hx hb hr hml hown hts hlocks hin hR hE hz hl
  have hA : ∀ q, s.heap.size ≤ q → m_A h z q := fun q hq => Or.inr (by rw [← hz]; exact hq)
  have hS : va_S (m_A h z) s.heap s.heap [] := va_S.rf
  have hl : lv_has ls 2 [(0, .ref v0)] := hl
  unfold s_X8_load at hrun
  refine lv_aload_n hx hb dX8_load_0 rfl (lv_at hl 0 rfl) ?_
  refine lv_iconst (v := 0) hx hb dX8_load_1 (by decide) ?_
  obtain ⟨h2, hc9, hrun⟩ := m_bind hrun
  refine mr_put (C := RX8) (T := TX8) (N := 13) (ci := 6) hx hb hts (fun w q => m_ws_in (wi_X8 w q)) tyX8 tyX8_ok nmX8 hown hR hz hS rfl 0 (by decide) (hts _ (m_ws_in wm_3_33)) (fun _ h9 => h9) rfl (tyX8_ok 0 (by decide)) rfl rfl hc9 dX8_load_2 (fun H locs hR hz hS => ?_)
  refine lv_aload_n hx hb dX8_load_5 rfl (lv_at hl 0 rfl) ?_
  obtain ⟨_, ho9, hrun⟩ := m_bind hrun
  obtain ⟨fs9, ho9⟩ := m_is_spec ho9
  obtain ⟨h6, hc9, hrun⟩ := m_bind hrun
  refine mr_callv (mr_runV (As := []) (rest := []) hx hb hml hown hts (c_X8_readsAll l D ids st z hc9) yk_X8_readsAll ys_X8_readsAll wm_3_190 ⟨(Nat.le_of_ble_eq_true rfl), (Nat.le_of_ble_eq_true rfl)⟩ (mr_recv (ci := 6) hR hE hz hS hA rfl ho9) hl.1 rfl (Nat.le_of_ble_eq_true rfl) dX8_load_6 ⟨(Nat.le_of_ble_eq_true rfl), (Nat.le_of_ble_eq_true rfl)⟩) hR hz hS hA (fun H locs hR hz hS => ?_)
  refine lv_aload_n hx hb dX8_load_9 rfl (lv_at hl 0 rfl) ?_
  obtain ⟨x10, hc9, hrun⟩ := m_bind hrun
  refine mr_get (C := RX8) (T := TX8) (N := 13) (ci := 6) hx hb hts (fun w q => m_ws_in (wi_X8 w q)) hown hR rfl 9 (by decide) (hts _ (m_ws_in wm_3_42)) (fun _ h9 => h9) (m_gi_spec hc9) dX8_load_10 ?_
  refine lv_if_ne (tgt := 22) hx hb dX8_load_13 (by decide) (fun hc => ?_) (fun hc => ?_)
  · have hrun := mt_f hrun hc
    refine lv_aload_n hx hb dX8_load_22 rfl (lv_at hl 0 rfl) ?_
    obtain ⟨_, ho9, hrun⟩ := m_bind hrun
    obtain ⟨fs9, ho9⟩ := m_is_spec ho9
    obtain ⟨h23, hc9, hrun⟩ := m_bind hrun
    refine mr_callv (mr_runV (As := []) (rest := []) hx hb hml hown hts (c_X8_saves l D ids st z hc9) yk_X8_saves ys_X8_saves wm_3_94 ⟨(Nat.le_of_ble_eq_true rfl), (Nat.le_of_ble_eq_true rfl)⟩ (mr_recv (ci := 6) hR hE hz hS hA rfl ho9) hl.1 rfl (Nat.le_of_ble_eq_true rfl) dX8_load_23 ⟨(Nat.le_of_ble_eq_true rfl), (Nat.le_of_ble_eq_true rfl)⟩) hR hz hS hA (fun H locs hR hz hS => ?_)
    refine lv_aload_n hx hb dX8_load_26 rfl (lv_at hl 0 rfl) ?_
    refine lv_iconst (v := 0) hx hb dX8_load_27 (by decide) ?_
    obtain ⟨h28, hc9, hrun⟩ := m_bind hrun
    refine mr_put (C := RX8) (T := TX8) (N := 13) (ci := 6) hx hb hts (fun w q => m_ws_in (wi_X8 w q)) tyX8 tyX8_ok nmX8 hown hR hz hS rfl 6 (by decide) (hts _ (m_ws_in wm_3_39)) (fun _ h9 => h9) rfl (tyX8_ok 6 (by decide)) rfl rfl hc9 dX8_load_28 (fun H locs hR hz hS => ?_)
    refine lv_iconst (v := 0) hx hb dX8_load_31 (by decide) ?_
    refine lv_istore_n (lv' := [(1, .int 0), (0, .ref v0)]) hx hb dX8_load_32 rfl hl (by decide) rfl (fun ls hl => ?_)
    exact k_X8_load_L33 hx hb hr hml hown hts hlocks hin hE hA _ _ _ _ _ _ _ hrun hR hz hS (lv_sub hl [1, 0] rfl)
  · have hrun := mt_t hrun hc
    refine lv_aload_n hx hb dX8_load_16 rfl (lv_at hl 0 rfl) ?_
    refine lv_iconst (v := 1) hx hb dX8_load_17 (by decide) ?_
    obtain ⟨_, ho9, hrun⟩ := m_bind hrun
    obtain ⟨fs9, ho9⟩ := m_is_spec ho9
    obtain ⟨⟨x18, h18⟩, hc9, hrun⟩ := m_bind hrun
    refine mr_calli (mr_runV (As := [.int 1]) (rest := []) hx hb hml hown hts (c_X8_fails l D ids st z hc9) yk_X8_fails ys_X8_fails wm_3_90 ⟨(Nat.le_of_ble_eq_true rfl), (Nat.le_of_ble_eq_true rfl)⟩ (mr_recv (ci := 6) hR hE hz hS hA rfl ho9) hl.1 rfl (Nat.le_of_ble_eq_true rfl) dX8_load_18 ⟨(Nat.le_of_ble_eq_true rfl), (Nat.le_of_ble_eq_true rfl)⟩) hR hz hS hA (fun H locs hR hz hS => ?_)
    obtain ⟨rfl, rfl⟩ := Prod.mk.inj (Option.some.inj hrun)
    exact mr_iret hx hb hr hlocks hR hz hS dX8_load_21
/-! X8_undo -/
abbrev rm_X8_undo : Room := { frames := 1, cells := 0, slots := 0, locals := 21 }
theorem yk_X8_undo : m_K yX8_undo cX8_undo 2 (some .int) 0 := ⟨wm_3_217, wm_0_10, by decide +kernel⟩
theorem ys_X8_undo : Cond.instanceMethod yX8_undo ∈ wT ∧ Cond.selects RX8 yX8_undo yX8_undo ∈ wT := ⟨wm_3_215, wm_3_216⟩
set_option maxRecDepth 100000 in
set_option maxHeartbeats 4000000 in
theorem k_X8_undo_L30 {p : Program} {l : Launch} {e : Env} {s : State} {m : MethodId} {args : Array Value} {below : List Frame} {meth : Method} {c : Code} {D : va_G} {ids : m_I3} {st : m_T} {A : Nat → Prop} {z : Nat} {r : Int32} {hF : mH} (hx : p.tables.exec = Jvm.exec) (hb : c.code = cX8_undo) (hr : meth.sig.returnType = some .int) (hml : c.maxLocals = 2) (hown : s.vm.findClass RX8 = some m.cls) (hts : ∀ w ∈ (m_ws yX8_undo cX8_undo 2 (some .int)), w.before args s = true) (hlocks : meth.locks = false) (hin : meth.name = yX8_undo.name) (hE : m_EV st A s s.heap) (hA : ∀ q, s.heap.size ≤ q → A q) : ∀ (n : Nat) (h : mH) (v0 : Nat) (v1 : Int32) (H : Heap) (locs : List Loc) (ls : Array Slot), s_X8_undo_L30 n h v0 v1 = some (r, hF) → Rl D ids A h s H → H.size = z → va_S A s.heap H locs → lv_has ls 2 [(0, .ref v0), (1, .int v1)] → W p l e rm_X8_undo s m args below meth c H locs 0 0 (MQ below (mQi D ids A r hF z) args s 0 0 A) (F0 m 30 ls []) := by
  intro n
  induction n with
  | zero => intro h v0 v1 H locs ls hrun; exact absurd hrun (by intro h9; cases h9)
  | succ n ih =>
    intro h v0 v1 H locs ls hrun hR hz hS hl
    rw [s_X8_undo_L30] at hrun
    refine lv_iload_n hx hb dX8_undo_30 rfl (lv_at hl 1 rfl) ?_
    refine lv_sipush (v := 492) hx hb dX8_undo_31 (by decide) ?_
    refine lv_icmp_ge (tgt := 64) hx hb dX8_undo_34 (by decide) (fun hc => ?_) (fun hc => ?_)
    · have hrun := mt_t hrun hc
      refine lv_aload_n hx hb dX8_undo_64 rfl (lv_at hl 0 rfl) ?_
      obtain ⟨x65, hc9, hrun⟩ := m_bind hrun
      refine mr_get (C := RX8) (T := TX8) (N := 13) (ci := 6) hx hb hts (fun w q => m_ws_in (wi_X8 w q)) hown hR rfl 4 (by decide) (hts _ (m_ws_in wm_3_37)) (fun _ h9 => h9) (m_gi_spec hc9) dX8_undo_65 ?_
      obtain ⟨rfl, rfl⟩ := Prod.mk.inj (Option.some.inj hrun)
      exact mr_iret hx hb hr hlocks hR hz hS dX8_undo_68
    · have hrun := mt_f hrun hc
      refine lv_aload_n hx hb dX8_undo_37 rfl (lv_at hl 0 rfl) ?_
      obtain ⟨x38, hc9, hrun⟩ := m_bind hrun
      refine mr_get (C := RX8) (T := TX8) (N := 13) (ci := 6) hx hb hts (fun w q => m_ws_in (wi_X8 w q)) hown hR rfl 1 (by decide) (hts _ (m_ws_in wm_3_34)) (fun _ h9 => h9) (m_gr_spec hc9) dX8_undo_38 ?_
      refine lv_iload_n hx hb dX8_undo_41 rfl (lv_at hl 1 rfl) ?_
      refine lv_aload_n hx hb dX8_undo_42 rfl (lv_at hl 0 rfl) ?_
      obtain ⟨x43, hc9, hrun⟩ := m_bind hrun
      refine mr_get (C := RX8) (T := TX8) (N := 13) (ci := 6) hx hb hts (fun w q => m_ws_in (wi_X8 w q)) hown hR rfl 3 (by decide) (hts _ (m_ws_in wm_3_36)) (fun _ h9 => h9) (m_gr_spec hc9) dX8_undo_43 ?_
      refine lv_sipush (v := 492) hx hb dX8_undo_46 (by decide) ?_
      refine lv_aload_n hx hb dX8_undo_49 rfl (lv_at hl 0 rfl) ?_
      obtain ⟨x50, hc9, hrun⟩ := m_bind hrun
      refine mr_get (C := RX8) (T := TX8) (N := 13) (ci := 6) hx hb hts (fun w q => m_ws_in (wi_X8 w q)) hown hR rfl 4 (by decide) (hts _ (m_ws_in wm_3_37)) (fun _ h9 => h9) (m_gi_spec hc9) dX8_undo_50 ?_
      refine lv_imul hx hb dX8_undo_53 ?_
      refine lv_iload_n hx hb dX8_undo_54 rfl (lv_at hl 1 rfl) ?_
      refine lv_iadd hx hb dX8_undo_55 ?_
      obtain ⟨x56, hc9, hrun⟩ := m_bind hrun
      refine mr_iald hx hb hR hc9 dX8_undo_56 ?_
      obtain ⟨h57, hc9, hrun⟩ := m_bind hrun
      refine mr_iast hx hb hR hz hS hc9 dX8_undo_57 (fun H locs hR hz hS => ?_)
      refine lv_iinc (v := v1 + 1) (lv' := [(1, .int (v1 + 1)), (0, .ref v0)]) hx hb dX8_undo_58 hl (k := 1) rfl rfl (by decide) rfl (fun ls hl => ?_)
      refine lv_goto (tgt := 30) hx hb dX8_undo_61 (by decide) ?_
      exact ih _ _ _ _ _ _ hrun hR hz hS (lv_sub hl [1, 0] rfl)
set_option maxRecDepth 100000 in
set_option maxHeartbeats 4000000 in
theorem c_X8_undo (l : Launch) (D : va_G) (ids : m_I3) (st : m_T) (z : Nat) {h : mH} {v0 : Nat} {r : Int32} {hF : mH} (hrun : s_X8_undo h v0 = some (r, hF)) : Met l yX8_undo (m_ws yX8_undo cX8_undo 2 (some .int)) rm_X8_undo (mPc D ids st [.ref v0] h z) (mQi D ids (m_A h z) r hF z) rm_X8_undo.cells rm_X8_undo.slots (m_A h z) := by
  refine mr_of (cc := cX8_undo) (maxL := 2) (ret := some .int) (by decide) rfl (Nat.le_of_ble_eq_true rfl) ?_
  intro p e s m below meth c ls hx hb hr hml hown hts hlocks hin hR hE hz hl
  have hA : ∀ q, s.heap.size ≤ q → m_A h z q := fun q hq => Or.inr (by rw [← hz]; exact hq)
  have hS : va_S (m_A h z) s.heap s.heap [] := va_S.rf
  have hl : lv_has ls 2 [(0, .ref v0)] := hl
  unfold s_X8_undo at hrun
  refine lv_aload_n hx hb dX8_undo_0 rfl (lv_at hl 0 rfl) ?_
  refine lv_iconst (v := 0) hx hb dX8_undo_1 (by decide) ?_
  obtain ⟨h2, hc9, hrun⟩ := m_bind hrun
  refine mr_put (C := RX8) (T := TX8) (N := 13) (ci := 6) hx hb hts (fun w q => m_ws_in (wi_X8 w q)) tyX8 tyX8_ok nmX8 hown hR hz hS rfl 0 (by decide) (hts _ (m_ws_in wm_3_33)) (fun _ h9 => h9) rfl (tyX8_ok 0 (by decide)) rfl rfl hc9 dX8_undo_2 (fun H locs hR hz hS => ?_)
  refine lv_aload_n hx hb dX8_undo_5 rfl (lv_at hl 0 rfl) ?_
  obtain ⟨x6, hc9, hrun⟩ := m_bind hrun
  refine mr_get (C := RX8) (T := TX8) (N := 13) (ci := 6) hx hb hts (fun w q => m_ws_in (wi_X8 w q)) hown hR rfl 4 (by decide) (hts _ (m_ws_in wm_3_37)) (fun _ h9 => h9) (m_gi_spec hc9) dX8_undo_6 ?_
  refine lv_if_ne (tgt := 18) hx hb dX8_undo_9 (by decide) (fun hc => ?_) (fun hc => ?_)
  · have hrun := mt_f hrun hc
    refine lv_aload_n hx hb dX8_undo_18 rfl (lv_at hl 0 rfl) ?_
    refine lv_dup hx hb dX8_undo_19 rfl ?_
    obtain ⟨x20, hc9, hrun⟩ := m_bind hrun
    refine mr_get (C := RX8) (T := TX8) (N := 13) (ci := 6) hx hb hts (fun w q => m_ws_in (wi_X8 w q)) hown hR rfl 4 (by decide) (hts _ (m_ws_in wm_3_37)) (fun _ h9 => h9) (m_gi_spec hc9) dX8_undo_20 ?_
    refine lv_iconst (v := 1) hx hb dX8_undo_23 (by decide) ?_
    refine lv_isub hx hb dX8_undo_24 ?_
    obtain ⟨h25, hc9, hrun⟩ := m_bind hrun
    refine mr_put (C := RX8) (T := TX8) (N := 13) (ci := 6) hx hb hts (fun w q => m_ws_in (wi_X8 w q)) tyX8 tyX8_ok nmX8 hown hR hz hS rfl 4 (by decide) (hts _ (m_ws_in wm_3_37)) (fun _ h9 => h9) rfl (tyX8_ok 4 (by decide)) rfl rfl hc9 dX8_undo_25 (fun H locs hR hz hS => ?_)
    refine lv_iconst (v := 0) hx hb dX8_undo_28 (by decide) ?_
    refine lv_istore_n (lv' := [(1, .int 0), (0, .ref v0)]) hx hb dX8_undo_29 rfl hl (by decide) rfl (fun ls hl => ?_)
    exact k_X8_undo_L30 hx hb hr hml hown hts hlocks hin hE hA _ _ _ _ _ _ _ hrun hR hz hS (lv_sub hl [1, 0] rfl)
  · have hrun := mt_t hrun hc
    refine lv_aload_n hx hb dX8_undo_12 rfl (lv_at hl 0 rfl) ?_
    refine lv_iconst (v := 1) hx hb dX8_undo_13 (by decide) ?_
    obtain ⟨_, ho9, hrun⟩ := m_bind hrun
    obtain ⟨fs9, ho9⟩ := m_is_spec ho9
    obtain ⟨⟨x14, h14⟩, hc9, hrun⟩ := m_bind hrun
    refine mr_calli (mr_runV (As := [.int 1]) (rest := []) hx hb hml hown hts (c_X8_fails l D ids st z hc9) yk_X8_fails ys_X8_fails wm_3_90 ⟨(Nat.le_of_ble_eq_true rfl), (Nat.le_of_ble_eq_true rfl)⟩ (mr_recv (ci := 6) hR hE hz hS hA rfl ho9) hl.1 rfl (Nat.le_of_ble_eq_true rfl) dX8_undo_14 ⟨(Nat.le_of_ble_eq_true rfl), (Nat.le_of_ble_eq_true rfl)⟩) hR hz hS hA (fun H locs hR hz hS => ?_)
    obtain ⟨rfl, rfl⟩ := Prod.mk.inj (Option.some.inj hrun)
    exact mr_iret hx hb hr hlocks hR hz hS dX8_undo_17
/-! X8_tellsTap -/
abbrev rm_X8_tellsTap : Room := { frames := 2, cells := 0, slots := 0, locals := 44 }
theorem yk_X8_tellsTap : m_K yX8_tellsTap cX8_tellsTap 3 (some .int) 2 := ⟨wm_3_225, wm_0_10, by decide +kernel⟩
theorem ys_X8_tellsTap : Cond.instanceMethod yX8_tellsTap ∈ wT ∧ Cond.selects RX8 yX8_tellsTap yX8_tellsTap ∈ wT := ⟨wm_3_224, wp_2_14⟩
set_option maxRecDepth 100000 in
set_option maxHeartbeats 4000000 in
theorem c_X8_tellsTap (l : Launch) (D : va_G) (ids : m_I3) (st : m_T) (z : Nat) {h : mH} {v0 : Nat} {v1 : Int32} {v2 : Int32} {r : Int32} (hrun : s_X8_tellsTap h v0 v1 v2 = some r) : Met l yX8_tellsTap (m_ws yX8_tellsTap cX8_tellsTap 3 (some .int)) rm_X8_tellsTap (mPc D ids st [.ref v0, .int v1, .int v2] h z) (mQi D ids (m_A h z) r h z) rm_X8_tellsTap.cells rm_X8_tellsTap.slots (m_A h z) := by
  refine mr_of (cc := cX8_tellsTap) (maxL := 3) (ret := some .int) (by decide) rfl (Nat.le_of_ble_eq_true rfl) ?_
  intro p e s m below meth c ls hx hb hr hml hown hts hlocks hin hR hE hz hl
  have hA : ∀ q, s.heap.size ≤ q → m_A h z q := fun q hq => Or.inr (by rw [← hz]; exact hq)
  have hS : va_S (m_A h z) s.heap s.heap [] := va_S.rf
  have hl : lv_has ls 3 [(0, .ref v0), (1, .int v1), (2, .int v2)] := hl
  unfold s_X8_tellsTap at hrun
  refine lv_iload_n hx hb dX8_tellsTap_0 rfl (lv_at hl 2 rfl) ?_
  by_cases hc5 : v2 = 5
  · have hrun := mt_t hrun hc5
    refine lv_tableIn (tgt := 28) (off := 27) hx hb dX8_tellsTap_1 (by rw [hc5]; decide) (by rw [hc5]; decide) (by rw [hc5]; rfl) (by decide) ?_
    refine lv_aload_n hx hb dX8_tellsTap_28 rfl (lv_at hl 0 rfl) ?_
    obtain ⟨x29, hc9, hrun⟩ := m_bind hrun
    refine mr_get (C := RX8) (T := TX8) (N := 13) (ci := 6) hx hb hts (fun w q => m_ws_in (wi_X8 w q)) hown hR rfl 7 (by decide) (hts _ (m_ws_in wm_3_40)) (fun _ h9 => h9) (m_gr_spec hc9) dX8_tellsTap_29 ?_
    refine lv_iload_n hx hb dX8_tellsTap_32 rfl (lv_at hl 1 rfl) ?_
    obtain ⟨x33, hc9, hrun⟩ := m_bind hrun
    refine mr_iald hx hb hR hc9 dX8_tellsTap_33 ?_
    obtain rfl := Option.some.inj hrun
    exact mr_iret hx hb hr hlocks hR hz hS dX8_tellsTap_34
  have hrun := mt_f hrun hc5
  have hn5 : ¬ (v2).toInt = 5 := lv_neT hc5 rfl
  by_cases hc6 : v2 = 6
  · have hrun := mt_t hrun hc6
    refine lv_tableIn (tgt := 35) (off := 34) hx hb dX8_tellsTap_1 (by rw [hc6]; decide) (by rw [hc6]; decide) (by rw [hc6]; rfl) (by decide) ?_
    refine lv_aload_n hx hb dX8_tellsTap_35 rfl (lv_at hl 0 rfl) ?_
    refine lv_iload_n hx hb dX8_tellsTap_36 rfl (lv_at hl 1 rfl) ?_
    obtain ⟨_, ho9, hrun⟩ := m_bind hrun
    obtain ⟨fs9, ho9⟩ := m_is_spec ho9
    obtain ⟨x37, hc9, hrun⟩ := m_bind hrun
    refine mr_calli (mr_runV (As := [.int v1]) (rest := []) hx hb hml hown hts (c_X8_fare l D ids st z hc9) yk_X8_fare ys_X8_fare wm_3_162 ⟨(Nat.le_of_ble_eq_true rfl), (Nat.le_of_ble_eq_true rfl)⟩ (mr_recv (ci := 6) hR hE hz hS hA rfl ho9) hl.1 rfl (Nat.le_of_ble_eq_true rfl) dX8_tellsTap_37 ⟨(Nat.le_of_ble_eq_true rfl), (Nat.le_of_ble_eq_true rfl)⟩) hR hz hS hA (fun H locs hR hz hS => ?_)
    obtain rfl := Option.some.inj hrun
    exact mr_iret hx hb hr hlocks hR hz hS dX8_tellsTap_40
  have hrun := mt_f hrun hc6
  have hn6 : ¬ (v2).toInt = 6 := lv_neT hc6 rfl
  by_cases hc7 : v2 = 7
  · have hrun := mt_t hrun hc7
    refine lv_tableIn (tgt := 41) (off := 40) hx hb dX8_tellsTap_1 (by rw [hc7]; decide) (by rw [hc7]; decide) (by rw [hc7]; rfl) (by decide) ?_
    refine lv_aload_n hx hb dX8_tellsTap_41 rfl (lv_at hl 0 rfl) ?_
    refine lv_iload_n hx hb dX8_tellsTap_42 rfl (lv_at hl 1 rfl) ?_
    refine lv_iconst (v := 5) hx hb dX8_tellsTap_43 (by decide) ?_
    obtain ⟨_, ho9, hrun⟩ := m_bind hrun
    obtain ⟨fs9, ho9⟩ := m_is_spec ho9
    obtain ⟨x44, hc9, hrun⟩ := m_bind hrun
    refine mr_calli (mr_runV (As := [.int v1, .int 5]) (rest := []) hx hb hml hown hts (c_X8_of l D ids st z hc9) yk_X8_of ys_X8_of wm_3_106 ⟨(Nat.le_of_ble_eq_true rfl), (Nat.le_of_ble_eq_true rfl)⟩ (mr_recv (ci := 6) hR hE hz hS hA rfl ho9) hl.1 rfl (Nat.le_of_ble_eq_true rfl) dX8_tellsTap_44 ⟨(Nat.le_of_ble_eq_true rfl), (Nat.le_of_ble_eq_true rfl)⟩) hR hz hS hA (fun H locs hR hz hS => ?_)
    obtain rfl := Option.some.inj hrun
    exact mr_iret hx hb hr hlocks hR hz hS dX8_tellsTap_47
  have hrun := mt_f hrun hc7
  have hn7 : ¬ (v2).toInt = 7 := lv_neT hc7 rfl
  refine lv_tableOut (tgt := 48) hx hb dX8_tellsTap_1 (by omega) (by decide) ?_
  refine lv_aload_n hx hb dX8_tellsTap_48 rfl (lv_at hl 0 rfl) ?_
  refine lv_iload_n hx hb dX8_tellsTap_49 rfl (lv_at hl 1 rfl) ?_
  refine lv_iload_n hx hb dX8_tellsTap_50 rfl (lv_at hl 2 rfl) ?_
  obtain ⟨_, ho9, hrun⟩ := m_bind hrun
  obtain ⟨fs9, ho9⟩ := m_is_spec ho9
  obtain ⟨x51, hc9, hrun⟩ := m_bind hrun
  refine mr_calli (mr_runV (As := [.int v1, .int v2]) (rest := []) hx hb hml hown hts (c_X8_of l D ids st z hc9) yk_X8_of ys_X8_of wm_3_106 ⟨(Nat.le_of_ble_eq_true rfl), (Nat.le_of_ble_eq_true rfl)⟩ (mr_recv (ci := 6) hR hE hz hS hA rfl ho9) hl.1 rfl (Nat.le_of_ble_eq_true rfl) dX8_tellsTap_51 ⟨(Nat.le_of_ble_eq_true rfl), (Nat.le_of_ble_eq_true rfl)⟩) hR hz hS hA (fun H locs hR hz hS => ?_)
  obtain rfl := Option.some.inj hrun
  exact mr_iret hx hb hr hlocks hR hz hS dX8_tellsTap_54
/-! X8_tapOf -/
abbrev rm_X8_tapOf : Room := { frames := 3, cells := 0, slots := 0, locals := 67 }
theorem yk_X8_tapOf : m_K yX8_tapOf cX8_tapOf 3 (some .int) 2 := ⟨wm_3_221, wm_0_10, by decide +kernel⟩
theorem ys_X8_tapOf : Cond.instanceMethod yX8_tapOf ∈ wT ∧ Cond.selects RX8 yX8_tapOf yX8_tapOf ∈ wT := ⟨wm_3_219, wm_3_220⟩
set_option maxRecDepth 100000 in
set_option maxHeartbeats 4000000 in
theorem k_X8_tapOf_b47 {p : Program} {l : Launch} {e : Env} {s : State} {m : MethodId} {args : Array Value} {below : List Frame} {meth : Method} {c : Code} {D : va_G} {ids : m_I3} {st : m_T} {A : Nat → Prop} {z : Nat} {r : Int32} {hF : mH} (hx : p.tables.exec = Jvm.exec) (hb : c.code = cX8_tapOf) (hr : meth.sig.returnType = some .int) (hml : c.maxLocals = 3) (hown : s.vm.findClass RX8 = some m.cls) (hts : ∀ w ∈ (m_ws yX8_tapOf cX8_tapOf 3 (some .int)), w.before args s = true) (hlocks : meth.locks = false) (hin : meth.name = yX8_tapOf.name) (hE : m_EV st A s s.heap) (hA : ∀ q, s.heap.size ≤ q → A q) (h : mH) (t0 : Int32) (H : Heap) (locs : List Loc) (ls : Array Slot) (hrun : s_X8_tapOf_b47 h t0 = some (r, hF)) (hR : Rl D ids A h s H) (hz : H.size = z) (hS : va_S A s.heap H locs) (hl : lv_has ls 3 []) : W p l e rm_X8_tapOf s m args below meth c H locs 0 0 (MQ below (mQi D ids A r hF z) args s 0 0 A) (F0 m 47 ls [.int t0]) := by
  unfold s_X8_tapOf_b47 at hrun
  obtain ⟨rfl, rfl⟩ := Prod.mk.inj (Option.some.inj hrun)
  exact mr_iret hx hb hr hlocks hR hz hS dX8_tapOf_47
set_option maxRecDepth 100000 in
set_option maxHeartbeats 4000000 in
theorem c_X8_tapOf (l : Launch) (D : va_G) (ids : m_I3) (st : m_T) (z : Nat) {h : mH} {v0 : Nat} {v1 : Int32} {v2 : Int32} {r : Int32} {hF : mH} (hrun : s_X8_tapOf h v0 v1 v2 = some (r, hF)) : Met l yX8_tapOf (m_ws yX8_tapOf cX8_tapOf 3 (some .int)) rm_X8_tapOf (mPc D ids st [.ref v0, .int v1, .int v2] h z) (mQi D ids (m_A h z) r hF z) rm_X8_tapOf.cells rm_X8_tapOf.slots (m_A h z) := by
  refine mr_of (cc := cX8_tapOf) (maxL := 3) (ret := some .int) (by decide) rfl (Nat.le_of_ble_eq_true rfl) ?_
  intro p e s m below meth c ls hx hb hr hml hown hts hlocks hin hR hE hz hl
  have hA : ∀ q, s.heap.size ≤ q → m_A h z q := fun q hq => Or.inr (by rw [← hz]; exact hq)
  have hS : va_S (m_A h z) s.heap s.heap [] := va_S.rf
  have hl : lv_has ls 3 [(0, .ref v0), (1, .int v1), (2, .int v2)] := hl
  unfold s_X8_tapOf at hrun
  refine lv_aload_n hx hb dX8_tapOf_0 rfl (lv_at hl 0 rfl) ?_
  refine lv_iconst (v := 0) hx hb dX8_tapOf_1 (by decide) ?_
  obtain ⟨h2, hc9, hrun⟩ := m_bind hrun
  refine mr_put (C := RX8) (T := TX8) (N := 13) (ci := 6) hx hb hts (fun w q => m_ws_in (wi_X8 w q)) tyX8 tyX8_ok nmX8 hown hR hz hS rfl 0 (by decide) (hts _ (m_ws_in wm_3_33)) (fun _ h9 => h9) rfl (tyX8_ok 0 (by decide)) rfl rfl hc9 dX8_tapOf_2 (fun H locs hR hz hS => ?_)
  refine lv_aload_n hx hb dX8_tapOf_5 rfl (lv_at hl 0 rfl) ?_
  refine lv_iload_n hx hb dX8_tapOf_6 rfl (lv_at hl 1 rfl) ?_
  obtain ⟨_, ho9, hrun⟩ := m_bind hrun
  obtain ⟨fs9, ho9⟩ := m_is_spec ho9
  obtain ⟨x7, hc9, hrun⟩ := m_bind hrun
  refine mr_calli (mr_runV (As := [.int v1]) (rest := []) hx hb hml hown hts (c_X8_isTap l D ids st z hc9) yk_X8_isTap ys_X8_isTap wm_3_114 ⟨(Nat.le_of_ble_eq_true rfl), (Nat.le_of_ble_eq_true rfl)⟩ (mr_recv (ci := 6) hR hE hz hS hA rfl ho9) hl.1 rfl (Nat.le_of_ble_eq_true rfl) dX8_tapOf_7 ⟨(Nat.le_of_ble_eq_true rfl), (Nat.le_of_ble_eq_true rfl)⟩) hR hz hS hA (fun H locs hR hz hS => ?_)
  refine lv_if_ne (tgt := 19) hx hb dX8_tapOf_10 (by decide) (fun hc => ?_) (fun hc => ?_)
  · have hrun := mt_f hrun hc
    refine lv_aload_n hx hb dX8_tapOf_19 rfl (lv_at hl 0 rfl) ?_
    obtain ⟨_, ho9, hrun⟩ := m_bind hrun
    obtain ⟨fs9, ho9⟩ := m_is_spec ho9
    obtain ⟨h20, hc9, hrun⟩ := m_bind hrun
    refine mr_callv (mr_runV (As := []) (rest := []) hx hb hml hown hts (c_X8_laysRides l D ids st z hc9) yk_X8_laysRides ys_X8_laysRides wm_3_130 ⟨(Nat.le_of_ble_eq_true rfl), (Nat.le_of_ble_eq_true rfl)⟩ (mr_recv (ci := 6) hR hE hz hS hA rfl ho9) hl.1 rfl (Nat.le_of_ble_eq_true rfl) dX8_tapOf_20 ⟨(Nat.le_of_ble_eq_true rfl), (Nat.le_of_ble_eq_true rfl)⟩) hR hz hS hA (fun H locs hR hz hS => ?_)
    refine lv_iload_n hx hb dX8_tapOf_23 rfl (lv_at hl 2 rfl) ?_
    refine lv_iconst (v := 0) hx hb dX8_tapOf_24 (by decide) ?_
    refine lv_bipush (v := 7) hx hb dX8_tapOf_25 (by decide) ?_
    obtain ⟨x27, hc9, hrun⟩ := m_bind hrun
    refine mr_calli (mr_runS (As := [.int v2, .int 0, .int 7]) (rest := []) hx hb hml hown hts (c_X8_in l D ids st z hc9) yk_X8_in ys_X8_in wm_3_87 ⟨(Nat.le_of_ble_eq_true rfl), (Nat.le_of_ble_eq_true rfl)⟩ (mr_recvS hR hE hz hS hA) hl.1 rfl (Nat.le_of_ble_eq_true rfl) dX8_tapOf_27 ⟨(Nat.le_of_ble_eq_true rfl), (Nat.le_of_ble_eq_true rfl)⟩) hR hz hS hA (fun H locs hR hz hS => ?_)
    refine lv_if_eq (tgt := 42) hx hb dX8_tapOf_30 (by decide) (fun hc => ?_) (fun hc => ?_)
    · have hrun := mt_t hrun hc
      refine lv_aload_n hx hb dX8_tapOf_42 rfl (lv_at hl 0 rfl) ?_
      refine lv_iconst (v := 2) hx hb dX8_tapOf_43 (by decide) ?_
      obtain ⟨_, ho9, hrun⟩ := m_bind hrun
      obtain ⟨fs9, ho9⟩ := m_is_spec ho9
      obtain ⟨⟨x44, h44⟩, hc9, hrun⟩ := m_bind hrun
      refine mr_calli (mr_runV (As := [.int 2]) (rest := []) hx hb hml hown hts (c_X8_fails l D ids st z hc9) yk_X8_fails ys_X8_fails wm_3_90 ⟨(Nat.le_of_ble_eq_true rfl), (Nat.le_of_ble_eq_true rfl)⟩ (mr_recv (ci := 6) hR hE hz hS hA rfl ho9) hl.1 rfl (Nat.le_of_ble_eq_true rfl) dX8_tapOf_44 ⟨(Nat.le_of_ble_eq_true rfl), (Nat.le_of_ble_eq_true rfl)⟩) hR hz hS hA (fun H locs hR hz hS => ?_)
      exact k_X8_tapOf_b47 hx hb hr hml hown hts hlocks hin hE hA _ _ _ _ _ hrun hR hz hS (lv_sub hl [] rfl)
    · have hrun := mt_f hrun hc
      refine lv_aload_n hx hb dX8_tapOf_33 rfl (lv_at hl 0 rfl) ?_
      refine lv_iload_n hx hb dX8_tapOf_34 rfl (lv_at hl 1 rfl) ?_
      refine lv_iload_n hx hb dX8_tapOf_35 rfl (lv_at hl 2 rfl) ?_
      obtain ⟨_, ho9, hrun⟩ := m_bind hrun
      obtain ⟨fs9, ho9⟩ := m_is_spec ho9
      obtain ⟨x36, hc9, hrun⟩ := m_bind hrun
      refine mr_calli (mr_runV (As := [.int v1, .int v2]) (rest := []) hx hb hml hown hts (c_X8_tellsTap l D ids st z hc9) yk_X8_tellsTap ys_X8_tellsTap wm_3_222 ⟨(Nat.le_of_ble_eq_true rfl), (Nat.le_of_ble_eq_true rfl)⟩ (mr_recv (ci := 6) hR hE hz hS hA rfl ho9) hl.1 rfl (Nat.le_of_ble_eq_true rfl) dX8_tapOf_36 ⟨(Nat.le_of_ble_eq_true rfl), (Nat.le_of_ble_eq_true rfl)⟩) hR hz hS hA (fun H locs hR hz hS => ?_)
      refine lv_goto (tgt := 47) hx hb dX8_tapOf_39 (by decide) ?_
      exact k_X8_tapOf_b47 hx hb hr hml hown hts hlocks hin hE hA _ _ _ _ _ hrun hR hz hS (lv_sub hl [] rfl)
  · have hrun := mt_t hrun hc
    refine lv_aload_n hx hb dX8_tapOf_13 rfl (lv_at hl 0 rfl) ?_
    refine lv_iconst (v := 1) hx hb dX8_tapOf_14 (by decide) ?_
    obtain ⟨_, ho9, hrun⟩ := m_bind hrun
    obtain ⟨fs9, ho9⟩ := m_is_spec ho9
    obtain ⟨⟨x15, h15⟩, hc9, hrun⟩ := m_bind hrun
    refine mr_calli (mr_runV (As := [.int 1]) (rest := []) hx hb hml hown hts (c_X8_fails l D ids st z hc9) yk_X8_fails ys_X8_fails wm_3_90 ⟨(Nat.le_of_ble_eq_true rfl), (Nat.le_of_ble_eq_true rfl)⟩ (mr_recv (ci := 6) hR hE hz hS hA rfl ho9) hl.1 rfl (Nat.le_of_ble_eq_true rfl) dX8_tapOf_15 ⟨(Nat.le_of_ble_eq_true rfl), (Nat.le_of_ble_eq_true rfl)⟩) hR hz hS hA (fun H locs hR hz hS => ?_)
    obtain ⟨rfl, rfl⟩ := Prod.mk.inj (Option.some.inj hrun)
    exact mr_iret hx hb hr hlocks hR hz hS dX8_tapOf_18
/-! X8_isWallet -/
abbrev rm_X8_isWallet : Room := { frames := 1, cells := 0, slots := 0, locals := 22 }
theorem yk_X8_isWallet : m_K yX8_isWallet cX8_isWallet 1 (some .boolean) 1 := ⟨wm_3_86, wm_0_10, by decide +kernel⟩
theorem ys_X8_isWallet : Cond.static yX8_isWallet ∈ wT := wm_3_85
set_option maxRecDepth 100000 in
set_option maxHeartbeats 4000000 in
theorem c_X8_isWallet (l : Launch) (D : va_G) (ids : m_I3) (st : m_T) (z : Nat) {h : mH} {v0 : Int32} {r : Int32} (hrun : s_X8_isWallet h v0 = some r) : Met l yX8_isWallet (m_ws yX8_isWallet cX8_isWallet 1 (some .boolean)) rm_X8_isWallet (mPc D ids st [.int v0] h z) (mQi D ids (m_A h z) r h z) rm_X8_isWallet.cells rm_X8_isWallet.slots (m_A h z) := by
  refine mr_of (cc := cX8_isWallet) (maxL := 1) (ret := some .boolean) (by decide) rfl (Nat.le_of_ble_eq_true rfl) ?_
  intro p e s m below meth c ls hx hb hr hml hown hts hlocks hin hR hE hz hl
  have hA : ∀ q, s.heap.size ≤ q → m_A h z q := fun q hq => Or.inr (by rw [← hz]; exact hq)
  have hS : va_S (m_A h z) s.heap s.heap [] := va_S.rf
  have hl : lv_has ls 1 [(0, .int v0)] := hl
  unfold s_X8_isWallet at hrun
  refine lv_iload_n hx hb dX8_isWallet_0 rfl (lv_at hl 0 rfl) ?_
  refine lv_iconst (v := 0) hx hb dX8_isWallet_1 (by decide) ?_
  refine lv_iconst (v := 3) hx hb dX8_isWallet_2 (by decide) ?_
  obtain ⟨x3, hc9, hrun⟩ := m_bind hrun
  refine mr_calli (mr_runS (As := [.int v0, .int 0, .int 3]) (rest := []) hx hb hml hown hts (c_X8_in l D ids st z hc9) yk_X8_in ys_X8_in wm_3_87 ⟨(Nat.le_of_ble_eq_true rfl), (Nat.le_of_ble_eq_true rfl)⟩ (mr_recvS hR hE hz hS hA) hl.1 rfl (Nat.le_of_ble_eq_true rfl) dX8_isWallet_3 ⟨(Nat.le_of_ble_eq_true rfl), (Nat.le_of_ble_eq_true rfl)⟩) hR hz hS hA (fun H locs hR hz hS => ?_)
  obtain ⟨w9, hzr, hrun⟩ := m_bind hrun
  obtain rfl := Option.some.inj hrun
  exact mr_zret hzr hx hb hr hlocks hR hz hS dX8_isWallet_6
/-! X8_day -/
abbrev rm_X8_day : Room := { frames := 4, cells := 0, slots := 0, locals := 94 }
theorem yk_X8_day : m_K yX8_day cX8_day 4 (some .int) 3 := ⟨wm_3_229, wm_0_10, by decide +kernel⟩
theorem ys_X8_day : Cond.instanceMethod yX8_day ∈ wT ∧ Cond.selects RX8 yX8_day yX8_day ∈ wT := ⟨wm_3_227, wm_3_228⟩
set_option maxRecDepth 100000 in
set_option maxHeartbeats 4000000 in
theorem k_X8_day_b46 {p : Program} {l : Launch} {e : Env} {s : State} {m : MethodId} {args : Array Value} {below : List Frame} {meth : Method} {c : Code} {D : va_G} {ids : m_I3} {st : m_T} {A : Nat → Prop} {z : Nat} {r : Int32} {hF : mH} (hx : p.tables.exec = Jvm.exec) (hb : c.code = cX8_day) (hr : meth.sig.returnType = some .int) (hml : c.maxLocals = 4) (hown : s.vm.findClass RX8 = some m.cls) (hts : ∀ w ∈ (m_ws yX8_day cX8_day 4 (some .int)), w.before args s = true) (hlocks : meth.locks = false) (hin : meth.name = yX8_day.name) (hE : m_EV st A s s.heap) (hA : ∀ q, s.heap.size ≤ q → A q) (h : mH) (t0 : Int32) (H : Heap) (locs : List Loc) (ls : Array Slot) (hrun : s_X8_day_b46 h t0 = some (r, hF)) (hR : Rl D ids A h s H) (hz : H.size = z) (hS : va_S A s.heap H locs) (hl : lv_has ls 4 []) : W p l e rm_X8_day s m args below meth c H locs 0 0 (MQ below (mQi D ids A r hF z) args s 0 0 A) (F0 m 46 ls [.int t0]) := by
  unfold s_X8_day_b46 at hrun
  obtain ⟨rfl, rfl⟩ := Prod.mk.inj (Option.some.inj hrun)
  exact mr_iret hx hb hr hlocks hR hz hS dX8_day_46
set_option maxRecDepth 100000 in
set_option maxHeartbeats 4000000 in
theorem k_X8_day_b41 {p : Program} {l : Launch} {e : Env} {s : State} {m : MethodId} {args : Array Value} {below : List Frame} {meth : Method} {c : Code} {D : va_G} {ids : m_I3} {st : m_T} {A : Nat → Prop} {z : Nat} {r : Int32} {hF : mH} (hx : p.tables.exec = Jvm.exec) (hb : c.code = cX8_day) (hr : meth.sig.returnType = some .int) (hml : c.maxLocals = 4) (hown : s.vm.findClass RX8 = some m.cls) (hts : ∀ w ∈ (m_ws yX8_day cX8_day 4 (some .int)), w.before args s = true) (hlocks : meth.locks = false) (hin : meth.name = yX8_day.name) (hE : m_EV st A s s.heap) (hA : ∀ q, s.heap.size ≤ q → A q) (h : mH) (v0 : Nat) (H : Heap) (locs : List Loc) (ls : Array Slot) (hrun : s_X8_day_b41 h v0 = some (r, hF)) (hR : Rl D ids A h s H) (hz : H.size = z) (hS : va_S A s.heap H locs) (hl : lv_has ls 4 [(0, .ref v0)]) : W p l e rm_X8_day s m args below meth c H locs 0 0 (MQ below (mQi D ids A r hF z) args s 0 0 A) (F0 m 41 ls []) := by
  unfold s_X8_day_b41 at hrun
  refine lv_aload_n hx hb dX8_day_41 rfl (lv_at hl 0 rfl) ?_
  refine lv_iconst (v := 1) hx hb dX8_day_42 (by decide) ?_
  obtain ⟨_, ho9, hrun⟩ := m_bind hrun
  obtain ⟨fs9, ho9⟩ := m_is_spec ho9
  obtain ⟨⟨x43, h43⟩, hc9, hrun⟩ := m_bind hrun
  refine mr_calli (mr_runV (As := [.int 1]) (rest := []) hx hb hml hown hts (c_X8_fails l D ids st z hc9) yk_X8_fails ys_X8_fails wm_3_90 ⟨(Nat.le_of_ble_eq_true rfl), (Nat.le_of_ble_eq_true rfl)⟩ (mr_recv (ci := 6) hR hE hz hS hA rfl ho9) hl.1 rfl (Nat.le_of_ble_eq_true rfl) dX8_day_43 ⟨(Nat.le_of_ble_eq_true rfl), (Nat.le_of_ble_eq_true rfl)⟩) hR hz hS hA (fun H locs hR hz hS => ?_)
  exact k_X8_day_b46 hx hb hr hml hown hts hlocks hin hE hA _ _ _ _ _ hrun hR hz hS (lv_sub hl [] rfl)
set_option maxRecDepth 100000 in
set_option maxHeartbeats 4000000 in
theorem c_X8_day (l : Launch) (D : va_G) (ids : m_I3) (st : m_T) (z : Nat) {h : mH} {v0 : Nat} {v1 : Int32} {v2 : Int32} {v3 : Int32} {r : Int32} {hF : mH} (hrun : s_X8_day h v0 v1 v2 v3 = some (r, hF)) : Met l yX8_day (m_ws yX8_day cX8_day 4 (some .int)) rm_X8_day (mPc D ids st [.ref v0, .int v1, .int v2, .int v3] h z) (mQi D ids (m_A h z) r hF z) rm_X8_day.cells rm_X8_day.slots (m_A h z) := by
  refine mr_of (cc := cX8_day) (maxL := 4) (ret := some .int) (by decide) rfl (Nat.le_of_ble_eq_true rfl) ?_
  intro p e s m below meth c ls hx hb hr hml hown hts hlocks hin hR hE hz hl
  have hA : ∀ q, s.heap.size ≤ q → m_A h z q := fun q hq => Or.inr (by rw [← hz]; exact hq)
  have hS : va_S (m_A h z) s.heap s.heap [] := va_S.rf
  have hl : lv_has ls 4 [(0, .ref v0), (1, .int v1), (2, .int v2), (3, .int v3)] := hl
  unfold s_X8_day at hrun
  refine lv_aload_n hx hb dX8_day_0 rfl (lv_at hl 0 rfl) ?_
  refine lv_iconst (v := 0) hx hb dX8_day_1 (by decide) ?_
  obtain ⟨h2, hc9, hrun⟩ := m_bind hrun
  refine mr_put (C := RX8) (T := TX8) (N := 13) (ci := 6) hx hb hts (fun w q => m_ws_in (wi_X8 w q)) tyX8 tyX8_ok nmX8 hown hR hz hS rfl 0 (by decide) (hts _ (m_ws_in wm_3_33)) (fun _ h9 => h9) rfl (tyX8_ok 0 (by decide)) rfl rfl hc9 dX8_day_2 (fun H locs hR hz hS => ?_)
  refine lv_iload_n hx hb dX8_day_5 rfl (lv_at hl 1 rfl) ?_
  obtain ⟨x6, hc9, hrun⟩ := m_bind hrun
  refine mr_calli (mr_runS (As := [.int v1]) (rest := []) hx hb hml hown hts (c_X8_isWallet l D ids st z hc9) yk_X8_isWallet ys_X8_isWallet wm_3_84 ⟨(Nat.le_of_ble_eq_true rfl), (Nat.le_of_ble_eq_true rfl)⟩ (mr_recvS hR hE hz hS hA) hl.1 rfl (Nat.le_of_ble_eq_true rfl) dX8_day_6 ⟨(Nat.le_of_ble_eq_true rfl), (Nat.le_of_ble_eq_true rfl)⟩) hR hz hS hA (fun H locs hR hz hS => ?_)
  refine lv_if_eq (tgt := 41) hx hb dX8_day_9 (by decide) (fun hc => ?_) (fun hc => ?_)
  · have hrun := mt_t hrun hc
    exact k_X8_day_b41 hx hb hr hml hown hts hlocks hin hE hA _ _ _ _ _ hrun hR hz hS (lv_sub hl [0] rfl)
  · have hrun := mt_f hrun hc
    refine lv_iload_n hx hb dX8_day_12 rfl (lv_at hl 2 rfl) ?_
    refine lv_iconst (v := 0) hx hb dX8_day_13 (by decide) ?_
    refine lv_bipush (v := 27) hx hb dX8_day_14 (by decide) ?_
    obtain ⟨x16, hc9, hrun⟩ := m_bind hrun
    refine mr_calli (mr_runS (As := [.int v2, .int 0, .int 27]) (rest := []) hx hb hml hown hts (c_X8_in l D ids st z hc9) yk_X8_in ys_X8_in wm_3_87 ⟨(Nat.le_of_ble_eq_true rfl), (Nat.le_of_ble_eq_true rfl)⟩ (mr_recvS hR hE hz hS hA) hl.1 rfl (Nat.le_of_ble_eq_true rfl) dX8_day_16 ⟨(Nat.le_of_ble_eq_true rfl), (Nat.le_of_ble_eq_true rfl)⟩) hR hz hS hA (fun H locs hR hz hS => ?_)
    refine lv_if_eq (tgt := 41) hx hb dX8_day_19 (by decide) (fun hc => ?_) (fun hc => ?_)
    · have hrun := mt_t hrun hc
      exact k_X8_day_b41 hx hb hr hml hown hts hlocks hin hE hA _ _ _ _ _ hrun hR hz hS (lv_sub hl [0] rfl)
    · have hrun := mt_f hrun hc
      refine lv_iload_n hx hb dX8_day_22 rfl (lv_at hl 3 rfl) ?_
      refine lv_iconst (v := 0) hx hb dX8_day_23 (by decide) ?_
      refine lv_iconst (v := 3) hx hb dX8_day_24 (by decide) ?_
      obtain ⟨x25, hc9, hrun⟩ := m_bind hrun
      refine mr_calli (mr_runS (As := [.int v3, .int 0, .int 3]) (rest := []) hx hb hml hown hts (c_X8_in l D ids st z hc9) yk_X8_in ys_X8_in wm_3_87 ⟨(Nat.le_of_ble_eq_true rfl), (Nat.le_of_ble_eq_true rfl)⟩ (mr_recvS hR hE hz hS hA) hl.1 rfl (Nat.le_of_ble_eq_true rfl) dX8_day_25 ⟨(Nat.le_of_ble_eq_true rfl), (Nat.le_of_ble_eq_true rfl)⟩) hR hz hS hA (fun H locs hR hz hS => ?_)
      refine lv_if_eq (tgt := 41) hx hb dX8_day_28 (by decide) (fun hc => ?_) (fun hc => ?_)
      · have hrun := mt_t hrun hc
        exact k_X8_day_b41 hx hb hr hml hown hts hlocks hin hE hA _ _ _ _ _ hrun hR hz hS (lv_sub hl [0] rfl)
      · have hrun := mt_f hrun hc
        refine lv_aload_n hx hb dX8_day_31 rfl (lv_at hl 0 rfl) ?_
        refine lv_iload_n hx hb dX8_day_32 rfl (lv_at hl 1 rfl) ?_
        refine lv_iload_n hx hb dX8_day_33 rfl (lv_at hl 2 rfl) ?_
        refine lv_iload_n hx hb dX8_day_34 rfl (lv_at hl 3 rfl) ?_
        obtain ⟨_, ho9, hrun⟩ := m_bind hrun
        obtain ⟨fs9, ho9⟩ := m_is_spec ho9
        obtain ⟨⟨x35, h35⟩, hc9, hrun⟩ := m_bind hrun
        refine mr_calli (mr_runV (As := [.int v1, .int v2, .int v3]) (rest := []) hx hb hml hown hts (c_X8_ofDay l D ids st z hc9) yk_X8_ofDay ys_X8_ofDay wm_3_154 ⟨(Nat.le_of_ble_eq_true rfl), (Nat.le_of_ble_eq_true rfl)⟩ (mr_recv (ci := 6) hR hE hz hS hA rfl ho9) hl.1 rfl (Nat.le_of_ble_eq_true rfl) dX8_day_35 ⟨(Nat.le_of_ble_eq_true rfl), (Nat.le_of_ble_eq_true rfl)⟩) hR hz hS hA (fun H locs hR hz hS => ?_)
        refine lv_goto (tgt := 46) hx hb dX8_day_38 (by decide) ?_
        exact k_X8_day_b46 hx hb hr hml hown hts hlocks hin hE hA _ _ _ _ _ hrun hR hz hS (lv_sub hl [] rfl)
/-! X8_tellsWeek -/
abbrev rm_X8_tellsWeek : Room := { frames := 6, cells := 0, slots := 0, locals := 142 }
theorem yk_X8_tellsWeek : m_K yX8_tellsWeek cX8_tellsWeek 5 (some .int) 3 := ⟨wm_3_237, wm_0_10, by decide +kernel⟩
theorem ys_X8_tellsWeek : Cond.instanceMethod yX8_tellsWeek ∈ wT ∧ Cond.selects RX8 yX8_tellsWeek yX8_tellsWeek ∈ wT := ⟨wm_3_236, wp_2_15⟩
set_option maxRecDepth 100000 in
set_option maxHeartbeats 4000000 in
theorem k_X8_tellsWeek_b56 {p : Program} {l : Launch} {e : Env} {s : State} {m : MethodId} {args : Array Value} {below : List Frame} {meth : Method} {c : Code} {D : va_G} {ids : m_I3} {st : m_T} {A : Nat → Prop} {z : Nat} {r : Int32} {hF : mH} (hx : p.tables.exec = Jvm.exec) (hb : c.code = cX8_tellsWeek) (hr : meth.sig.returnType = some .int) (hml : c.maxLocals = 5) (hown : s.vm.findClass RX8 = some m.cls) (hts : ∀ w ∈ (m_ws yX8_tellsWeek cX8_tellsWeek 5 (some .int)), w.before args s = true) (hlocks : meth.locks = false) (hin : meth.name = yX8_tellsWeek.name) (hE : m_EV st A s s.heap) (hA : ∀ q, s.heap.size ≤ q → A q) (h : mH) (v0 : Nat) (v1 : Int32) (v2 : Int32) (v3 : Int32) (H : Heap) (locs : List Loc) (ls : Array Slot) (hrun : s_X8_tellsWeek_b56 h v0 v1 v2 v3 = some (r, hF)) (hR : Rl D ids A h s H) (hz : H.size = z) (hS : va_S A s.heap H locs) (hl : lv_has ls 5 [(0, .ref v0), (1, .int v1), (2, .int v2), (3, .int v3)]) : W p l e rm_X8_tellsWeek s m args below meth c H locs 0 0 (MQ below (mQi D ids A r hF z) args s 0 0 A) (F0 m 56 ls []) := by
  unfold s_X8_tellsWeek_b56 at hrun
  refine lv_aload_n hx hb dX8_tellsWeek_56 rfl (lv_at hl 0 rfl) ?_
  refine lv_iload_n hx hb dX8_tellsWeek_57 rfl (lv_at hl 1 rfl) ?_
  refine lv_iload_n hx hb dX8_tellsWeek_58 rfl (lv_at hl 2 rfl) ?_
  refine lv_iload_n hx hb dX8_tellsWeek_59 rfl (lv_at hl 3 rfl) ?_
  refine lv_iconst (v := 1) hx hb dX8_tellsWeek_60 (by decide) ?_
  refine lv_iadd hx hb dX8_tellsWeek_61 ?_
  obtain ⟨_, ho9, hrun⟩ := m_bind hrun
  obtain ⟨fs9, ho9⟩ := m_is_spec ho9
  obtain ⟨⟨x62, h62⟩, hc9, hrun⟩ := m_bind hrun
  refine mr_calli (mr_runV (As := [.int v1, .int v2, .int (v3 + 1)]) (rest := []) hx hb hml hown hts (c_X8_overDays l D ids st z hc9) yk_X8_overDays ys_X8_overDays wm_3_150 ⟨(Nat.le_of_ble_eq_true rfl), (Nat.le_of_ble_eq_true rfl)⟩ (mr_recv (ci := 6) hR hE hz hS hA rfl ho9) hl.1 rfl (Nat.le_of_ble_eq_true rfl) dX8_tellsWeek_62 ⟨(Nat.le_of_ble_eq_true rfl), (Nat.le_of_ble_eq_true rfl)⟩) hR hz hS hA (fun H locs hR hz hS => ?_)
  obtain ⟨rfl, rfl⟩ := Prod.mk.inj (Option.some.inj hrun)
  exact mr_iret hx hb hr hlocks hR hz hS dX8_tellsWeek_65
set_option maxRecDepth 100000 in
set_option maxHeartbeats 4000000 in
theorem c_X8_tellsWeek (l : Launch) (D : va_G) (ids : m_I3) (st : m_T) (z : Nat) {h : mH} {v0 : Nat} {v1 : Int32} {v2 : Int32} {v3 : Int32} {r : Int32} {hF : mH} (hrun : s_X8_tellsWeek h v0 v1 v2 v3 = some (r, hF)) : Met l yX8_tellsWeek (m_ws yX8_tellsWeek cX8_tellsWeek 5 (some .int)) rm_X8_tellsWeek (mPc D ids st [.ref v0, .int v1, .int v2, .int v3] h z) (mQi D ids (m_A h z) r hF z) rm_X8_tellsWeek.cells rm_X8_tellsWeek.slots (m_A h z) := by
  refine mr_of (cc := cX8_tellsWeek) (maxL := 5) (ret := some .int) (by decide) rfl (Nat.le_of_ble_eq_true rfl) ?_
  intro p e s m below meth c ls hx hb hr hml hown hts hlocks hin hR hE hz hl
  have hA : ∀ q, s.heap.size ≤ q → m_A h z q := fun q hq => Or.inr (by rw [← hz]; exact hq)
  have hS : va_S (m_A h z) s.heap s.heap [] := va_S.rf
  have hl : lv_has ls 5 [(0, .ref v0), (1, .int v1), (2, .int v2), (3, .int v3)] := hl
  unfold s_X8_tellsWeek at hrun
  refine lv_iconst (v := 4) hx hb dX8_tellsWeek_0 (by decide) ?_
  refine lv_iload_n hx hb dX8_tellsWeek_1 rfl (lv_at hl 1 rfl) ?_
  refine lv_imul hx hb dX8_tellsWeek_2 ?_
  refine lv_iload_n hx hb dX8_tellsWeek_3 rfl (lv_at hl 2 rfl) ?_
  refine lv_iadd hx hb dX8_tellsWeek_4 ?_
  refine lv_istore (lv' := [(4, .int ((4 * v1) + v2)), (0, .ref v0), (1, .int v1), (2, .int v2), (3, .int v3)]) hx hb dX8_tellsWeek_5 hl (by decide) rfl (fun ls hl => ?_)
  refine lv_iload_n hx hb dX8_tellsWeek_7 rfl (lv_at hl 4 rfl) ?_
  by_cases hc0 : v3 = 0
  · have hrun := mt_t hrun hc0
    refine lv_tableIn (tgt := 48) (off := 40) hx hb dX8_tellsWeek_8 (by rw [hc0]; decide) (by rw [hc0]; decide) (by rw [hc0]; rfl) (by decide) ?_
    refine lv_aload_n hx hb dX8_tellsWeek_48 rfl (lv_at hl 1 rfl) ?_
    refine lv_iload_n hx hb dX8_tellsWeek_49 rfl (lv_at hl 2 rfl) ?_
    refine lv_iload_n hx hb dX8_tellsWeek_50 rfl (lv_at hl 3 rfl) ?_
    refine lv_iconst (v := 0) hx hb dX8_tellsWeek_51 (by decide) ?_
    obtain ⟨_, ho9, hrun⟩ := m_bind hrun
    obtain ⟨fs9, ho9⟩ := m_is_spec ho9
    obtain ⟨⟨x52, h52⟩, hc9, hrun⟩ := m_bind hrun
    refine mr_calli (mr_runV (As := [.int v1, .int v2, .int 0]) (rest := []) hx hb hml hown hts (c_X8_overDays l D ids st z hc9) yk_X8_overDays ys_X8_overDays wm_3_150 ⟨(Nat.le_of_ble_eq_true rfl), (Nat.le_of_ble_eq_true rfl)⟩ (mr_recv (ci := 6) hR hE hz hS hA rfl ho9) hl.1 rfl (Nat.le_of_ble_eq_true rfl) dX8_tellsWeek_52 ⟨(Nat.le_of_ble_eq_true rfl), (Nat.le_of_ble_eq_true rfl)⟩) hR hz hS hA (fun H locs hR hz hS => ?_)
    obtain ⟨rfl, rfl⟩ := Prod.mk.inj (Option.some.inj hrun)
    exact mr_iret hx hb hr hlocks hR hz hS dX8_tellsWeek_55
  have hrun := mt_f hrun hc0
  have hn0 : ¬ (v3).toInt = 0 := lv_neT hc0 rfl
  by_cases hc1 : v3 = 1
  · have hrun := mt_t hrun hc1
    refine lv_tableIn (tgt := 56) (off := 48) hx hb dX8_tellsWeek_8 (by rw [hc1]; decide) (by rw [hc1]; decide) (by rw [hc1]; rfl) (by decide) ?_
    exact k_X8_tellsWeek_b56 hx hb hr hml hown hts hlocks hin hE hA _ _ _ _ _ _ _ _ hrun hR hz hS (lv_sub hl [1, 2, 3, 4] rfl)
  have hrun := mt_f hrun hc1
  have hn1 : ¬ (v3).toInt = 1 := lv_neT hc1 rfl
  by_cases hc2 : v3 = 2
  · have hrun := mt_t hrun hc2
    refine lv_tableIn (tgt := 56) (off := 48) hx hb dX8_tellsWeek_8 (by rw [hc2]; decide) (by rw [hc2]; decide) (by rw [hc2]; rfl) (by decide) ?_
    exact k_X8_tellsWeek_b56 hx hb hr hml hown hts hlocks hin hE hA _ _ _ _ _ _ _ _ hrun hR hz hS (lv_sub hl [1, 2, 3, 4] rfl)
  have hrun := mt_f hrun hc2
  have hn2 : ¬ (v3).toInt = 2 := lv_neT hc2 rfl
  by_cases hc3 : v3 = 3
  · have hrun := mt_t hrun hc3
    refine lv_tableIn (tgt := 66) (off := 58) hx hb dX8_tellsWeek_8 (by rw [hc3]; decide) (by rw [hc3]; decide) (by rw [hc3]; rfl) (by decide) ?_
    refine lv_aload_n hx hb dX8_tellsWeek_66 rfl (lv_at hl 1 rfl) ?_
    refine lv_iload_n hx hb dX8_tellsWeek_67 rfl (lv_at hl 2 rfl) ?_
    refine lv_iload_n hx hb dX8_tellsWeek_68 rfl (lv_at hl 3 rfl) ?_
    obtain ⟨_, ho9, hrun⟩ := m_bind hrun
    obtain ⟨fs9, ho9⟩ := m_is_spec ho9
    obtain ⟨⟨x69, h69⟩, hc9, hrun⟩ := m_bind hrun
    refine mr_calli (mr_runV (As := [.int v1, .int v2]) (rest := []) hx hb hml hown hts (c_X8_costs l D ids st z hc9) yk_X8_costs ys_X8_costs wm_3_146 ⟨(Nat.le_of_ble_eq_true rfl), (Nat.le_of_ble_eq_true rfl)⟩ (mr_recv (ci := 6) hR hE hz hS hA rfl ho9) hl.1 rfl (Nat.le_of_ble_eq_true rfl) dX8_tellsWeek_69 ⟨(Nat.le_of_ble_eq_true rfl), (Nat.le_of_ble_eq_true rfl)⟩) hR hz hS hA (fun H locs hR hz hS => ?_)
    obtain ⟨rfl, rfl⟩ := Prod.mk.inj (Option.some.inj hrun)
    exact mr_iret hx hb hr hlocks hR hz hS dX8_tellsWeek_72
  have hrun := mt_f hrun hc3
  have hn3 : ¬ (v3).toInt = 3 := lv_neT hc3 rfl
  by_cases hc4 : v3 = 4
  · have hrun := mt_t hrun hc4
    refine lv_tableIn (tgt := 73) (off := 65) hx hb dX8_tellsWeek_8 (by rw [hc4]; decide) (by rw [hc4]; decide) (by rw [hc4]; rfl) (by decide) ?_
    refine lv_aload_n hx hb dX8_tellsWeek_73 rfl (lv_at hl 1 rfl) ?_
    obtain ⟨x74, hc9, hrun⟩ := m_bind hrun
    refine mr_get (C := RX8) (T := TX8) (N := 13) (ci := 6) hx hb hts (fun w q => m_ws_in (wi_X8 w q)) hown hR rfl 1 (by decide) (hts _ (m_ws_in wm_3_34)) (fun _ h9 => h9) (m_gr_spec hc9) dX8_tellsWeek_74 ?_
    refine lv_sipush (v := 376) hx hb dX8_tellsWeek_77 (by decide) ?_
    refine lv_iload hx hb dX8_tellsWeek_80 (lv_at hl 0 rfl) ?_
    refine lv_iadd hx hb dX8_tellsWeek_82 ?_
    obtain ⟨x83, hc9, hrun⟩ := m_bind hrun
    refine mr_iald hx hb hR hc9 dX8_tellsWeek_83 ?_
    obtain ⟨rfl, rfl⟩ := Prod.mk.inj (Option.some.inj hrun)
    exact mr_iret hx hb hr hlocks hR hz hS dX8_tellsWeek_84
  have hrun := mt_f hrun hc4
  have hn4 : ¬ (v3).toInt = 4 := lv_neT hc4 rfl
  by_cases hc5 : v3 = 5
  · have hrun := mt_t hrun hc5
    refine lv_tableIn (tgt := 85) (off := 77) hx hb dX8_tellsWeek_8 (by rw [hc5]; decide) (by rw [hc5]; decide) (by rw [hc5]; rfl) (by decide) ?_
    refine lv_aload_n hx hb dX8_tellsWeek_85 rfl (lv_at hl 1 rfl) ?_
    obtain ⟨x86, hc9, hrun⟩ := m_bind hrun
    refine mr_get (C := RX8) (T := TX8) (N := 13) (ci := 6) hx hb hts (fun w q => m_ws_in (wi_X8 w q)) hown hR rfl 1 (by decide) (hts _ (m_ws_in wm_3_34)) (fun _ h9 => h9) (m_gr_spec hc9) dX8_tellsWeek_86 ?_
    refine lv_sipush (v := 392) hx hb dX8_tellsWeek_89 (by decide) ?_
    refine lv_iload hx hb dX8_tellsWeek_92 (lv_at hl 0 rfl) ?_
    refine lv_iadd hx hb dX8_tellsWeek_94 ?_
    obtain ⟨x95, hc9, hrun⟩ := m_bind hrun
    refine mr_iald hx hb hR hc9 dX8_tellsWeek_95 ?_
    obtain ⟨rfl, rfl⟩ := Prod.mk.inj (Option.some.inj hrun)
    exact mr_iret hx hb hr hlocks hR hz hS dX8_tellsWeek_96
  have hrun := mt_f hrun hc5
  have hn5 : ¬ (v3).toInt = 5 := lv_neT hc5 rfl
  refine lv_tableOut (tgt := 97) hx hb dX8_tellsWeek_8 (by omega) (by decide) ?_
  refine lv_aload_n hx hb dX8_tellsWeek_97 rfl (lv_at hl 1 rfl) ?_
  obtain ⟨x98, hc9, hrun⟩ := m_bind hrun
  refine mr_get (C := RX8) (T := TX8) (N := 13) (ci := 6) hx hb hts (fun w q => m_ws_in (wi_X8 w q)) hown hR rfl 1 (by decide) (hts _ (m_ws_in wm_3_34)) (fun _ h9 => h9) (m_gr_spec hc9) dX8_tellsWeek_98 ?_
  refine lv_sipush (v := 408) hx hb dX8_tellsWeek_101 (by decide) ?_
  refine lv_iload hx hb dX8_tellsWeek_104 (lv_at hl 0 rfl) ?_
  refine lv_iadd hx hb dX8_tellsWeek_106 ?_
  obtain ⟨x107, hc9, hrun⟩ := m_bind hrun
  refine mr_iald hx hb hR hc9 dX8_tellsWeek_107 ?_
  obtain ⟨rfl, rfl⟩ := Prod.mk.inj (Option.some.inj hrun)
  exact mr_iret hx hb hr hlocks hR hz hS dX8_tellsWeek_108
/-! X8_week -/
abbrev rm_X8_week : Room := { frames := 7, cells := 0, slots := 0, locals := 166 }
theorem yk_X8_week : m_K yX8_week cX8_week 4 (some .int) 3 := ⟨wm_3_233, wm_0_10, by decide +kernel⟩
theorem ys_X8_week : Cond.instanceMethod yX8_week ∈ wT ∧ Cond.selects RX8 yX8_week yX8_week ∈ wT := ⟨wm_3_231, wm_3_232⟩
set_option maxRecDepth 100000 in
set_option maxHeartbeats 4000000 in
theorem k_X8_week_b46 {p : Program} {l : Launch} {e : Env} {s : State} {m : MethodId} {args : Array Value} {below : List Frame} {meth : Method} {c : Code} {D : va_G} {ids : m_I3} {st : m_T} {A : Nat → Prop} {z : Nat} {r : Int32} {hF : mH} (hx : p.tables.exec = Jvm.exec) (hb : c.code = cX8_week) (hr : meth.sig.returnType = some .int) (hml : c.maxLocals = 4) (hown : s.vm.findClass RX8 = some m.cls) (hts : ∀ w ∈ (m_ws yX8_week cX8_week 4 (some .int)), w.before args s = true) (hlocks : meth.locks = false) (hin : meth.name = yX8_week.name) (hE : m_EV st A s s.heap) (hA : ∀ q, s.heap.size ≤ q → A q) (h : mH) (t0 : Int32) (H : Heap) (locs : List Loc) (ls : Array Slot) (hrun : s_X8_week_b46 h t0 = some (r, hF)) (hR : Rl D ids A h s H) (hz : H.size = z) (hS : va_S A s.heap H locs) (hl : lv_has ls 4 []) : W p l e rm_X8_week s m args below meth c H locs 0 0 (MQ below (mQi D ids A r hF z) args s 0 0 A) (F0 m 46 ls [.int t0]) := by
  unfold s_X8_week_b46 at hrun
  obtain ⟨rfl, rfl⟩ := Prod.mk.inj (Option.some.inj hrun)
  exact mr_iret hx hb hr hlocks hR hz hS dX8_week_46
set_option maxRecDepth 100000 in
set_option maxHeartbeats 4000000 in
theorem k_X8_week_b41 {p : Program} {l : Launch} {e : Env} {s : State} {m : MethodId} {args : Array Value} {below : List Frame} {meth : Method} {c : Code} {D : va_G} {ids : m_I3} {st : m_T} {A : Nat → Prop} {z : Nat} {r : Int32} {hF : mH} (hx : p.tables.exec = Jvm.exec) (hb : c.code = cX8_week) (hr : meth.sig.returnType = some .int) (hml : c.maxLocals = 4) (hown : s.vm.findClass RX8 = some m.cls) (hts : ∀ w ∈ (m_ws yX8_week cX8_week 4 (some .int)), w.before args s = true) (hlocks : meth.locks = false) (hin : meth.name = yX8_week.name) (hE : m_EV st A s s.heap) (hA : ∀ q, s.heap.size ≤ q → A q) (h : mH) (v0 : Nat) (H : Heap) (locs : List Loc) (ls : Array Slot) (hrun : s_X8_week_b41 h v0 = some (r, hF)) (hR : Rl D ids A h s H) (hz : H.size = z) (hS : va_S A s.heap H locs) (hl : lv_has ls 4 [(0, .ref v0)]) : W p l e rm_X8_week s m args below meth c H locs 0 0 (MQ below (mQi D ids A r hF z) args s 0 0 A) (F0 m 41 ls []) := by
  unfold s_X8_week_b41 at hrun
  refine lv_aload_n hx hb dX8_week_41 rfl (lv_at hl 0 rfl) ?_
  refine lv_iconst (v := 1) hx hb dX8_week_42 (by decide) ?_
  obtain ⟨_, ho9, hrun⟩ := m_bind hrun
  obtain ⟨fs9, ho9⟩ := m_is_spec ho9
  obtain ⟨⟨x43, h43⟩, hc9, hrun⟩ := m_bind hrun
  refine mr_calli (mr_runV (As := [.int 1]) (rest := []) hx hb hml hown hts (c_X8_fails l D ids st z hc9) yk_X8_fails ys_X8_fails wm_3_90 ⟨(Nat.le_of_ble_eq_true rfl), (Nat.le_of_ble_eq_true rfl)⟩ (mr_recv (ci := 6) hR hE hz hS hA rfl ho9) hl.1 rfl (Nat.le_of_ble_eq_true rfl) dX8_week_43 ⟨(Nat.le_of_ble_eq_true rfl), (Nat.le_of_ble_eq_true rfl)⟩) hR hz hS hA (fun H locs hR hz hS => ?_)
  exact k_X8_week_b46 hx hb hr hml hown hts hlocks hin hE hA _ _ _ _ _ hrun hR hz hS (lv_sub hl [] rfl)
set_option maxRecDepth 100000 in
set_option maxHeartbeats 4000000 in
theorem c_X8_week (l : Launch) (D : va_G) (ids : m_I3) (st : m_T) (z : Nat) {h : mH} {v0 : Nat} {v1 : Int32} {v2 : Int32} {v3 : Int32} {r : Int32} {hF : mH} (hrun : s_X8_week h v0 v1 v2 v3 = some (r, hF)) : Met l yX8_week (m_ws yX8_week cX8_week 4 (some .int)) rm_X8_week (mPc D ids st [.ref v0, .int v1, .int v2, .int v3] h z) (mQi D ids (m_A h z) r hF z) rm_X8_week.cells rm_X8_week.slots (m_A h z) := by
  refine mr_of (cc := cX8_week) (maxL := 4) (ret := some .int) (by decide) rfl (Nat.le_of_ble_eq_true rfl) ?_
  intro p e s m below meth c ls hx hb hr hml hown hts hlocks hin hR hE hz hl
  have hA : ∀ q, s.heap.size ≤ q → m_A h z q := fun q hq => Or.inr (by rw [← hz]; exact hq)
  have hS : va_S (m_A h z) s.heap s.heap [] := va_S.rf
  have hl : lv_has ls 4 [(0, .ref v0), (1, .int v1), (2, .int v2), (3, .int v3)] := hl
  unfold s_X8_week at hrun
  refine lv_aload_n hx hb dX8_week_0 rfl (lv_at hl 0 rfl) ?_
  refine lv_iconst (v := 0) hx hb dX8_week_1 (by decide) ?_
  obtain ⟨h2, hc9, hrun⟩ := m_bind hrun
  refine mr_put (C := RX8) (T := TX8) (N := 13) (ci := 6) hx hb hts (fun w q => m_ws_in (wi_X8 w q)) tyX8 tyX8_ok nmX8 hown hR hz hS rfl 0 (by decide) (hts _ (m_ws_in wm_3_33)) (fun _ h9 => h9) rfl (tyX8_ok 0 (by decide)) rfl rfl hc9 dX8_week_2 (fun H locs hR hz hS => ?_)
  refine lv_iload_n hx hb dX8_week_5 rfl (lv_at hl 1 rfl) ?_
  obtain ⟨x6, hc9, hrun⟩ := m_bind hrun
  refine mr_calli (mr_runS (As := [.int v1]) (rest := []) hx hb hml hown hts (c_X8_isWallet l D ids st z hc9) yk_X8_isWallet ys_X8_isWallet wm_3_84 ⟨(Nat.le_of_ble_eq_true rfl), (Nat.le_of_ble_eq_true rfl)⟩ (mr_recvS hR hE hz hS hA) hl.1 rfl (Nat.le_of_ble_eq_true rfl) dX8_week_6 ⟨(Nat.le_of_ble_eq_true rfl), (Nat.le_of_ble_eq_true rfl)⟩) hR hz hS hA (fun H locs hR hz hS => ?_)
  refine lv_if_eq (tgt := 41) hx hb dX8_week_9 (by decide) (fun hc => ?_) (fun hc => ?_)
  · have hrun := mt_t hrun hc
    exact k_X8_week_b41 hx hb hr hml hown hts hlocks hin hE hA _ _ _ _ _ hrun hR hz hS (lv_sub hl [0] rfl)
  · have hrun := mt_f hrun hc
    refine lv_iload_n hx hb dX8_week_12 rfl (lv_at hl 2 rfl) ?_
    refine lv_iconst (v := 0) hx hb dX8_week_13 (by decide) ?_
    refine lv_iconst (v := 3) hx hb dX8_week_14 (by decide) ?_
    obtain ⟨x15, hc9, hrun⟩ := m_bind hrun
    refine mr_calli (mr_runS (As := [.int v2, .int 0, .int 3]) (rest := []) hx hb hml hown hts (c_X8_in l D ids st z hc9) yk_X8_in ys_X8_in wm_3_87 ⟨(Nat.le_of_ble_eq_true rfl), (Nat.le_of_ble_eq_true rfl)⟩ (mr_recvS hR hE hz hS hA) hl.1 rfl (Nat.le_of_ble_eq_true rfl) dX8_week_15 ⟨(Nat.le_of_ble_eq_true rfl), (Nat.le_of_ble_eq_true rfl)⟩) hR hz hS hA (fun H locs hR hz hS => ?_)
    refine lv_if_eq (tgt := 41) hx hb dX8_week_18 (by decide) (fun hc => ?_) (fun hc => ?_)
    · have hrun := mt_t hrun hc
      exact k_X8_week_b41 hx hb hr hml hown hts hlocks hin hE hA _ _ _ _ _ hrun hR hz hS (lv_sub hl [0] rfl)
    · have hrun := mt_f hrun hc
      refine lv_iload_n hx hb dX8_week_21 rfl (lv_at hl 3 rfl) ?_
      refine lv_iconst (v := 0) hx hb dX8_week_22 (by decide) ?_
      refine lv_bipush (v := 6) hx hb dX8_week_23 (by decide) ?_
      obtain ⟨x25, hc9, hrun⟩ := m_bind hrun
      refine mr_calli (mr_runS (As := [.int v3, .int 0, .int 6]) (rest := []) hx hb hml hown hts (c_X8_in l D ids st z hc9) yk_X8_in ys_X8_in wm_3_87 ⟨(Nat.le_of_ble_eq_true rfl), (Nat.le_of_ble_eq_true rfl)⟩ (mr_recvS hR hE hz hS hA) hl.1 rfl (Nat.le_of_ble_eq_true rfl) dX8_week_25 ⟨(Nat.le_of_ble_eq_true rfl), (Nat.le_of_ble_eq_true rfl)⟩) hR hz hS hA (fun H locs hR hz hS => ?_)
      refine lv_if_eq (tgt := 41) hx hb dX8_week_28 (by decide) (fun hc => ?_) (fun hc => ?_)
      · have hrun := mt_t hrun hc
        exact k_X8_week_b41 hx hb hr hml hown hts hlocks hin hE hA _ _ _ _ _ hrun hR hz hS (lv_sub hl [0] rfl)
      · have hrun := mt_f hrun hc
        refine lv_aload_n hx hb dX8_week_31 rfl (lv_at hl 0 rfl) ?_
        refine lv_iload_n hx hb dX8_week_32 rfl (lv_at hl 1 rfl) ?_
        refine lv_iload_n hx hb dX8_week_33 rfl (lv_at hl 2 rfl) ?_
        refine lv_iload_n hx hb dX8_week_34 rfl (lv_at hl 3 rfl) ?_
        obtain ⟨_, ho9, hrun⟩ := m_bind hrun
        obtain ⟨fs9, ho9⟩ := m_is_spec ho9
        obtain ⟨⟨x35, h35⟩, hc9, hrun⟩ := m_bind hrun
        refine mr_calli (mr_runV (As := [.int v1, .int v2, .int v3]) (rest := []) hx hb hml hown hts (c_X8_tellsWeek l D ids st z hc9) yk_X8_tellsWeek ys_X8_tellsWeek wm_3_234 ⟨(Nat.le_of_ble_eq_true rfl), (Nat.le_of_ble_eq_true rfl)⟩ (mr_recv (ci := 6) hR hE hz hS hA rfl ho9) hl.1 rfl (Nat.le_of_ble_eq_true rfl) dX8_week_35 ⟨(Nat.le_of_ble_eq_true rfl), (Nat.le_of_ble_eq_true rfl)⟩) hR hz hS hA (fun H locs hR hz hS => ?_)
        refine lv_goto (tgt := 46) hx hb dX8_week_38 (by decide) ?_
        exact k_X8_week_b46 hx hb hr hml hown hts hlocks hin hE hA _ _ _ _ _ hrun hR hz hS (lv_sub hl [] rfl)
/-! X8_overWeeks -/
abbrev rm_X8_overWeeks : Room := { frames := 7, cells := 0, slots := 0, locals := 166 }
theorem yk_X8_overWeeks : m_K yX8_overWeeks cX8_overWeeks 4 (some .int) 1 := ⟨wm_4_9, wm_0_10, by decide +kernel⟩
theorem ys_X8_overWeeks : Cond.instanceMethod yX8_overWeeks ∈ wT ∧ Cond.selects RX8 yX8_overWeeks yX8_overWeeks ∈ wT := ⟨wm_4_8, wp_3_1⟩
set_option maxRecDepth 100000 in
set_option maxHeartbeats 4000000 in
theorem k_X8_overWeeks_L4 {p : Program} {l : Launch} {e : Env} {s : State} {m : MethodId} {args : Array Value} {below : List Frame} {meth : Method} {c : Code} {D : va_G} {ids : m_I3} {st : m_T} {A : Nat → Prop} {z : Nat} {r : Int32} {hF : mH} (hx : p.tables.exec = Jvm.exec) (hb : c.code = cX8_overWeeks) (hr : meth.sig.returnType = some .int) (hml : c.maxLocals = 4) (hown : s.vm.findClass RX8 = some m.cls) (hts : ∀ w ∈ (m_ws yX8_overWeeks cX8_overWeeks 4 (some .int)), w.before args s = true) (hlocks : meth.locks = false) (hin : meth.name = yX8_overWeeks.name) (hE : m_EV st A s s.heap) (hA : ∀ q, s.heap.size ≤ q → A q) : ∀ (n : Nat) (h : mH) (v0 : Nat) (v1 : Int32) (v2 : Int32) (v3 : Int32) (H : Heap) (locs : List Loc) (ls : Array Slot), s_X8_overWeeks_L4 n h v0 v1 v2 v3 = some (r, hF) → Rl D ids A h s H → H.size = z → va_S A s.heap H locs → lv_has ls 4 [(0, .ref v0), (1, .int v1), (2, .int v2), (3, .int v3)] → W p l e rm_X8_overWeeks s m args below meth c H locs 0 0 (MQ below (mQi D ids A r hF z) args s 0 0 A) (F0 m 4 ls []) := by
  intro n
  induction n with
  | zero => intro h v0 v1 v2 v3 H locs ls hrun; exact absurd hrun (by intro h9; cases h9)
  | succ n ih =>
    intro h v0 v1 v2 v3 H locs ls hrun hR hz hS hl
    rw [s_X8_overWeeks_L4] at hrun
    refine lv_iload_n hx hb dX8_overWeeks_4 rfl (lv_at hl 3 rfl) ?_
    refine lv_bipush (v := 16) hx hb dX8_overWeeks_5 (by decide) ?_
    refine lv_icmp_ge (tgt := 30) hx hb dX8_overWeeks_7 (by decide) (fun hc => ?_) (fun hc => ?_)
    · have hrun := mt_t hrun hc
      refine lv_iload_n hx hb dX8_overWeeks_30 rfl (lv_at hl 2 rfl) ?_
      obtain ⟨rfl, rfl⟩ := Prod.mk.inj (Option.some.inj hrun)
      exact mr_iret hx hb hr hlocks hR hz hS dX8_overWeeks_31
    · have hrun := mt_f hrun hc
      refine lv_iload_n hx hb dX8_overWeeks_10 rfl (lv_at hl 2 rfl) ?_
      refine lv_aload_n hx hb dX8_overWeeks_11 rfl (lv_at hl 0 rfl) ?_
      refine lv_iload_n hx hb dX8_overWeeks_12 rfl (lv_at hl 3 rfl) ?_
      refine lv_iconst (v := 4) hx hb dX8_overWeeks_13 (by decide) ?_
      obtain ⟨x14, hc9, hrun⟩ := m_bind hrun
      obtain ⟨hn9, rfl⟩ := m_div_spec hc9
      refine lv_idiv hx hb dX8_overWeeks_14 hn9 ?_
      refine lv_topi (fun x14 ex14 => ?_)
      try rw [← ex14] at hrun
      refine lv_iload_n hx hb dX8_overWeeks_15 rfl (lv_at hl 3 rfl) ?_
      refine lv_iconst (v := 4) hx hb dX8_overWeeks_16 (by decide) ?_
      obtain ⟨x17, hc9, hrun⟩ := m_bind hrun
      obtain ⟨hn9, rfl⟩ := m_rem_spec hc9
      refine lv_irem hx hb dX8_overWeeks_17 hn9 ?_
      refine lv_topi (fun x17 ex17 => ?_)
      try rw [← ex17] at hrun
      refine lv_iload_n hx hb dX8_overWeeks_18 rfl (lv_at hl 1 rfl) ?_
      obtain ⟨_, ho9, hrun⟩ := m_bind hrun
      obtain ⟨fs9, ho9⟩ := m_is_spec ho9
      obtain ⟨⟨x19, h19⟩, hc9, hrun⟩ := m_bind hrun
      refine mr_calli (mr_runV (As := [.int x14, .int x17, .int v1]) (rest := [.int v2]) hx hb hml hown hts (c_X8_tellsWeek l D ids st z hc9) yk_X8_tellsWeek ys_X8_tellsWeek wm_3_234 ⟨(Nat.le_of_ble_eq_true rfl), (Nat.le_of_ble_eq_true rfl)⟩ (mr_recv (ci := 6) hR hE hz hS hA rfl ho9) hl.1 rfl (Nat.le_of_ble_eq_true rfl) dX8_overWeeks_19 ⟨(Nat.le_of_ble_eq_true rfl), (Nat.le_of_ble_eq_true rfl)⟩) hR hz hS hA (fun H locs hR hz hS => ?_)
      refine lv_iadd hx hb dX8_overWeeks_22 ?_
      refine lv_istore_n (lv' := [(2, .int (v2 + x19)), (0, .ref v0), (1, .int v1), (3, .int v3)]) hx hb dX8_overWeeks_23 rfl hl (by decide) rfl (fun ls hl => ?_)
      refine lv_iinc (v := v3 + 1) (lv' := [(3, .int (v3 + 1)), (2, .int (v2 + x19)), (0, .ref v0), (1, .int v1)]) hx hb dX8_overWeeks_24 hl (k := 3) rfl rfl (by decide) rfl (fun ls hl => ?_)
      refine lv_goto (tgt := 4) hx hb dX8_overWeeks_27 (by decide) ?_
      exact ih _ _ _ _ _ _ _ _ hrun hR hz hS (lv_sub hl [2, 3, 1, 0] rfl)
set_option maxRecDepth 100000 in
set_option maxHeartbeats 4000000 in
theorem c_X8_overWeeks (l : Launch) (D : va_G) (ids : m_I3) (st : m_T) (z : Nat) {h : mH} {v0 : Nat} {v1 : Int32} {r : Int32} {hF : mH} (hrun : s_X8_overWeeks h v0 v1 = some (r, hF)) : Met l yX8_overWeeks (m_ws yX8_overWeeks cX8_overWeeks 4 (some .int)) rm_X8_overWeeks (mPc D ids st [.ref v0, .int v1] h z) (mQi D ids (m_A h z) r hF z) rm_X8_overWeeks.cells rm_X8_overWeeks.slots (m_A h z) := by
  refine mr_of (cc := cX8_overWeeks) (maxL := 4) (ret := some .int) (by decide) rfl (Nat.le_of_ble_eq_true rfl) ?_
  intro p e s m below meth c ls hx hb hr hml hown hts hlocks hin hR hE hz hl
  have hA : ∀ q, s.heap.size ≤ q → m_A h z q := fun q hq => Or.inr (by rw [← hz]; exact hq)
  have hS : va_S (m_A h z) s.heap s.heap [] := va_S.rf
  have hl : lv_has ls 4 [(0, .ref v0), (1, .int v1)] := hl
  unfold s_X8_overWeeks at hrun
  refine lv_iconst (v := 0) hx hb dX8_overWeeks_0 (by decide) ?_
  refine lv_istore_n (lv' := [(2, .int 0), (0, .ref v0), (1, .int v1)]) hx hb dX8_overWeeks_1 rfl hl (by decide) rfl (fun ls hl => ?_)
  refine lv_iconst (v := 0) hx hb dX8_overWeeks_2 (by decide) ?_
  refine lv_istore_n (lv' := [(3, .int 0), (2, .int 0), (0, .ref v0), (1, .int v1)]) hx hb dX8_overWeeks_3 rfl hl (by decide) rfl (fun ls hl => ?_)
  exact k_X8_overWeeks_L4 hx hb hr hml hown hts hlocks hin hE hA _ _ _ _ _ _ _ _ _ hrun hR hz hS (lv_sub hl [2, 3, 1, 0] rfl)
/-! X8_alone -/
abbrev rm_X8_alone : Room := { frames := 3, cells := 0, slots := 0, locals := 67 }
theorem yk_X8_alone : m_K yX8_alone cX8_alone 3 (some .int) 0 := ⟨wm_4_13, wm_0_10, by decide +kernel⟩
theorem ys_X8_alone : Cond.instanceMethod yX8_alone ∈ wT ∧ Cond.selects RX8 yX8_alone yX8_alone ∈ wT := ⟨wm_4_12, wp_3_2⟩
set_option maxRecDepth 100000 in
set_option maxHeartbeats 4000000 in
theorem k_X8_alone_b35 {p : Program} {l : Launch} {e : Env} {s : State} {m : MethodId} {args : Array Value} {below : List Frame} {meth : Method} {c : Code} {D : va_G} {ids : m_I3} {st : m_T} {A : Nat → Prop} {z : Nat} {r : Int32} {hF : mH} (hx : p.tables.exec = Jvm.exec) (hb : c.code = cX8_alone) (hr : meth.sig.returnType = some .int) (hml : c.maxLocals = 3) (hown : s.vm.findClass RX8 = some m.cls) (hts : ∀ w ∈ (m_ws yX8_alone cX8_alone 3 (some .int)), w.before args s = true) (hlocks : meth.locks = false) (hin : meth.name = yX8_alone.name) (hE : m_EV st A s s.heap) (hA : ∀ q, s.heap.size ≤ q → A q) {k8 : mH → Nat → Int32 → Int32 → Option (Int32 × mH)} (hk8 : ∀ (h : mH) (v0 : Nat) (v1 : Int32) (v2 : Int32) (H : Heap) (locs : List Loc) (ls : Array Slot), k8 h v0 v1 v2 = some (r, hF) → Rl D ids A h s H → H.size = z → va_S A s.heap H locs → lv_has ls 3 [(0, .ref v0), (1, .int v1), (2, .int v2)] → W p l e rm_X8_alone s m args below meth c H locs 0 0 (MQ below (mQi D ids A r hF z) args s 0 0 A) (F0 m 8 ls [])) (h : mH) (v0 : Nat) (v2 : Int32) (t0 : Int32) (t1 : Int32) (H : Heap) (locs : List Loc) (ls : Array Slot) (hrun : s_X8_alone_b35 k8 h v0 v2 t0 t1 = some (r, hF)) (hR : Rl D ids A h s H) (hz : H.size = z) (hS : va_S A s.heap H locs) (hl : lv_has ls 3 [(0, .ref v0), (2, .int v2)]) : W p l e rm_X8_alone s m args below meth c H locs 0 0 (MQ below (mQi D ids A r hF z) args s 0 0 A) (F0 m 35 ls [.int t1, .int t0]) := by
  unfold s_X8_alone_b35 at hrun
  refine lv_iadd hx hb dX8_alone_35 ?_
  refine lv_istore_n (lv' := [(1, .int (t0 + t1)), (0, .ref v0), (2, .int v2)]) hx hb dX8_alone_36 rfl hl (by decide) rfl (fun ls hl => ?_)
  refine lv_iinc (v := v2 + 1) (lv' := [(2, .int (v2 + 1)), (1, .int (t0 + t1)), (0, .ref v0)]) hx hb dX8_alone_37 hl (k := 2) rfl rfl (by decide) rfl (fun ls hl => ?_)
  refine lv_goto (tgt := 8) hx hb dX8_alone_40 (by decide) ?_
  exact hk8 _ _ _ _ _ _ _ hrun hR hz hS (lv_sub hl [2, 1, 0] rfl)
set_option maxRecDepth 100000 in
set_option maxHeartbeats 4000000 in
theorem k_X8_alone_L8 {p : Program} {l : Launch} {e : Env} {s : State} {m : MethodId} {args : Array Value} {below : List Frame} {meth : Method} {c : Code} {D : va_G} {ids : m_I3} {st : m_T} {A : Nat → Prop} {z : Nat} {r : Int32} {hF : mH} (hx : p.tables.exec = Jvm.exec) (hb : c.code = cX8_alone) (hr : meth.sig.returnType = some .int) (hml : c.maxLocals = 3) (hown : s.vm.findClass RX8 = some m.cls) (hts : ∀ w ∈ (m_ws yX8_alone cX8_alone 3 (some .int)), w.before args s = true) (hlocks : meth.locks = false) (hin : meth.name = yX8_alone.name) (hE : m_EV st A s s.heap) (hA : ∀ q, s.heap.size ≤ q → A q) : ∀ (n : Nat) (h : mH) (v0 : Nat) (v1 : Int32) (v2 : Int32) (H : Heap) (locs : List Loc) (ls : Array Slot), s_X8_alone_L8 n h v0 v1 v2 = some (r, hF) → Rl D ids A h s H → H.size = z → va_S A s.heap H locs → lv_has ls 3 [(0, .ref v0), (1, .int v1), (2, .int v2)] → W p l e rm_X8_alone s m args below meth c H locs 0 0 (MQ below (mQi D ids A r hF z) args s 0 0 A) (F0 m 8 ls []) := by
  intro n
  induction n with
  | zero => intro h v0 v1 v2 H locs ls hrun; exact absurd hrun (by intro h9; cases h9)
  | succ n ih =>
    intro h v0 v1 v2 H locs ls hrun hR hz hS hl
    rw [s_X8_alone_L8] at hrun
    refine lv_iload_n hx hb dX8_alone_8 rfl (lv_at hl 2 rfl) ?_
    refine lv_aload_n hx hb dX8_alone_9 rfl (lv_at hl 0 rfl) ?_
    obtain ⟨x10, hc9, hrun⟩ := m_bind hrun
    refine mr_get (C := RX8) (T := TX8) (N := 13) (ci := 6) hx hb hts (fun w q => m_ws_in (wi_X8 w q)) hown hR rfl 1 (by decide) (hts _ (m_ws_in wm_3_34)) (fun _ h9 => h9) (m_gr_spec hc9) dX8_alone_10 ?_
    refine lv_bipush (v := 9) hx hb dX8_alone_13 (by decide) ?_
    obtain ⟨x15, hc9, hrun⟩ := m_bind hrun
    refine mr_iald hx hb hR hc9 dX8_alone_15 ?_
    refine lv_icmp_ge (tgt := 43) hx hb dX8_alone_16 (by decide) (fun hc => ?_) (fun hc => ?_)
    · have hrun := mt_t hrun hc
      refine lv_iload_n hx hb dX8_alone_43 rfl (lv_at hl 1 rfl) ?_
      obtain ⟨rfl, rfl⟩ := Prod.mk.inj (Option.some.inj hrun)
      exact mr_iret hx hb hr hlocks hR hz hS dX8_alone_44
    · have hrun := mt_f hrun hc
      refine lv_iload_n hx hb dX8_alone_19 rfl (lv_at hl 1 rfl) ?_
      refine lv_aload_n hx hb dX8_alone_20 rfl (lv_at hl 0 rfl) ?_
      obtain ⟨x21, hc9, hrun⟩ := m_bind hrun
      refine mr_get (C := RX8) (T := TX8) (N := 13) (ci := 6) hx hb hts (fun w q => m_ws_in (wi_X8 w q)) hown hR rfl 7 (by decide) (hts _ (m_ws_in wm_3_40)) (fun _ h9 => h9) (m_gr_spec hc9) dX8_alone_21 ?_
      refine lv_iload_n hx hb dX8_alone_24 rfl (lv_at hl 2 rfl) ?_
      obtain ⟨x25, hc9, hrun⟩ := m_bind hrun
      refine mr_iald hx hb hR hc9 dX8_alone_25 ?_
      refine lv_iconst (v := (-1)) hx hb dX8_alone_26 (by decide) ?_
      refine lv_icmp_ne (tgt := 34) hx hb dX8_alone_27 (by decide) (fun hc => ?_) (fun hc => ?_)
      · have hrun := mt_f hrun hc
        refine lv_iconst (v := 0) hx hb dX8_alone_34 (by decide) ?_
        exact k_X8_alone_b35 hx hb hr hml hown hts hlocks hin hE hA ih _ _ _ _ _ _ _ _ hrun hR hz hS (lv_sub hl [0, 2] rfl)
      · have hrun := mt_t hrun hc
        refine lv_iconst (v := 1) hx hb dX8_alone_30 (by decide) ?_
        refine lv_goto (tgt := 35) hx hb dX8_alone_31 (by decide) ?_
        exact k_X8_alone_b35 hx hb hr hml hown hts hlocks hin hE hA ih _ _ _ _ _ _ _ _ hrun hR hz hS (lv_sub hl [0, 2] rfl)
set_option maxRecDepth 100000 in
set_option maxHeartbeats 4000000 in
theorem c_X8_alone (l : Launch) (D : va_G) (ids : m_I3) (st : m_T) (z : Nat) {h : mH} {v0 : Nat} {r : Int32} {hF : mH} (hrun : s_X8_alone h v0 = some (r, hF)) : Met l yX8_alone (m_ws yX8_alone cX8_alone 3 (some .int)) rm_X8_alone (mPc D ids st [.ref v0] h z) (mQi D ids (m_A h z) r hF z) rm_X8_alone.cells rm_X8_alone.slots (m_A h z) := by
  refine mr_of (cc := cX8_alone) (maxL := 3) (ret := some .int) (by decide) rfl (Nat.le_of_ble_eq_true rfl) ?_
  intro p e s m below meth c ls hx hb hr hml hown hts hlocks hin hR hE hz hl
  have hA : ∀ q, s.heap.size ≤ q → m_A h z q := fun q hq => Or.inr (by rw [← hz]; exact hq)
  have hS : va_S (m_A h z) s.heap s.heap [] := va_S.rf
  have hl : lv_has ls 3 [(0, .ref v0)] := hl
  unfold s_X8_alone at hrun
  refine lv_aload_n hx hb dX8_alone_0 rfl (lv_at hl 0 rfl) ?_
  obtain ⟨_, ho9, hrun⟩ := m_bind hrun
  obtain ⟨fs9, ho9⟩ := m_is_spec ho9
  obtain ⟨h1, hc9, hrun⟩ := m_bind hrun
  refine mr_callv (mr_runV (As := []) (rest := []) hx hb hml hown hts (c_X8_laysRides l D ids st z hc9) yk_X8_laysRides ys_X8_laysRides wm_3_130 ⟨(Nat.le_of_ble_eq_true rfl), (Nat.le_of_ble_eq_true rfl)⟩ (mr_recv (ci := 6) hR hE hz hS hA rfl ho9) hl.1 rfl (Nat.le_of_ble_eq_true rfl) dX8_alone_1 ⟨(Nat.le_of_ble_eq_true rfl), (Nat.le_of_ble_eq_true rfl)⟩) hR hz hS hA (fun H locs hR hz hS => ?_)
  refine lv_iconst (v := 0) hx hb dX8_alone_4 (by decide) ?_
  refine lv_istore_n (lv' := [(1, .int 0), (0, .ref v0)]) hx hb dX8_alone_5 rfl hl (by decide) rfl (fun ls hl => ?_)
  refine lv_iconst (v := 0) hx hb dX8_alone_6 (by decide) ?_
  refine lv_istore_n (lv' := [(2, .int 0), (1, .int 0), (0, .ref v0)]) hx hb dX8_alone_7 rfl hl (by decide) rfl (fun ls hl => ?_)
  exact k_X8_alone_L8 hx hb hr hml hown hts hlocks hin hE hA _ _ _ _ _ _ _ _ hrun hR hz hS (lv_sub hl [2, 1, 0] rfl)
