/-! the machine does it: laid by program -/
/-! L_law -/
set_option maxRecDepth 100000 in
set_option maxHeartbeats 8000000 in
theorem k_L_law_b1335 {p : Program} {l : Launch} {e : Env} {s : State} {m : MethodId} {args : Array Value} {below : List Frame} {meth : Method} {c : Code} {D : va_G} {ids : m_I3} {st : m_T} {Q : State → Prop} {k23 : mH → Nat → Nat → Nat → Nat → Int32 → Option Int32} {kc ks KC KS : Nat} (hx : p.tables.exec = Jvm.exec) (hb : c.code = cL_law) (hml : c.maxLocals = 9) (hown : s.vm.findClass RL = some m.cls) (hts : ∀ w ∈ (m_ws yX1_at cX1_at 2 (some .int)), w.before args s = true) (hE : m_EV st (fun q : Nat => s.heap.size ≤ q) s s.heap) (hA : ∀ q, s.heap.size ≤ q → (fun q : Nat => s.heap.size ≤ q) q) (hfl : l.stackTraces = false) (hend : ∀ (H : Heap) (ls : Array Slot), W p l e room_1 s m args below meth c H [] 601024 7293034 Q (F0 m 1342 ls [.int 1])) (hKC : KC ≤ 600000) (hKS : KS ≤ 7000000) (hkc : kc ≤ KC) (hks : ks ≤ KS) (hk23 : ∀ (h : mH) (v0 : Nat) (v1 : Nat) (v2 : Nat) (v3 : Nat) (v4 : Int32) (z : Nat) (H : Heap) (locs : List Loc) (ls : Array Slot), k23 h v0 v1 v2 v3 v4 = some 1 → Rl D ids (fun q : Nat => s.heap.size ≤ q) h s H → H.size = z → va_S (fun q : Nat => s.heap.size ≤ q) s.heap H locs → lv_has ls 9 [(0, .ref v0), (1, .ref v1), (2, .ref v2), (3, .ref v3), (4, .int v4)] → W p l e room_1 s m args below meth c H locs KC KS Q (F0 m 23 ls [])) (h : mH) (v0 : Nat) (v1 : Nat) (v2 : Nat) (v3 : Nat) (v4 : Int32) (z : Nat) (H : Heap) (locs : List Loc) (ls : Array Slot) (hrun : s_L_law_b1335 st k23 h v0 v1 v2 v3 v4 = some 1) (hR : Rl D ids (fun q : Nat => s.heap.size ≤ q) h s H) (hz : H.size = z) (hS : va_S (fun q : Nat => s.heap.size ≤ q) s.heap H locs) (hl : lv_has ls 9 [(0, .ref v0), (1, .ref v1), (2, .ref v2), (3, .ref v3), (4, .int v4)]) : W p l e room_1 s m args below meth c H locs kc ks Q (F0 m 1335 ls []) := by
  unfold s_L_law_b1335 at hrun
  refine W.widen (k := KC) (n := KS) hkc hks ?_
  refine lv_iinc (v := v4 + 6) (lv' := [(4, .int (v4 + 6)), (0, .ref v0), (1, .ref v1), (2, .ref v2), (3, .ref v3)]) hx hb dL_law_1335 hl (k := 4) rfl rfl (by decide) rfl (fun ls hl => ?_)
  refine lv_goto (tgt := 23) hx hb dL_law_1338 (by decide) ?_
  exact hk23 _ _ _ _ _ _ _ _ _ _ hrun hR hz hS (lv_sub hl [1, 2, 3, 4, 0] rfl)
set_option maxRecDepth 100000 in
set_option maxHeartbeats 8000000 in
theorem k_L_law_b1318 {p : Program} {l : Launch} {e : Env} {s : State} {m : MethodId} {args : Array Value} {below : List Frame} {meth : Method} {c : Code} {D : va_G} {ids : m_I3} {st : m_T} {Q : State → Prop} {k23 : mH → Nat → Nat → Nat → Nat → Int32 → Option Int32} {kc ks KC KS : Nat} (hx : p.tables.exec = Jvm.exec) (hb : c.code = cL_law) (hml : c.maxLocals = 9) (hown : s.vm.findClass RL = some m.cls) (hts : ∀ w ∈ (m_ws yX1_at cX1_at 2 (some .int)), w.before args s = true) (hE : m_EV st (fun q : Nat => s.heap.size ≤ q) s s.heap) (hA : ∀ q, s.heap.size ≤ q → (fun q : Nat => s.heap.size ≤ q) q) (hfl : l.stackTraces = false) (hend : ∀ (H : Heap) (ls : Array Slot), W p l e room_1 s m args below meth c H [] 601024 7293034 Q (F0 m 1342 ls [.int 1])) (hKC : KC ≤ 600000) (hKS : KS ≤ 7000000) (hkc : kc ≤ KC) (hks : ks ≤ KS) (hk23 : ∀ (h : mH) (v0 : Nat) (v1 : Nat) (v2 : Nat) (v3 : Nat) (v4 : Int32) (z : Nat) (H : Heap) (locs : List Loc) (ls : Array Slot), k23 h v0 v1 v2 v3 v4 = some 1 → Rl D ids (fun q : Nat => s.heap.size ≤ q) h s H → H.size = z → va_S (fun q : Nat => s.heap.size ≤ q) s.heap H locs → lv_has ls 9 [(0, .ref v0), (1, .ref v1), (2, .ref v2), (3, .ref v3), (4, .int v4)] → W p l e room_1 s m args below meth c H locs KC KS Q (F0 m 23 ls [])) (h : mH) (v0 : Nat) (v1 : Nat) (v2 : Nat) (v3 : Nat) (v4 : Int32) (z : Nat) (H : Heap) (locs : List Loc) (ls : Array Slot) (hrun : s_L_law_b1318 st k23 h v0 v1 v2 v3 v4 = some 1) (hR : Rl D ids (fun q : Nat => s.heap.size ≤ q) h s H) (hz : H.size = z) (hS : va_S (fun q : Nat => s.heap.size ≤ q) s.heap H locs) (hl : lv_has ls 9 [(0, .ref v0), (1, .ref v1), (2, .ref v2), (3, .ref v3), (4, .int v4)]) : W p l e room_1 s m args below meth c H locs kc ks Q (F0 m 1318 ls []) := by
  unfold s_L_law_b1318 at hrun
  refine W.widen (k := KC) (n := KS) hkc hks ?_
  refine lv_goto (tgt := 1335) hx hb dL_law_1318 (by decide) ?_
  exact k_L_law_b1335 hx hb hml hown hts hE hA hfl hend hKC hKS (Nat.le_refl _) (Nat.le_refl _) hk23 _ _ _ _ _ _ _ _ _ _ hrun hR hz hS (lv_sub hl [0, 1, 2, 3, 4] rfl)
set_option maxRecDepth 100000 in
set_option maxHeartbeats 8000000 in
theorem k_L_law_b1316 {p : Program} {l : Launch} {e : Env} {s : State} {m : MethodId} {args : Array Value} {below : List Frame} {meth : Method} {c : Code} {D : va_G} {ids : m_I3} {st : m_T} {Q : State → Prop} {k23 : mH → Nat → Nat → Nat → Nat → Int32 → Option Int32} {kc ks KC KS : Nat} (hx : p.tables.exec = Jvm.exec) (hb : c.code = cL_law) (hml : c.maxLocals = 9) (hown : s.vm.findClass RL = some m.cls) (hts : ∀ w ∈ (m_ws yX1_at cX1_at 2 (some .int)), w.before args s = true) (hE : m_EV st (fun q : Nat => s.heap.size ≤ q) s s.heap) (hA : ∀ q, s.heap.size ≤ q → (fun q : Nat => s.heap.size ≤ q) q) (hfl : l.stackTraces = false) (hend : ∀ (H : Heap) (ls : Array Slot), W p l e room_1 s m args below meth c H [] 601024 7293034 Q (F0 m 1342 ls [.int 1])) (hKC : KC ≤ 600000) (hKS : KS ≤ 7000000) (hkc : kc ≤ KC) (hks : ks ≤ KS) (hk23 : ∀ (h : mH) (v0 : Nat) (v1 : Nat) (v2 : Nat) (v3 : Nat) (v4 : Int32) (z : Nat) (H : Heap) (locs : List Loc) (ls : Array Slot), k23 h v0 v1 v2 v3 v4 = some 1 → Rl D ids (fun q : Nat => s.heap.size ≤ q) h s H → H.size = z → va_S (fun q : Nat => s.heap.size ≤ q) s.heap H locs → lv_has ls 9 [(0, .ref v0), (1, .ref v1), (2, .ref v2), (3, .ref v3), (4, .int v4)] → W p l e room_1 s m args below meth c H locs KC KS Q (F0 m 23 ls [])) (h : mH) (z : Nat) (H : Heap) (locs : List Loc) (ls : Array Slot) (hrun : s_L_law_b1316 st k23 h  = some 1) (hR : Rl D ids (fun q : Nat => s.heap.size ≤ q) h s H) (hz : H.size = z) (hS : va_S (fun q : Nat => s.heap.size ≤ q) s.heap H locs) (hl : lv_has ls 9 []) : W p l e room_1 s m args below meth c H locs kc ks Q (F0 m 1316 ls []) := by
  unfold s_L_law_b1316 at hrun
  refine W.widen (k := KC) (n := KS) hkc hks ?_
  refine lv_iconst (v := 0) hx hb dL_law_1316 (by decide) ?_
  exact absurd (Option.some.inj hrun) (by decide)
set_option maxRecDepth 100000 in
set_option maxHeartbeats 8000000 in
theorem k_L_law_b1251 {p : Program} {l : Launch} {e : Env} {s : State} {m : MethodId} {args : Array Value} {below : List Frame} {meth : Method} {c : Code} {D : va_G} {ids : m_I3} {st : m_T} {Q : State → Prop} {k23 : mH → Nat → Nat → Nat → Nat → Int32 → Option Int32} {kc ks KC KS : Nat} (hx : p.tables.exec = Jvm.exec) (hb : c.code = cL_law) (hml : c.maxLocals = 9) (hown : s.vm.findClass RL = some m.cls) (hts : ∀ w ∈ (m_ws yX1_at cX1_at 2 (some .int)), w.before args s = true) (hE : m_EV st (fun q : Nat => s.heap.size ≤ q) s s.heap) (hA : ∀ q, s.heap.size ≤ q → (fun q : Nat => s.heap.size ≤ q) q) (hfl : l.stackTraces = false) (hend : ∀ (H : Heap) (ls : Array Slot), W p l e room_1 s m args below meth c H [] 601024 7293034 Q (F0 m 1342 ls [.int 1])) (hKC : KC ≤ 600000) (hKS : KS ≤ 7000000) (hkc : kc ≤ KC) (hks : ks ≤ KS) (hk23 : ∀ (h : mH) (v0 : Nat) (v1 : Nat) (v2 : Nat) (v3 : Nat) (v4 : Int32) (z : Nat) (H : Heap) (locs : List Loc) (ls : Array Slot), k23 h v0 v1 v2 v3 v4 = some 1 → Rl D ids (fun q : Nat => s.heap.size ≤ q) h s H → H.size = z → va_S (fun q : Nat => s.heap.size ≤ q) s.heap H locs → lv_has ls 9 [(0, .ref v0), (1, .ref v1), (2, .ref v2), (3, .ref v3), (4, .int v4)] → W p l e room_1 s m args below meth c H locs KC KS Q (F0 m 23 ls [])) (h : mH) (v0 : Nat) (v1 : Nat) (v2 : Nat) (v3 : Nat) (v4 : Int32) (z : Nat) (H : Heap) (locs : List Loc) (ls : Array Slot) (hrun : s_L_law_b1251 st k23 h v0 v1 v2 v3 v4 = some 1) (hR : Rl D ids (fun q : Nat => s.heap.size ≤ q) h s H) (hz : H.size = z) (hS : va_S (fun q : Nat => s.heap.size ≤ q) s.heap H locs) (hl : lv_has ls 9 [(0, .ref v0), (1, .ref v1), (2, .ref v2), (3, .ref v3), (4, .int v4)]) : W p l e room_1 s m args below meth c H locs kc ks Q (F0 m 1251 ls []) := by
  unfold s_L_law_b1251 at hrun
  refine W.widen (k := KC) (n := KS) hkc hks ?_
  refine lv_goto (tgt := 1335) hx hb dL_law_1251 (by decide) ?_
  exact k_L_law_b1335 hx hb hml hown hts hE hA hfl hend hKC hKS (Nat.le_refl _) (Nat.le_refl _) hk23 _ _ _ _ _ _ _ _ _ _ hrun hR hz hS (lv_sub hl [0, 1, 2, 3, 4] rfl)
set_option maxRecDepth 100000 in
set_option maxHeartbeats 8000000 in
theorem k_L_law_b1171 {p : Program} {l : Launch} {e : Env} {s : State} {m : MethodId} {args : Array Value} {below : List Frame} {meth : Method} {c : Code} {D : va_G} {ids : m_I3} {st : m_T} {Q : State → Prop} {k23 : mH → Nat → Nat → Nat → Nat → Int32 → Option Int32} {kc ks KC KS : Nat} (hx : p.tables.exec = Jvm.exec) (hb : c.code = cL_law) (hml : c.maxLocals = 9) (hown : s.vm.findClass RL = some m.cls) (hts : ∀ w ∈ (m_ws yX1_at cX1_at 2 (some .int)), w.before args s = true) (hE : m_EV st (fun q : Nat => s.heap.size ≤ q) s s.heap) (hA : ∀ q, s.heap.size ≤ q → (fun q : Nat => s.heap.size ≤ q) q) (hfl : l.stackTraces = false) (hend : ∀ (H : Heap) (ls : Array Slot), W p l e room_1 s m args below meth c H [] 601024 7293034 Q (F0 m 1342 ls [.int 1])) (hKC : KC ≤ 600000) (hKS : KS ≤ 7000000) (hkc : kc ≤ KC) (hks : ks ≤ KS) (hk23 : ∀ (h : mH) (v0 : Nat) (v1 : Nat) (v2 : Nat) (v3 : Nat) (v4 : Int32) (z : Nat) (H : Heap) (locs : List Loc) (ls : Array Slot), k23 h v0 v1 v2 v3 v4 = some 1 → Rl D ids (fun q : Nat => s.heap.size ≤ q) h s H → H.size = z → va_S (fun q : Nat => s.heap.size ≤ q) s.heap H locs → lv_has ls 9 [(0, .ref v0), (1, .ref v1), (2, .ref v2), (3, .ref v3), (4, .int v4)] → W p l e room_1 s m args below meth c H locs KC KS Q (F0 m 23 ls [])) (h : mH) (v0 : Nat) (v1 : Nat) (v2 : Nat) (v3 : Nat) (v4 : Int32) (z : Nat) (H : Heap) (locs : List Loc) (ls : Array Slot) (hrun : s_L_law_b1171 st k23 h v0 v1 v2 v3 v4 = some 1) (hR : Rl D ids (fun q : Nat => s.heap.size ≤ q) h s H) (hz : H.size = z) (hS : va_S (fun q : Nat => s.heap.size ≤ q) s.heap H locs) (hl : lv_has ls 9 [(0, .ref v0), (1, .ref v1), (2, .ref v2), (3, .ref v3), (4, .int v4)]) : W p l e room_1 s m args below meth c H locs kc ks Q (F0 m 1171 ls []) := by
  unfold s_L_law_b1171 at hrun
  refine W.widen (k := KC) (n := KS) hkc hks ?_
  refine lv_goto (tgt := 1335) hx hb dL_law_1171 (by decide) ?_
  exact k_L_law_b1335 hx hb hml hown hts hE hA hfl hend hKC hKS (Nat.le_refl _) (Nat.le_refl _) hk23 _ _ _ _ _ _ _ _ _ _ hrun hR hz hS (lv_sub hl [0, 1, 2, 3, 4] rfl)
set_option maxRecDepth 100000 in
set_option maxHeartbeats 8000000 in
theorem k_L_law_b1138 {p : Program} {l : Launch} {e : Env} {s : State} {m : MethodId} {args : Array Value} {below : List Frame} {meth : Method} {c : Code} {D : va_G} {ids : m_I3} {st : m_T} {Q : State → Prop} {k23 : mH → Nat → Nat → Nat → Nat → Int32 → Option Int32} {kc ks KC KS : Nat} (hx : p.tables.exec = Jvm.exec) (hb : c.code = cL_law) (hml : c.maxLocals = 9) (hown : s.vm.findClass RL = some m.cls) (hts : ∀ w ∈ (m_ws yX1_at cX1_at 2 (some .int)), w.before args s = true) (hE : m_EV st (fun q : Nat => s.heap.size ≤ q) s s.heap) (hA : ∀ q, s.heap.size ≤ q → (fun q : Nat => s.heap.size ≤ q) q) (hfl : l.stackTraces = false) (hend : ∀ (H : Heap) (ls : Array Slot), W p l e room_1 s m args below meth c H [] 601024 7293034 Q (F0 m 1342 ls [.int 1])) (hKC : KC ≤ 600000) (hKS : KS ≤ 7000000) (hkc : kc ≤ KC) (hks : ks ≤ KS) (hk23 : ∀ (h : mH) (v0 : Nat) (v1 : Nat) (v2 : Nat) (v3 : Nat) (v4 : Int32) (z : Nat) (H : Heap) (locs : List Loc) (ls : Array Slot), k23 h v0 v1 v2 v3 v4 = some 1 → Rl D ids (fun q : Nat => s.heap.size ≤ q) h s H → H.size = z → va_S (fun q : Nat => s.heap.size ≤ q) s.heap H locs → lv_has ls 9 [(0, .ref v0), (1, .ref v1), (2, .ref v2), (3, .ref v3), (4, .int v4)] → W p l e room_1 s m args below meth c H locs KC KS Q (F0 m 23 ls [])) (h : mH) (v0 : Nat) (v1 : Nat) (v2 : Nat) (v3 : Nat) (v4 : Int32) (v5 : Int32) (t0 : Nat) (t1 : Int32) (t2 : Int32) (t3 : Int32) (t4 : Int32) (t5 : Int32) (z : Nat) (H : Heap) (locs : List Loc) (ls : Array Slot) (hrun : s_L_law_b1138 st k23 h v0 v1 v2 v3 v4 v5 t0 t1 t2 t3 t4 t5 = some 1) (hR : Rl D ids (fun q : Nat => s.heap.size ≤ q) h s H) (hz : H.size = z) (hS : va_S (fun q : Nat => s.heap.size ≤ q) s.heap H locs) (hl : lv_has ls 9 [(0, .ref v0), (1, .ref v1), (2, .ref v2), (3, .ref v3), (4, .int v4), (5, .int v5)]) : W p l e room_1 s m args below meth c H locs kc ks Q (F0 m 1138 ls [.int t5, .int t4, .int t3, .int t2, .int t1, .ref t0]) := by
  unfold s_L_law_b1138 at hrun
  refine W.widen (k := KC) (n := KS) hkc hks ?_
  obtain ⟨_, ho9, hrun⟩ := m_bind hrun
  obtain ⟨fs9, ho9⟩ := m_is_spec ho9
  obtain ⟨⟨x1138, h1138⟩, hc9, hrun⟩ := m_bind hrun
  refine mr_calli (mr_runV (As := [.int t1, .int t2, .int t3, .int t4, .int t5]) (rest := []) hx hb hml hown hts (c_X8_ifTapped l D ids st z hc9) yk_X8_ifTapped ys_X8_ifTapped wm_4_26 ⟨(Nat.le_of_ble_eq_true rfl), (Nat.le_of_ble_eq_true rfl)⟩ (mr_recv (ci := 6) hR hE hz hS hA rfl ho9) hl.1 rfl (Nat.le_of_ble_eq_true rfl) dL_law_1138 ⟨(by show KC + 0 ≤ 601024; omega), (by show KS + 0 ≤ 7293034; omega)⟩) hR hz hS hA (fun H locs hR hz hS => ?_)
  refine W.widen (k := KC) (n := KS) (Nat.le_refl _) (Nat.le_refl _) ?_
  refine lv_istore (lv' := [(6, .int x1138), (0, .ref v0), (1, .ref v1), (2, .ref v2), (3, .ref v3), (4, .int v4), (5, .int v5)]) hx hb dL_law_1141 hl (by decide) rfl (fun ls hl => ?_)
  refine lv_aload_n hx hb dL_law_1143 rfl (lv_at hl 3 rfl) ?_
  obtain ⟨_, ho9, hrun⟩ := m_bind hrun
  obtain ⟨fs9, ho9⟩ := m_is_spec ho9
  obtain ⟨x1144, hc9, hrun⟩ := m_bind hrun
  refine mr_calli (mr_runV (As := []) (rest := []) hx hb hml hown hts (c_X8_thrown l D ids st z hc9) yk_X8_thrown ys_X8_thrown wm_3_73 ⟨(Nat.le_of_ble_eq_true rfl), (Nat.le_of_ble_eq_true rfl)⟩ (mr_recv (ci := 6) hR hE hz hS hA rfl ho9) hl.1 rfl (Nat.le_of_ble_eq_true rfl) dL_law_1144 ⟨(by show KC + 0 ≤ 601024; omega), (by show KS + 0 ≤ 7293034; omega)⟩) hR hz hS hA (fun H locs hR hz hS => ?_)
  refine W.widen (k := KC) (n := KS) (Nat.le_refl _) (Nat.le_refl _) ?_
  refine lv_iload hx hb dL_law_1147 (lv_at hl 6 rfl) ?_
  refine lv_icmp_eq (tgt := 1154) hx hb dL_law_1149 (by decide) (fun hc => ?_) (fun hc => ?_)
  · have hrun := mt_t hrun hc
    refine lv_iload hx hb dL_law_1154 (lv_at hl 6 rfl) ?_
    refine lv_if_ne (tgt := 1171) hx hb dL_law_1156 (by decide) (fun hc => ?_) (fun hc => ?_)
    · have hrun := mt_f hrun hc
      exact k_L_law_b1171 hx hb hml hown hts hE hA hfl hend hKC hKS (Nat.le_refl _) (Nat.le_refl _) hk23 _ _ _ _ _ _ _ _ _ _ hrun hR hz hS (lv_sub hl [1, 2, 3, 4, 5] rfl)
    · have hrun := mt_t hrun hc
      refine lv_aload_n hx hb dL_law_1159 rfl (lv_at hl 4 rfl) ?_
      refine lv_iconst (v := 0) hx hb dL_law_1160 (by decide) ?_
      obtain ⟨x1161, hc9, hrun⟩ := m_bind hrun
      refine mr_lald hx hb hR hc9 dL_law_1161 ?_
      refine lv_iload hx hb dL_law_1162 (lv_at hl 0 rfl) ?_
      refine lv_i2l (v := x1138.toInt64) hx hb dL_law_1164 rfl ?_
      refine W.lcmp hx hb dL_law_1165 ?_
      refine lv_if_eq (tgt := 1171) hx hb dL_law_1166 (by decide) (fun hc => ?_) (fun hc => ?_)
      · have hrun := mt_t hrun hc
        exact k_L_law_b1171 hx hb hml hown hts hE hA hfl hend hKC hKS (Nat.le_refl _) (Nat.le_refl _) hk23 _ _ _ _ _ _ _ _ _ _ hrun hR hz hS (lv_sub hl [1, 2, 3, 4, 5] rfl)
      · have hrun := mt_f hrun hc
        refine lv_iconst (v := 0) hx hb dL_law_1169 (by decide) ?_
        exact absurd (Option.some.inj hrun) (by decide)
  · have hrun := mt_f hrun hc
    refine lv_iconst (v := 0) hx hb dL_law_1152 (by decide) ?_
    exact absurd (Option.some.inj hrun) (by decide)
set_option maxRecDepth 100000 in
set_option maxHeartbeats 8000000 in
theorem k_L_law_b1093 {p : Program} {l : Launch} {e : Env} {s : State} {m : MethodId} {args : Array Value} {below : List Frame} {meth : Method} {c : Code} {D : va_G} {ids : m_I3} {st : m_T} {Q : State → Prop} {k23 : mH → Nat → Nat → Nat → Nat → Int32 → Option Int32} {kc ks KC KS : Nat} (hx : p.tables.exec = Jvm.exec) (hb : c.code = cL_law) (hml : c.maxLocals = 9) (hown : s.vm.findClass RL = some m.cls) (hts : ∀ w ∈ (m_ws yX1_at cX1_at 2 (some .int)), w.before args s = true) (hE : m_EV st (fun q : Nat => s.heap.size ≤ q) s s.heap) (hA : ∀ q, s.heap.size ≤ q → (fun q : Nat => s.heap.size ≤ q) q) (hfl : l.stackTraces = false) (hend : ∀ (H : Heap) (ls : Array Slot), W p l e room_1 s m args below meth c H [] 601024 7293034 Q (F0 m 1342 ls [.int 1])) (hKC : KC ≤ 600000) (hKS : KS ≤ 7000000) (hkc : kc + 1 ≤ KC) (hks : ks + 6 ≤ KS) (hk23 : ∀ (h : mH) (v0 : Nat) (v1 : Nat) (v2 : Nat) (v3 : Nat) (v4 : Int32) (z : Nat) (H : Heap) (locs : List Loc) (ls : Array Slot), k23 h v0 v1 v2 v3 v4 = some 1 → Rl D ids (fun q : Nat => s.heap.size ≤ q) h s H → H.size = z → va_S (fun q : Nat => s.heap.size ≤ q) s.heap H locs → lv_has ls 9 [(0, .ref v0), (1, .ref v1), (2, .ref v2), (3, .ref v3), (4, .int v4)] → W p l e room_1 s m args below meth c H locs KC KS Q (F0 m 23 ls [])) (h : mH) (v0 : Nat) (v1 : Nat) (v2 : Nat) (v3 : Nat) (v4 : Int32) (t0 : Nat) (t1 : Int32) (t2 : Int32) (t3 : Int32) (t4 : Int32) (t5 : Int32) (z : Nat) (H : Heap) (locs : List Loc) (ls : Array Slot) (hrun : s_L_law_b1093 st k23 h v0 v1 v2 v3 v4 t0 t1 t2 t3 t4 t5 = some 1) (hR : Rl D ids (fun q : Nat => s.heap.size ≤ q) h s H) (hz : H.size = z) (hS : va_S (fun q : Nat => s.heap.size ≤ q) s.heap H locs) (hl : lv_has ls 9 [(0, .ref v0), (1, .ref v1), (2, .ref v2), (3, .ref v3), (4, .int v4)]) : W p l e room_1 s m args below meth c H locs kc ks Q (F0 m 1093 ls [.int t5, .int t4, .int t3, .int t2, .int t1, .ref t0]) := by
  unfold s_L_law_b1093 at hrun
  refine lv_aload_n hx hb dL_law_1093 rfl (lv_at hl 3 rfl) ?_
  obtain ⟨⟨x1094, h1094⟩, hc9, hrun⟩ := m_bind hrun
  refine mrw_calli (mr_runSW (As := [.ref t0, .int t1, .int t2, .int t3, .int t4, .int t5, .ref v3]) (rest := []) hx hb hml hown hts (c_L_ifTapped l hfl D ids st z hc9) yk_L_ifTapped ys_L_ifTapped wm_3_13 ⟨(Nat.le_of_ble_eq_true rfl), (Nat.le_of_ble_eq_true rfl)⟩ (mr_recvS hR hE hz hS hA) hl.1 rfl (Nat.le_of_ble_eq_true rfl) dL_law_1094 ⟨by show kc + 1 ≤ 601024; omega, by show ks + 6 ≤ 7293034; omega⟩) hR hz hS hA (fun H locs hR hS => ?_)
  obtain ⟨z, hz⟩ : ∃ z, H.size = z := ⟨_, rfl⟩
  refine W.widen (k := KC) (n := KS) hkc hks ?_
  refine lv_istore (lv' := [(5, .int x1094), (0, .ref v0), (1, .ref v1), (2, .ref v2), (3, .ref v3), (4, .int v4)]) hx hb dL_law_1097 hl (by decide) rfl (fun ls hl => ?_)
  refine lv_aload_n hx hb dL_law_1099 rfl (lv_at hl 3 rfl) ?_
  refine lv_aload_n hx hb dL_law_1100 rfl (lv_at hl 1 rfl) ?_
  refine lv_iload hx hb dL_law_1101 (lv_at hl 5 rfl) ?_
  refine lv_iconst (v := 1) hx hb dL_law_1103 (by decide) ?_
  refine lv_iadd hx hb dL_law_1104 ?_
  obtain ⟨x1105, hc9, hrun⟩ := m_bind hrun
  refine mr_iald hx hb hR hc9 dL_law_1105 ?_
  refine lv_aload_n hx hb dL_law_1106 rfl (lv_at hl 1 rfl) ?_
  refine lv_iload hx hb dL_law_1107 (lv_at hl 5 rfl) ?_
  refine lv_iconst (v := 2) hx hb dL_law_1109 (by decide) ?_
  refine lv_iadd hx hb dL_law_1110 ?_
  obtain ⟨x1111, hc9, hrun⟩ := m_bind hrun
  refine mr_iald hx hb hR hc9 dL_law_1111 ?_
  refine lv_aload_n hx hb dL_law_1112 rfl (lv_at hl 1 rfl) ?_
  refine lv_iload hx hb dL_law_1113 (lv_at hl 5 rfl) ?_
  refine lv_iconst (v := 3) hx hb dL_law_1115 (by decide) ?_
  refine lv_iadd hx hb dL_law_1116 ?_
  obtain ⟨x1117, hc9, hrun⟩ := m_bind hrun
  refine mr_iald hx hb hR hc9 dL_law_1117 ?_
  refine lv_aload_n hx hb dL_law_1118 rfl (lv_at hl 1 rfl) ?_
  refine lv_iload hx hb dL_law_1119 (lv_at hl 5 rfl) ?_
  refine lv_iconst (v := 4) hx hb dL_law_1121 (by decide) ?_
  refine lv_iadd hx hb dL_law_1122 ?_
  obtain ⟨x1123, hc9, hrun⟩ := m_bind hrun
  refine mr_iald hx hb hR hc9 dL_law_1123 ?_
  refine lv_aload_n hx hb dL_law_1124 rfl (lv_at hl 1 rfl) ?_
  refine lv_iload hx hb dL_law_1125 (lv_at hl 5 rfl) ?_
  refine lv_iconst (v := 5) hx hb dL_law_1127 (by decide) ?_
  refine lv_iadd hx hb dL_law_1128 ?_
  obtain ⟨x1129, hc9, hrun⟩ := m_bind hrun
  refine mr_iald hx hb hR hc9 dL_law_1129 ?_
  refine lv_if_eq (tgt := 1137) hx hb dL_law_1130 (by decide) (fun hc => ?_) (fun hc => ?_)
  · have hrun := mt_t hrun hc
    refine lv_iconst (v := 0) hx hb dL_law_1137 (by decide) ?_
    exact k_L_law_b1138 hx hb hml hown hts hE hA hfl hend hKC hKS (Nat.le_refl _) (Nat.le_refl _) hk23 _ _ _ _ _ _ _ _ _ _ _ _ _ _ _ _ _ hrun hR hz hS (lv_sub hl [1, 2, 3, 4, 5, 0] rfl)
  · have hrun := mt_f hrun hc
    refine lv_iconst (v := 1) hx hb dL_law_1133 (by decide) ?_
    refine lv_goto (tgt := 1138) hx hb dL_law_1134 (by decide) ?_
    exact k_L_law_b1138 hx hb hml hown hts hE hA hfl hend hKC hKS (Nat.le_refl _) (Nat.le_refl _) hk23 _ _ _ _ _ _ _ _ _ _ _ _ _ _ _ _ _ hrun hR hz hS (lv_sub hl [1, 2, 3, 4, 5, 0] rfl)
set_option maxRecDepth 100000 in
set_option maxHeartbeats 8000000 in
theorem k_L_law_b1051 {p : Program} {l : Launch} {e : Env} {s : State} {m : MethodId} {args : Array Value} {below : List Frame} {meth : Method} {c : Code} {D : va_G} {ids : m_I3} {st : m_T} {Q : State → Prop} {k23 : mH → Nat → Nat → Nat → Nat → Int32 → Option Int32} {kc ks KC KS : Nat} (hx : p.tables.exec = Jvm.exec) (hb : c.code = cL_law) (hml : c.maxLocals = 9) (hown : s.vm.findClass RL = some m.cls) (hts : ∀ w ∈ (m_ws yX1_at cX1_at 2 (some .int)), w.before args s = true) (hE : m_EV st (fun q : Nat => s.heap.size ≤ q) s s.heap) (hA : ∀ q, s.heap.size ≤ q → (fun q : Nat => s.heap.size ≤ q) q) (hfl : l.stackTraces = false) (hend : ∀ (H : Heap) (ls : Array Slot), W p l e room_1 s m args below meth c H [] 601024 7293034 Q (F0 m 1342 ls [.int 1])) (hKC : KC ≤ 600000) (hKS : KS ≤ 7000000) (hkc : kc ≤ KC) (hks : ks ≤ KS) (hk23 : ∀ (h : mH) (v0 : Nat) (v1 : Nat) (v2 : Nat) (v3 : Nat) (v4 : Int32) (z : Nat) (H : Heap) (locs : List Loc) (ls : Array Slot), k23 h v0 v1 v2 v3 v4 = some 1 → Rl D ids (fun q : Nat => s.heap.size ≤ q) h s H → H.size = z → va_S (fun q : Nat => s.heap.size ≤ q) s.heap H locs → lv_has ls 9 [(0, .ref v0), (1, .ref v1), (2, .ref v2), (3, .ref v3), (4, .int v4)] → W p l e room_1 s m args below meth c H locs KC KS Q (F0 m 23 ls [])) (h : mH) (v0 : Nat) (v1 : Nat) (v2 : Nat) (v3 : Nat) (v4 : Int32) (z : Nat) (H : Heap) (locs : List Loc) (ls : Array Slot) (hrun : s_L_law_b1051 st k23 h v0 v1 v2 v3 v4 = some 1) (hR : Rl D ids (fun q : Nat => s.heap.size ≤ q) h s H) (hz : H.size = z) (hS : va_S (fun q : Nat => s.heap.size ≤ q) s.heap H locs) (hl : lv_has ls 9 [(0, .ref v0), (1, .ref v1), (2, .ref v2), (3, .ref v3), (4, .int v4)]) : W p l e room_1 s m args below meth c H locs kc ks Q (F0 m 1051 ls []) := by
  unfold s_L_law_b1051 at hrun
  refine W.widen (k := KC) (n := KS) hkc hks ?_
  refine lv_goto (tgt := 1335) hx hb dL_law_1051 (by decide) ?_
  exact k_L_law_b1335 hx hb hml hown hts hE hA hfl hend hKC hKS (Nat.le_refl _) (Nat.le_refl _) hk23 _ _ _ _ _ _ _ _ _ _ hrun hR hz hS (lv_sub hl [0, 1, 2, 3, 4] rfl)
set_option maxRecDepth 100000 in
set_option maxHeartbeats 8000000 in
theorem k_L_law_b971 {p : Program} {l : Launch} {e : Env} {s : State} {m : MethodId} {args : Array Value} {below : List Frame} {meth : Method} {c : Code} {D : va_G} {ids : m_I3} {st : m_T} {Q : State → Prop} {k23 : mH → Nat → Nat → Nat → Nat → Int32 → Option Int32} {kc ks KC KS : Nat} (hx : p.tables.exec = Jvm.exec) (hb : c.code = cL_law) (hml : c.maxLocals = 9) (hown : s.vm.findClass RL = some m.cls) (hts : ∀ w ∈ (m_ws yX1_at cX1_at 2 (some .int)), w.before args s = true) (hE : m_EV st (fun q : Nat => s.heap.size ≤ q) s s.heap) (hA : ∀ q, s.heap.size ≤ q → (fun q : Nat => s.heap.size ≤ q) q) (hfl : l.stackTraces = false) (hend : ∀ (H : Heap) (ls : Array Slot), W p l e room_1 s m args below meth c H [] 601024 7293034 Q (F0 m 1342 ls [.int 1])) (hKC : KC ≤ 600000) (hKS : KS ≤ 7000000) (hkc : kc ≤ KC) (hks : ks ≤ KS) (hk23 : ∀ (h : mH) (v0 : Nat) (v1 : Nat) (v2 : Nat) (v3 : Nat) (v4 : Int32) (z : Nat) (H : Heap) (locs : List Loc) (ls : Array Slot), k23 h v0 v1 v2 v3 v4 = some 1 → Rl D ids (fun q : Nat => s.heap.size ≤ q) h s H → H.size = z → va_S (fun q : Nat => s.heap.size ≤ q) s.heap H locs → lv_has ls 9 [(0, .ref v0), (1, .ref v1), (2, .ref v2), (3, .ref v3), (4, .int v4)] → W p l e room_1 s m args below meth c H locs KC KS Q (F0 m 23 ls [])) (h : mH) (v0 : Nat) (v1 : Nat) (v2 : Nat) (v3 : Nat) (v4 : Int32) (z : Nat) (H : Heap) (locs : List Loc) (ls : Array Slot) (hrun : s_L_law_b971 st k23 h v0 v1 v2 v3 v4 = some 1) (hR : Rl D ids (fun q : Nat => s.heap.size ≤ q) h s H) (hz : H.size = z) (hS : va_S (fun q : Nat => s.heap.size ≤ q) s.heap H locs) (hl : lv_has ls 9 [(0, .ref v0), (1, .ref v1), (2, .ref v2), (3, .ref v3), (4, .int v4)]) : W p l e room_1 s m args below meth c H locs kc ks Q (F0 m 971 ls []) := by
  unfold s_L_law_b971 at hrun
  refine W.widen (k := KC) (n := KS) hkc hks ?_
  refine lv_goto (tgt := 1335) hx hb dL_law_971 (by decide) ?_
  exact k_L_law_b1335 hx hb hml hown hts hE hA hfl hend hKC hKS (Nat.le_refl _) (Nat.le_refl _) hk23 _ _ _ _ _ _ _ _ _ _ hrun hR hz hS (lv_sub hl [0, 1, 2, 3, 4] rfl)
set_option maxRecDepth 100000 in
set_option maxHeartbeats 8000000 in
theorem k_L_law_b915 {p : Program} {l : Launch} {e : Env} {s : State} {m : MethodId} {args : Array Value} {below : List Frame} {meth : Method} {c : Code} {D : va_G} {ids : m_I3} {st : m_T} {Q : State → Prop} {k23 : mH → Nat → Nat → Nat → Nat → Int32 → Option Int32} {kc ks KC KS : Nat} (hx : p.tables.exec = Jvm.exec) (hb : c.code = cL_law) (hml : c.maxLocals = 9) (hown : s.vm.findClass RL = some m.cls) (hts : ∀ w ∈ (m_ws yX1_at cX1_at 2 (some .int)), w.before args s = true) (hE : m_EV st (fun q : Nat => s.heap.size ≤ q) s s.heap) (hA : ∀ q, s.heap.size ≤ q → (fun q : Nat => s.heap.size ≤ q) q) (hfl : l.stackTraces = false) (hend : ∀ (H : Heap) (ls : Array Slot), W p l e room_1 s m args below meth c H [] 601024 7293034 Q (F0 m 1342 ls [.int 1])) (hKC : KC ≤ 600000) (hKS : KS ≤ 7000000) (hkc : kc ≤ KC) (hks : ks ≤ KS) (hk23 : ∀ (h : mH) (v0 : Nat) (v1 : Nat) (v2 : Nat) (v3 : Nat) (v4 : Int32) (z : Nat) (H : Heap) (locs : List Loc) (ls : Array Slot), k23 h v0 v1 v2 v3 v4 = some 1 → Rl D ids (fun q : Nat => s.heap.size ≤ q) h s H → H.size = z → va_S (fun q : Nat => s.heap.size ≤ q) s.heap H locs → lv_has ls 9 [(0, .ref v0), (1, .ref v1), (2, .ref v2), (3, .ref v3), (4, .int v4)] → W p l e room_1 s m args below meth c H locs KC KS Q (F0 m 23 ls [])) (h : mH) (v0 : Nat) (v1 : Nat) (v2 : Nat) (v3 : Nat) (v4 : Int32) (z : Nat) (H : Heap) (locs : List Loc) (ls : Array Slot) (hrun : s_L_law_b915 st k23 h v0 v1 v2 v3 v4 = some 1) (hR : Rl D ids (fun q : Nat => s.heap.size ≤ q) h s H) (hz : H.size = z) (hS : va_S (fun q : Nat => s.heap.size ≤ q) s.heap H locs) (hl : lv_has ls 9 [(0, .ref v0), (1, .ref v1), (2, .ref v2), (3, .ref v3), (4, .int v4)]) : W p l e room_1 s m args below meth c H locs kc ks Q (F0 m 915 ls []) := by
  unfold s_L_law_b915 at hrun
  refine W.widen (k := KC) (n := KS) hkc hks ?_
  refine lv_goto (tgt := 1335) hx hb dL_law_915 (by decide) ?_
  exact k_L_law_b1335 hx hb hml hown hts hE hA hfl hend hKC hKS (Nat.le_refl _) (Nat.le_refl _) hk23 _ _ _ _ _ _ _ _ _ _ hrun hR hz hS (lv_sub hl [0, 1, 2, 3, 4] rfl)
set_option maxRecDepth 100000 in
set_option maxHeartbeats 8000000 in
theorem k_L_law_b835 {p : Program} {l : Launch} {e : Env} {s : State} {m : MethodId} {args : Array Value} {below : List Frame} {meth : Method} {c : Code} {D : va_G} {ids : m_I3} {st : m_T} {Q : State → Prop} {k23 : mH → Nat → Nat → Nat → Nat → Int32 → Option Int32} {kc ks KC KS : Nat} (hx : p.tables.exec = Jvm.exec) (hb : c.code = cL_law) (hml : c.maxLocals = 9) (hown : s.vm.findClass RL = some m.cls) (hts : ∀ w ∈ (m_ws yX1_at cX1_at 2 (some .int)), w.before args s = true) (hE : m_EV st (fun q : Nat => s.heap.size ≤ q) s s.heap) (hA : ∀ q, s.heap.size ≤ q → (fun q : Nat => s.heap.size ≤ q) q) (hfl : l.stackTraces = false) (hend : ∀ (H : Heap) (ls : Array Slot), W p l e room_1 s m args below meth c H [] 601024 7293034 Q (F0 m 1342 ls [.int 1])) (hKC : KC ≤ 600000) (hKS : KS ≤ 7000000) (hkc : kc ≤ KC) (hks : ks ≤ KS) (hk23 : ∀ (h : mH) (v0 : Nat) (v1 : Nat) (v2 : Nat) (v3 : Nat) (v4 : Int32) (z : Nat) (H : Heap) (locs : List Loc) (ls : Array Slot), k23 h v0 v1 v2 v3 v4 = some 1 → Rl D ids (fun q : Nat => s.heap.size ≤ q) h s H → H.size = z → va_S (fun q : Nat => s.heap.size ≤ q) s.heap H locs → lv_has ls 9 [(0, .ref v0), (1, .ref v1), (2, .ref v2), (3, .ref v3), (4, .int v4)] → W p l e room_1 s m args below meth c H locs KC KS Q (F0 m 23 ls [])) (h : mH) (v0 : Nat) (v1 : Nat) (v2 : Nat) (v3 : Nat) (v4 : Int32) (z : Nat) (H : Heap) (locs : List Loc) (ls : Array Slot) (hrun : s_L_law_b835 st k23 h v0 v1 v2 v3 v4 = some 1) (hR : Rl D ids (fun q : Nat => s.heap.size ≤ q) h s H) (hz : H.size = z) (hS : va_S (fun q : Nat => s.heap.size ≤ q) s.heap H locs) (hl : lv_has ls 9 [(0, .ref v0), (1, .ref v1), (2, .ref v2), (3, .ref v3), (4, .int v4)]) : W p l e room_1 s m args below meth c H locs kc ks Q (F0 m 835 ls []) := by
  unfold s_L_law_b835 at hrun
  refine W.widen (k := KC) (n := KS) hkc hks ?_
  refine lv_goto (tgt := 1335) hx hb dL_law_835 (by decide) ?_
  exact k_L_law_b1335 hx hb hml hown hts hE hA hfl hend hKC hKS (Nat.le_refl _) (Nat.le_refl _) hk23 _ _ _ _ _ _ _ _ _ _ hrun hR hz hS (lv_sub hl [0, 1, 2, 3, 4] rfl)
set_option maxRecDepth 100000 in
set_option maxHeartbeats 8000000 in
theorem k_L_law_b755 {p : Program} {l : Launch} {e : Env} {s : State} {m : MethodId} {args : Array Value} {below : List Frame} {meth : Method} {c : Code} {D : va_G} {ids : m_I3} {st : m_T} {Q : State → Prop} {k23 : mH → Nat → Nat → Nat → Nat → Int32 → Option Int32} {kc ks KC KS : Nat} (hx : p.tables.exec = Jvm.exec) (hb : c.code = cL_law) (hml : c.maxLocals = 9) (hown : s.vm.findClass RL = some m.cls) (hts : ∀ w ∈ (m_ws yX1_at cX1_at 2 (some .int)), w.before args s = true) (hE : m_EV st (fun q : Nat => s.heap.size ≤ q) s s.heap) (hA : ∀ q, s.heap.size ≤ q → (fun q : Nat => s.heap.size ≤ q) q) (hfl : l.stackTraces = false) (hend : ∀ (H : Heap) (ls : Array Slot), W p l e room_1 s m args below meth c H [] 601024 7293034 Q (F0 m 1342 ls [.int 1])) (hKC : KC ≤ 600000) (hKS : KS ≤ 7000000) (hkc : kc ≤ KC) (hks : ks ≤ KS) (hk23 : ∀ (h : mH) (v0 : Nat) (v1 : Nat) (v2 : Nat) (v3 : Nat) (v4 : Int32) (z : Nat) (H : Heap) (locs : List Loc) (ls : Array Slot), k23 h v0 v1 v2 v3 v4 = some 1 → Rl D ids (fun q : Nat => s.heap.size ≤ q) h s H → H.size = z → va_S (fun q : Nat => s.heap.size ≤ q) s.heap H locs → lv_has ls 9 [(0, .ref v0), (1, .ref v1), (2, .ref v2), (3, .ref v3), (4, .int v4)] → W p l e room_1 s m args below meth c H locs KC KS Q (F0 m 23 ls [])) (h : mH) (v0 : Nat) (v1 : Nat) (v2 : Nat) (v3 : Nat) (v4 : Int32) (z : Nat) (H : Heap) (locs : List Loc) (ls : Array Slot) (hrun : s_L_law_b755 st k23 h v0 v1 v2 v3 v4 = some 1) (hR : Rl D ids (fun q : Nat => s.heap.size ≤ q) h s H) (hz : H.size = z) (hS : va_S (fun q : Nat => s.heap.size ≤ q) s.heap H locs) (hl : lv_has ls 9 [(0, .ref v0), (1, .ref v1), (2, .ref v2), (3, .ref v3), (4, .int v4)]) : W p l e room_1 s m args below meth c H locs kc ks Q (F0 m 755 ls []) := by
  unfold s_L_law_b755 at hrun
  refine W.widen (k := KC) (n := KS) hkc hks ?_
  refine lv_goto (tgt := 1335) hx hb dL_law_755 (by decide) ?_
  exact k_L_law_b1335 hx hb hml hown hts hE hA hfl hend hKC hKS (Nat.le_refl _) (Nat.le_refl _) hk23 _ _ _ _ _ _ _ _ _ _ hrun hR hz hS (lv_sub hl [0, 1, 2, 3, 4] rfl)
set_option maxRecDepth 100000 in
set_option maxHeartbeats 8000000 in
theorem k_L_law_b687 {p : Program} {l : Launch} {e : Env} {s : State} {m : MethodId} {args : Array Value} {below : List Frame} {meth : Method} {c : Code} {D : va_G} {ids : m_I3} {st : m_T} {Q : State → Prop} {k23 : mH → Nat → Nat → Nat → Nat → Int32 → Option Int32} {kc ks KC KS : Nat} (hx : p.tables.exec = Jvm.exec) (hb : c.code = cL_law) (hml : c.maxLocals = 9) (hown : s.vm.findClass RL = some m.cls) (hts : ∀ w ∈ (m_ws yX1_at cX1_at 2 (some .int)), w.before args s = true) (hE : m_EV st (fun q : Nat => s.heap.size ≤ q) s s.heap) (hA : ∀ q, s.heap.size ≤ q → (fun q : Nat => s.heap.size ≤ q) q) (hfl : l.stackTraces = false) (hend : ∀ (H : Heap) (ls : Array Slot), W p l e room_1 s m args below meth c H [] 601024 7293034 Q (F0 m 1342 ls [.int 1])) (hKC : KC ≤ 600000) (hKS : KS ≤ 7000000) (hkc : kc ≤ KC) (hks : ks ≤ KS) (hk23 : ∀ (h : mH) (v0 : Nat) (v1 : Nat) (v2 : Nat) (v3 : Nat) (v4 : Int32) (z : Nat) (H : Heap) (locs : List Loc) (ls : Array Slot), k23 h v0 v1 v2 v3 v4 = some 1 → Rl D ids (fun q : Nat => s.heap.size ≤ q) h s H → H.size = z → va_S (fun q : Nat => s.heap.size ≤ q) s.heap H locs → lv_has ls 9 [(0, .ref v0), (1, .ref v1), (2, .ref v2), (3, .ref v3), (4, .int v4)] → W p l e room_1 s m args below meth c H locs KC KS Q (F0 m 23 ls [])) (h : mH) (v0 : Nat) (v1 : Nat) (v2 : Nat) (v3 : Nat) (v4 : Int32) (z : Nat) (H : Heap) (locs : List Loc) (ls : Array Slot) (hrun : s_L_law_b687 st k23 h v0 v1 v2 v3 v4 = some 1) (hR : Rl D ids (fun q : Nat => s.heap.size ≤ q) h s H) (hz : H.size = z) (hS : va_S (fun q : Nat => s.heap.size ≤ q) s.heap H locs) (hl : lv_has ls 9 [(0, .ref v0), (1, .ref v1), (2, .ref v2), (3, .ref v3), (4, .int v4)]) : W p l e room_1 s m args below meth c H locs kc ks Q (F0 m 687 ls []) := by
  unfold s_L_law_b687 at hrun
  refine W.widen (k := KC) (n := KS) hkc hks ?_
  refine lv_goto (tgt := 1335) hx hb dL_law_687 (by decide) ?_
  exact k_L_law_b1335 hx hb hml hown hts hE hA hfl hend hKC hKS (Nat.le_refl _) (Nat.le_refl _) hk23 _ _ _ _ _ _ _ _ _ _ hrun hR hz hS (lv_sub hl [0, 1, 2, 3, 4] rfl)
set_option maxRecDepth 100000 in
set_option maxHeartbeats 8000000 in
theorem k_L_law_b643 {p : Program} {l : Launch} {e : Env} {s : State} {m : MethodId} {args : Array Value} {below : List Frame} {meth : Method} {c : Code} {D : va_G} {ids : m_I3} {st : m_T} {Q : State → Prop} {k23 : mH → Nat → Nat → Nat → Nat → Int32 → Option Int32} {kc ks KC KS : Nat} (hx : p.tables.exec = Jvm.exec) (hb : c.code = cL_law) (hml : c.maxLocals = 9) (hown : s.vm.findClass RL = some m.cls) (hts : ∀ w ∈ (m_ws yX1_at cX1_at 2 (some .int)), w.before args s = true) (hE : m_EV st (fun q : Nat => s.heap.size ≤ q) s s.heap) (hA : ∀ q, s.heap.size ≤ q → (fun q : Nat => s.heap.size ≤ q) q) (hfl : l.stackTraces = false) (hend : ∀ (H : Heap) (ls : Array Slot), W p l e room_1 s m args below meth c H [] 601024 7293034 Q (F0 m 1342 ls [.int 1])) (hKC : KC ≤ 600000) (hKS : KS ≤ 7000000) (hkc : kc ≤ KC) (hks : ks ≤ KS) (hk23 : ∀ (h : mH) (v0 : Nat) (v1 : Nat) (v2 : Nat) (v3 : Nat) (v4 : Int32) (z : Nat) (H : Heap) (locs : List Loc) (ls : Array Slot), k23 h v0 v1 v2 v3 v4 = some 1 → Rl D ids (fun q : Nat => s.heap.size ≤ q) h s H → H.size = z → va_S (fun q : Nat => s.heap.size ≤ q) s.heap H locs → lv_has ls 9 [(0, .ref v0), (1, .ref v1), (2, .ref v2), (3, .ref v3), (4, .int v4)] → W p l e room_1 s m args below meth c H locs KC KS Q (F0 m 23 ls [])) (h : mH) (v0 : Nat) (v1 : Nat) (v2 : Nat) (v3 : Nat) (v4 : Int32) (z : Nat) (H : Heap) (locs : List Loc) (ls : Array Slot) (hrun : s_L_law_b643 st k23 h v0 v1 v2 v3 v4 = some 1) (hR : Rl D ids (fun q : Nat => s.heap.size ≤ q) h s H) (hz : H.size = z) (hS : va_S (fun q : Nat => s.heap.size ≤ q) s.heap H locs) (hl : lv_has ls 9 [(0, .ref v0), (1, .ref v1), (2, .ref v2), (3, .ref v3), (4, .int v4)]) : W p l e room_1 s m args below meth c H locs kc ks Q (F0 m 643 ls []) := by
  unfold s_L_law_b643 at hrun
  refine W.widen (k := KC) (n := KS) hkc hks ?_
  refine lv_goto (tgt := 1335) hx hb dL_law_643 (by decide) ?_
  exact k_L_law_b1335 hx hb hml hown hts hE hA hfl hend hKC hKS (Nat.le_refl _) (Nat.le_refl _) hk23 _ _ _ _ _ _ _ _ _ _ hrun hR hz hS (lv_sub hl [0, 1, 2, 3, 4] rfl)
set_option maxRecDepth 100000 in
set_option maxHeartbeats 8000000 in
theorem k_L_law_b573 {p : Program} {l : Launch} {e : Env} {s : State} {m : MethodId} {args : Array Value} {below : List Frame} {meth : Method} {c : Code} {D : va_G} {ids : m_I3} {st : m_T} {Q : State → Prop} {k23 : mH → Nat → Nat → Nat → Nat → Int32 → Option Int32} {kc ks KC KS : Nat} (hx : p.tables.exec = Jvm.exec) (hb : c.code = cL_law) (hml : c.maxLocals = 9) (hown : s.vm.findClass RL = some m.cls) (hts : ∀ w ∈ (m_ws yX1_at cX1_at 2 (some .int)), w.before args s = true) (hE : m_EV st (fun q : Nat => s.heap.size ≤ q) s s.heap) (hA : ∀ q, s.heap.size ≤ q → (fun q : Nat => s.heap.size ≤ q) q) (hfl : l.stackTraces = false) (hend : ∀ (H : Heap) (ls : Array Slot), W p l e room_1 s m args below meth c H [] 601024 7293034 Q (F0 m 1342 ls [.int 1])) (hKC : KC ≤ 600000) (hKS : KS ≤ 7000000) (hkc : kc ≤ KC) (hks : ks ≤ KS) (hk23 : ∀ (h : mH) (v0 : Nat) (v1 : Nat) (v2 : Nat) (v3 : Nat) (v4 : Int32) (z : Nat) (H : Heap) (locs : List Loc) (ls : Array Slot), k23 h v0 v1 v2 v3 v4 = some 1 → Rl D ids (fun q : Nat => s.heap.size ≤ q) h s H → H.size = z → va_S (fun q : Nat => s.heap.size ≤ q) s.heap H locs → lv_has ls 9 [(0, .ref v0), (1, .ref v1), (2, .ref v2), (3, .ref v3), (4, .int v4)] → W p l e room_1 s m args below meth c H locs KC KS Q (F0 m 23 ls [])) (h : mH) (v0 : Nat) (v1 : Nat) (v2 : Nat) (v3 : Nat) (v4 : Int32) (z : Nat) (H : Heap) (locs : List Loc) (ls : Array Slot) (hrun : s_L_law_b573 st k23 h v0 v1 v2 v3 v4 = some 1) (hR : Rl D ids (fun q : Nat => s.heap.size ≤ q) h s H) (hz : H.size = z) (hS : va_S (fun q : Nat => s.heap.size ≤ q) s.heap H locs) (hl : lv_has ls 9 [(0, .ref v0), (1, .ref v1), (2, .ref v2), (3, .ref v3), (4, .int v4)]) : W p l e room_1 s m args below meth c H locs kc ks Q (F0 m 573 ls []) := by
  unfold s_L_law_b573 at hrun
  refine W.widen (k := KC) (n := KS) hkc hks ?_
  refine lv_goto (tgt := 1335) hx hb dL_law_573 (by decide) ?_
  exact k_L_law_b1335 hx hb hml hown hts hE hA hfl hend hKC hKS (Nat.le_refl _) (Nat.le_refl _) hk23 _ _ _ _ _ _ _ _ _ _ hrun hR hz hS (lv_sub hl [0, 1, 2, 3, 4] rfl)
set_option maxRecDepth 100000 in
set_option maxHeartbeats 8000000 in
theorem k_L_law_b517 {p : Program} {l : Launch} {e : Env} {s : State} {m : MethodId} {args : Array Value} {below : List Frame} {meth : Method} {c : Code} {D : va_G} {ids : m_I3} {st : m_T} {Q : State → Prop} {k23 : mH → Nat → Nat → Nat → Nat → Int32 → Option Int32} {kc ks KC KS : Nat} (hx : p.tables.exec = Jvm.exec) (hb : c.code = cL_law) (hml : c.maxLocals = 9) (hown : s.vm.findClass RL = some m.cls) (hts : ∀ w ∈ (m_ws yX1_at cX1_at 2 (some .int)), w.before args s = true) (hE : m_EV st (fun q : Nat => s.heap.size ≤ q) s s.heap) (hA : ∀ q, s.heap.size ≤ q → (fun q : Nat => s.heap.size ≤ q) q) (hfl : l.stackTraces = false) (hend : ∀ (H : Heap) (ls : Array Slot), W p l e room_1 s m args below meth c H [] 601024 7293034 Q (F0 m 1342 ls [.int 1])) (hKC : KC ≤ 600000) (hKS : KS ≤ 7000000) (hkc : kc ≤ KC) (hks : ks ≤ KS) (hk23 : ∀ (h : mH) (v0 : Nat) (v1 : Nat) (v2 : Nat) (v3 : Nat) (v4 : Int32) (z : Nat) (H : Heap) (locs : List Loc) (ls : Array Slot), k23 h v0 v1 v2 v3 v4 = some 1 → Rl D ids (fun q : Nat => s.heap.size ≤ q) h s H → H.size = z → va_S (fun q : Nat => s.heap.size ≤ q) s.heap H locs → lv_has ls 9 [(0, .ref v0), (1, .ref v1), (2, .ref v2), (3, .ref v3), (4, .int v4)] → W p l e room_1 s m args below meth c H locs KC KS Q (F0 m 23 ls [])) (h : mH) (v0 : Nat) (v1 : Nat) (v2 : Nat) (v3 : Nat) (v4 : Int32) (z : Nat) (H : Heap) (locs : List Loc) (ls : Array Slot) (hrun : s_L_law_b517 st k23 h v0 v1 v2 v3 v4 = some 1) (hR : Rl D ids (fun q : Nat => s.heap.size ≤ q) h s H) (hz : H.size = z) (hS : va_S (fun q : Nat => s.heap.size ≤ q) s.heap H locs) (hl : lv_has ls 9 [(0, .ref v0), (1, .ref v1), (2, .ref v2), (3, .ref v3), (4, .int v4)]) : W p l e room_1 s m args below meth c H locs kc ks Q (F0 m 517 ls []) := by
  unfold s_L_law_b517 at hrun
  refine W.widen (k := KC) (n := KS) hkc hks ?_
  refine lv_goto (tgt := 1335) hx hb dL_law_517 (by decide) ?_
  exact k_L_law_b1335 hx hb hml hown hts hE hA hfl hend hKC hKS (Nat.le_refl _) (Nat.le_refl _) hk23 _ _ _ _ _ _ _ _ _ _ hrun hR hz hS (lv_sub hl [0, 1, 2, 3, 4] rfl)
set_option maxRecDepth 100000 in
set_option maxHeartbeats 8000000 in
theorem k_L_law_b449 {p : Program} {l : Launch} {e : Env} {s : State} {m : MethodId} {args : Array Value} {below : List Frame} {meth : Method} {c : Code} {D : va_G} {ids : m_I3} {st : m_T} {Q : State → Prop} {k23 : mH → Nat → Nat → Nat → Nat → Int32 → Option Int32} {kc ks KC KS : Nat} (hx : p.tables.exec = Jvm.exec) (hb : c.code = cL_law) (hml : c.maxLocals = 9) (hown : s.vm.findClass RL = some m.cls) (hts : ∀ w ∈ (m_ws yX1_at cX1_at 2 (some .int)), w.before args s = true) (hE : m_EV st (fun q : Nat => s.heap.size ≤ q) s s.heap) (hA : ∀ q, s.heap.size ≤ q → (fun q : Nat => s.heap.size ≤ q) q) (hfl : l.stackTraces = false) (hend : ∀ (H : Heap) (ls : Array Slot), W p l e room_1 s m args below meth c H [] 601024 7293034 Q (F0 m 1342 ls [.int 1])) (hKC : KC ≤ 600000) (hKS : KS ≤ 7000000) (hkc : kc ≤ KC) (hks : ks ≤ KS) (hk23 : ∀ (h : mH) (v0 : Nat) (v1 : Nat) (v2 : Nat) (v3 : Nat) (v4 : Int32) (z : Nat) (H : Heap) (locs : List Loc) (ls : Array Slot), k23 h v0 v1 v2 v3 v4 = some 1 → Rl D ids (fun q : Nat => s.heap.size ≤ q) h s H → H.size = z → va_S (fun q : Nat => s.heap.size ≤ q) s.heap H locs → lv_has ls 9 [(0, .ref v0), (1, .ref v1), (2, .ref v2), (3, .ref v3), (4, .int v4)] → W p l e room_1 s m args below meth c H locs KC KS Q (F0 m 23 ls [])) (h : mH) (v0 : Nat) (v1 : Nat) (v2 : Nat) (v3 : Nat) (v4 : Int32) (z : Nat) (H : Heap) (locs : List Loc) (ls : Array Slot) (hrun : s_L_law_b449 st k23 h v0 v1 v2 v3 v4 = some 1) (hR : Rl D ids (fun q : Nat => s.heap.size ≤ q) h s H) (hz : H.size = z) (hS : va_S (fun q : Nat => s.heap.size ≤ q) s.heap H locs) (hl : lv_has ls 9 [(0, .ref v0), (1, .ref v1), (2, .ref v2), (3, .ref v3), (4, .int v4)]) : W p l e room_1 s m args below meth c H locs kc ks Q (F0 m 449 ls []) := by
  unfold s_L_law_b449 at hrun
  refine W.widen (k := KC) (n := KS) hkc hks ?_
  refine lv_goto (tgt := 1335) hx hb dL_law_449 (by decide) ?_
  exact k_L_law_b1335 hx hb hml hown hts hE hA hfl hend hKC hKS (Nat.le_refl _) (Nat.le_refl _) hk23 _ _ _ _ _ _ _ _ _ _ hrun hR hz hS (lv_sub hl [0, 1, 2, 3, 4] rfl)
set_option maxRecDepth 100000 in
set_option maxHeartbeats 8000000 in
theorem k_L_law_b393 {p : Program} {l : Launch} {e : Env} {s : State} {m : MethodId} {args : Array Value} {below : List Frame} {meth : Method} {c : Code} {D : va_G} {ids : m_I3} {st : m_T} {Q : State → Prop} {k23 : mH → Nat → Nat → Nat → Nat → Int32 → Option Int32} {kc ks KC KS : Nat} (hx : p.tables.exec = Jvm.exec) (hb : c.code = cL_law) (hml : c.maxLocals = 9) (hown : s.vm.findClass RL = some m.cls) (hts : ∀ w ∈ (m_ws yX1_at cX1_at 2 (some .int)), w.before args s = true) (hE : m_EV st (fun q : Nat => s.heap.size ≤ q) s s.heap) (hA : ∀ q, s.heap.size ≤ q → (fun q : Nat => s.heap.size ≤ q) q) (hfl : l.stackTraces = false) (hend : ∀ (H : Heap) (ls : Array Slot), W p l e room_1 s m args below meth c H [] 601024 7293034 Q (F0 m 1342 ls [.int 1])) (hKC : KC ≤ 600000) (hKS : KS ≤ 7000000) (hkc : kc ≤ KC) (hks : ks ≤ KS) (hk23 : ∀ (h : mH) (v0 : Nat) (v1 : Nat) (v2 : Nat) (v3 : Nat) (v4 : Int32) (z : Nat) (H : Heap) (locs : List Loc) (ls : Array Slot), k23 h v0 v1 v2 v3 v4 = some 1 → Rl D ids (fun q : Nat => s.heap.size ≤ q) h s H → H.size = z → va_S (fun q : Nat => s.heap.size ≤ q) s.heap H locs → lv_has ls 9 [(0, .ref v0), (1, .ref v1), (2, .ref v2), (3, .ref v3), (4, .int v4)] → W p l e room_1 s m args below meth c H locs KC KS Q (F0 m 23 ls [])) (h : mH) (v0 : Nat) (v1 : Nat) (v2 : Nat) (v3 : Nat) (v4 : Int32) (z : Nat) (H : Heap) (locs : List Loc) (ls : Array Slot) (hrun : s_L_law_b393 st k23 h v0 v1 v2 v3 v4 = some 1) (hR : Rl D ids (fun q : Nat => s.heap.size ≤ q) h s H) (hz : H.size = z) (hS : va_S (fun q : Nat => s.heap.size ≤ q) s.heap H locs) (hl : lv_has ls 9 [(0, .ref v0), (1, .ref v1), (2, .ref v2), (3, .ref v3), (4, .int v4)]) : W p l e room_1 s m args below meth c H locs kc ks Q (F0 m 393 ls []) := by
  unfold s_L_law_b393 at hrun
  refine W.widen (k := KC) (n := KS) hkc hks ?_
  refine lv_goto (tgt := 1335) hx hb dL_law_393 (by decide) ?_
  exact k_L_law_b1335 hx hb hml hown hts hE hA hfl hend hKC hKS (Nat.le_refl _) (Nat.le_refl _) hk23 _ _ _ _ _ _ _ _ _ _ hrun hR hz hS (lv_sub hl [0, 1, 2, 3, 4] rfl)
set_option maxRecDepth 100000 in
set_option maxHeartbeats 8000000 in
theorem k_L_law_b313 {p : Program} {l : Launch} {e : Env} {s : State} {m : MethodId} {args : Array Value} {below : List Frame} {meth : Method} {c : Code} {D : va_G} {ids : m_I3} {st : m_T} {Q : State → Prop} {k23 : mH → Nat → Nat → Nat → Nat → Int32 → Option Int32} {kc ks KC KS : Nat} (hx : p.tables.exec = Jvm.exec) (hb : c.code = cL_law) (hml : c.maxLocals = 9) (hown : s.vm.findClass RL = some m.cls) (hts : ∀ w ∈ (m_ws yX1_at cX1_at 2 (some .int)), w.before args s = true) (hE : m_EV st (fun q : Nat => s.heap.size ≤ q) s s.heap) (hA : ∀ q, s.heap.size ≤ q → (fun q : Nat => s.heap.size ≤ q) q) (hfl : l.stackTraces = false) (hend : ∀ (H : Heap) (ls : Array Slot), W p l e room_1 s m args below meth c H [] 601024 7293034 Q (F0 m 1342 ls [.int 1])) (hKC : KC ≤ 600000) (hKS : KS ≤ 7000000) (hkc : kc ≤ KC) (hks : ks ≤ KS) (hk23 : ∀ (h : mH) (v0 : Nat) (v1 : Nat) (v2 : Nat) (v3 : Nat) (v4 : Int32) (z : Nat) (H : Heap) (locs : List Loc) (ls : Array Slot), k23 h v0 v1 v2 v3 v4 = some 1 → Rl D ids (fun q : Nat => s.heap.size ≤ q) h s H → H.size = z → va_S (fun q : Nat => s.heap.size ≤ q) s.heap H locs → lv_has ls 9 [(0, .ref v0), (1, .ref v1), (2, .ref v2), (3, .ref v3), (4, .int v4)] → W p l e room_1 s m args below meth c H locs KC KS Q (F0 m 23 ls [])) (h : mH) (v0 : Nat) (v1 : Nat) (v2 : Nat) (v3 : Nat) (v4 : Int32) (z : Nat) (H : Heap) (locs : List Loc) (ls : Array Slot) (hrun : s_L_law_b313 st k23 h v0 v1 v2 v3 v4 = some 1) (hR : Rl D ids (fun q : Nat => s.heap.size ≤ q) h s H) (hz : H.size = z) (hS : va_S (fun q : Nat => s.heap.size ≤ q) s.heap H locs) (hl : lv_has ls 9 [(0, .ref v0), (1, .ref v1), (2, .ref v2), (3, .ref v3), (4, .int v4)]) : W p l e room_1 s m args below meth c H locs kc ks Q (F0 m 313 ls []) := by
  unfold s_L_law_b313 at hrun
  refine W.widen (k := KC) (n := KS) hkc hks ?_
  refine lv_goto (tgt := 1335) hx hb dL_law_313 (by decide) ?_
  exact k_L_law_b1335 hx hb hml hown hts hE hA hfl hend hKC hKS (Nat.le_refl _) (Nat.le_refl _) hk23 _ _ _ _ _ _ _ _ _ _ hrun hR hz hS (lv_sub hl [0, 1, 2, 3, 4] rfl)
set_option maxRecDepth 100000 in
set_option maxHeartbeats 8000000 in
theorem k_L_law_b257 {p : Program} {l : Launch} {e : Env} {s : State} {m : MethodId} {args : Array Value} {below : List Frame} {meth : Method} {c : Code} {D : va_G} {ids : m_I3} {st : m_T} {Q : State → Prop} {k23 : mH → Nat → Nat → Nat → Nat → Int32 → Option Int32} {kc ks KC KS : Nat} (hx : p.tables.exec = Jvm.exec) (hb : c.code = cL_law) (hml : c.maxLocals = 9) (hown : s.vm.findClass RL = some m.cls) (hts : ∀ w ∈ (m_ws yX1_at cX1_at 2 (some .int)), w.before args s = true) (hE : m_EV st (fun q : Nat => s.heap.size ≤ q) s s.heap) (hA : ∀ q, s.heap.size ≤ q → (fun q : Nat => s.heap.size ≤ q) q) (hfl : l.stackTraces = false) (hend : ∀ (H : Heap) (ls : Array Slot), W p l e room_1 s m args below meth c H [] 601024 7293034 Q (F0 m 1342 ls [.int 1])) (hKC : KC ≤ 600000) (hKS : KS ≤ 7000000) (hkc : kc ≤ KC) (hks : ks ≤ KS) (hk23 : ∀ (h : mH) (v0 : Nat) (v1 : Nat) (v2 : Nat) (v3 : Nat) (v4 : Int32) (z : Nat) (H : Heap) (locs : List Loc) (ls : Array Slot), k23 h v0 v1 v2 v3 v4 = some 1 → Rl D ids (fun q : Nat => s.heap.size ≤ q) h s H → H.size = z → va_S (fun q : Nat => s.heap.size ≤ q) s.heap H locs → lv_has ls 9 [(0, .ref v0), (1, .ref v1), (2, .ref v2), (3, .ref v3), (4, .int v4)] → W p l e room_1 s m args below meth c H locs KC KS Q (F0 m 23 ls [])) (h : mH) (v0 : Nat) (v1 : Nat) (v2 : Nat) (v3 : Nat) (v4 : Int32) (z : Nat) (H : Heap) (locs : List Loc) (ls : Array Slot) (hrun : s_L_law_b257 st k23 h v0 v1 v2 v3 v4 = some 1) (hR : Rl D ids (fun q : Nat => s.heap.size ≤ q) h s H) (hz : H.size = z) (hS : va_S (fun q : Nat => s.heap.size ≤ q) s.heap H locs) (hl : lv_has ls 9 [(0, .ref v0), (1, .ref v1), (2, .ref v2), (3, .ref v3), (4, .int v4)]) : W p l e room_1 s m args below meth c H locs kc ks Q (F0 m 257 ls []) := by
  unfold s_L_law_b257 at hrun
  refine W.widen (k := KC) (n := KS) hkc hks ?_
  refine lv_goto (tgt := 1335) hx hb dL_law_257 (by decide) ?_
  exact k_L_law_b1335 hx hb hml hown hts hE hA hfl hend hKC hKS (Nat.le_refl _) (Nat.le_refl _) hk23 _ _ _ _ _ _ _ _ _ _ hrun hR hz hS (lv_sub hl [0, 1, 2, 3, 4] rfl)
set_option maxRecDepth 100000 in
set_option maxHeartbeats 8000000 in
theorem k_L_law_b224 {p : Program} {l : Launch} {e : Env} {s : State} {m : MethodId} {args : Array Value} {below : List Frame} {meth : Method} {c : Code} {D : va_G} {ids : m_I3} {st : m_T} {Q : State → Prop} {k23 : mH → Nat → Nat → Nat → Nat → Int32 → Option Int32} {kc ks KC KS : Nat} (hx : p.tables.exec = Jvm.exec) (hb : c.code = cL_law) (hml : c.maxLocals = 9) (hown : s.vm.findClass RL = some m.cls) (hts : ∀ w ∈ (m_ws yX1_at cX1_at 2 (some .int)), w.before args s = true) (hE : m_EV st (fun q : Nat => s.heap.size ≤ q) s s.heap) (hA : ∀ q, s.heap.size ≤ q → (fun q : Nat => s.heap.size ≤ q) q) (hfl : l.stackTraces = false) (hend : ∀ (H : Heap) (ls : Array Slot), W p l e room_1 s m args below meth c H [] 601024 7293034 Q (F0 m 1342 ls [.int 1])) (hKC : KC ≤ 600000) (hKS : KS ≤ 7000000) (hkc : kc ≤ KC) (hks : ks ≤ KS) (hk23 : ∀ (h : mH) (v0 : Nat) (v1 : Nat) (v2 : Nat) (v3 : Nat) (v4 : Int32) (z : Nat) (H : Heap) (locs : List Loc) (ls : Array Slot), k23 h v0 v1 v2 v3 v4 = some 1 → Rl D ids (fun q : Nat => s.heap.size ≤ q) h s H → H.size = z → va_S (fun q : Nat => s.heap.size ≤ q) s.heap H locs → lv_has ls 9 [(0, .ref v0), (1, .ref v1), (2, .ref v2), (3, .ref v3), (4, .int v4)] → W p l e room_1 s m args below meth c H locs KC KS Q (F0 m 23 ls [])) (h : mH) (v0 : Nat) (v1 : Nat) (v2 : Nat) (v3 : Nat) (v4 : Int32) (v5 : Int32) (t0 : Nat) (t1 : Int32) (t2 : Int32) (t3 : Int32) (t4 : Int32) (t5 : Int32) (z : Nat) (H : Heap) (locs : List Loc) (ls : Array Slot) (hrun : s_L_law_b224 st k23 h v0 v1 v2 v3 v4 v5 t0 t1 t2 t3 t4 t5 = some 1) (hR : Rl D ids (fun q : Nat => s.heap.size ≤ q) h s H) (hz : H.size = z) (hS : va_S (fun q : Nat => s.heap.size ≤ q) s.heap H locs) (hl : lv_has ls 9 [(0, .ref v0), (1, .ref v1), (2, .ref v2), (3, .ref v3), (4, .int v4), (5, .int v5)]) : W p l e room_1 s m args below meth c H locs kc ks Q (F0 m 224 ls [.int t5, .int t4, .int t3, .int t2, .int t1, .ref t0]) := by
  unfold s_L_law_b224 at hrun
  refine W.widen (k := KC) (n := KS) hkc hks ?_
  obtain ⟨_, ho9, hrun⟩ := m_bind hrun
  obtain ⟨fs9, ho9⟩ := m_is_spec ho9
  obtain ⟨⟨x224, h224⟩, hc9, hrun⟩ := m_bind hrun
  refine mr_calli (mr_runV (As := [.int t1, .int t2, .int t3, .int t4, .int t5]) (rest := []) hx hb hml hown hts (c_X8_tap l D ids st z hc9) yk_X8_tap ys_X8_tap wm_3_77 ⟨(Nat.le_of_ble_eq_true rfl), (Nat.le_of_ble_eq_true rfl)⟩ (mr_recv (ci := 6) hR hE hz hS hA rfl ho9) hl.1 rfl (Nat.le_of_ble_eq_true rfl) dL_law_224 ⟨(by show KC + 0 ≤ 601024; omega), (by show KS + 0 ≤ 7293034; omega)⟩) hR hz hS hA (fun H locs hR hz hS => ?_)
  refine W.widen (k := KC) (n := KS) (Nat.le_refl _) (Nat.le_refl _) ?_
  refine lv_istore (lv' := [(6, .int x224), (0, .ref v0), (1, .ref v1), (2, .ref v2), (3, .ref v3), (4, .int v4), (5, .int v5)]) hx hb dL_law_227 hl (by decide) rfl (fun ls hl => ?_)
  refine lv_aload_n hx hb dL_law_229 rfl (lv_at hl 3 rfl) ?_
  obtain ⟨_, ho9, hrun⟩ := m_bind hrun
  obtain ⟨fs9, ho9⟩ := m_is_spec ho9
  obtain ⟨x230, hc9, hrun⟩ := m_bind hrun
  refine mr_calli (mr_runV (As := []) (rest := []) hx hb hml hown hts (c_X8_thrown l D ids st z hc9) yk_X8_thrown ys_X8_thrown wm_3_73 ⟨(Nat.le_of_ble_eq_true rfl), (Nat.le_of_ble_eq_true rfl)⟩ (mr_recv (ci := 6) hR hE hz hS hA rfl ho9) hl.1 rfl (Nat.le_of_ble_eq_true rfl) dL_law_230 ⟨(by show KC + 0 ≤ 601024; omega), (by show KS + 0 ≤ 7293034; omega)⟩) hR hz hS hA (fun H locs hR hz hS => ?_)
  refine W.widen (k := KC) (n := KS) (Nat.le_refl _) (Nat.le_refl _) ?_
  refine lv_iload hx hb dL_law_233 (lv_at hl 6 rfl) ?_
  refine lv_icmp_eq (tgt := 240) hx hb dL_law_235 (by decide) (fun hc => ?_) (fun hc => ?_)
  · have hrun := mt_t hrun hc
    refine lv_iload hx hb dL_law_240 (lv_at hl 6 rfl) ?_
    refine lv_if_ne (tgt := 257) hx hb dL_law_242 (by decide) (fun hc => ?_) (fun hc => ?_)
    · have hrun := mt_f hrun hc
      exact k_L_law_b257 hx hb hml hown hts hE hA hfl hend hKC hKS (Nat.le_refl _) (Nat.le_refl _) hk23 _ _ _ _ _ _ _ _ _ _ hrun hR hz hS (lv_sub hl [1, 2, 3, 4, 5] rfl)
    · have hrun := mt_t hrun hc
      refine lv_aload_n hx hb dL_law_245 rfl (lv_at hl 4 rfl) ?_
      refine lv_iconst (v := 0) hx hb dL_law_246 (by decide) ?_
      obtain ⟨x247, hc9, hrun⟩ := m_bind hrun
      refine mr_lald hx hb hR hc9 dL_law_247 ?_
      refine lv_iload hx hb dL_law_248 (lv_at hl 0 rfl) ?_
      refine lv_i2l (v := x224.toInt64) hx hb dL_law_250 rfl ?_
      refine W.lcmp hx hb dL_law_251 ?_
      refine lv_if_eq (tgt := 257) hx hb dL_law_252 (by decide) (fun hc => ?_) (fun hc => ?_)
      · have hrun := mt_t hrun hc
        exact k_L_law_b257 hx hb hml hown hts hE hA hfl hend hKC hKS (Nat.le_refl _) (Nat.le_refl _) hk23 _ _ _ _ _ _ _ _ _ _ hrun hR hz hS (lv_sub hl [1, 2, 3, 4, 5] rfl)
      · have hrun := mt_f hrun hc
        refine lv_iconst (v := 0) hx hb dL_law_255 (by decide) ?_
        exact absurd (Option.some.inj hrun) (by decide)
  · have hrun := mt_f hrun hc
    refine lv_iconst (v := 0) hx hb dL_law_238 (by decide) ?_
    exact absurd (Option.some.inj hrun) (by decide)
set_option maxRecDepth 100000 in
set_option maxHeartbeats 8000000 in
theorem k_L_law_b179 {p : Program} {l : Launch} {e : Env} {s : State} {m : MethodId} {args : Array Value} {below : List Frame} {meth : Method} {c : Code} {D : va_G} {ids : m_I3} {st : m_T} {Q : State → Prop} {k23 : mH → Nat → Nat → Nat → Nat → Int32 → Option Int32} {kc ks KC KS : Nat} (hx : p.tables.exec = Jvm.exec) (hb : c.code = cL_law) (hml : c.maxLocals = 9) (hown : s.vm.findClass RL = some m.cls) (hts : ∀ w ∈ (m_ws yX1_at cX1_at 2 (some .int)), w.before args s = true) (hE : m_EV st (fun q : Nat => s.heap.size ≤ q) s s.heap) (hA : ∀ q, s.heap.size ≤ q → (fun q : Nat => s.heap.size ≤ q) q) (hfl : l.stackTraces = false) (hend : ∀ (H : Heap) (ls : Array Slot), W p l e room_1 s m args below meth c H [] 601024 7293034 Q (F0 m 1342 ls [.int 1])) (hKC : KC ≤ 600000) (hKS : KS ≤ 7000000) (hkc : kc + 1 ≤ KC) (hks : ks + 6 ≤ KS) (hk23 : ∀ (h : mH) (v0 : Nat) (v1 : Nat) (v2 : Nat) (v3 : Nat) (v4 : Int32) (z : Nat) (H : Heap) (locs : List Loc) (ls : Array Slot), k23 h v0 v1 v2 v3 v4 = some 1 → Rl D ids (fun q : Nat => s.heap.size ≤ q) h s H → H.size = z → va_S (fun q : Nat => s.heap.size ≤ q) s.heap H locs → lv_has ls 9 [(0, .ref v0), (1, .ref v1), (2, .ref v2), (3, .ref v3), (4, .int v4)] → W p l e room_1 s m args below meth c H locs KC KS Q (F0 m 23 ls [])) (h : mH) (v0 : Nat) (v1 : Nat) (v2 : Nat) (v3 : Nat) (v4 : Int32) (t0 : Nat) (t1 : Int32) (t2 : Int32) (t3 : Int32) (t4 : Int32) (t5 : Int32) (z : Nat) (H : Heap) (locs : List Loc) (ls : Array Slot) (hrun : s_L_law_b179 st k23 h v0 v1 v2 v3 v4 t0 t1 t2 t3 t4 t5 = some 1) (hR : Rl D ids (fun q : Nat => s.heap.size ≤ q) h s H) (hz : H.size = z) (hS : va_S (fun q : Nat => s.heap.size ≤ q) s.heap H locs) (hl : lv_has ls 9 [(0, .ref v0), (1, .ref v1), (2, .ref v2), (3, .ref v3), (4, .int v4)]) : W p l e room_1 s m args below meth c H locs kc ks Q (F0 m 179 ls [.int t5, .int t4, .int t3, .int t2, .int t1, .ref t0]) := by
  unfold s_L_law_b179 at hrun
  refine lv_aload_n hx hb dL_law_179 rfl (lv_at hl 3 rfl) ?_
  obtain ⟨⟨x180, h180⟩, hc9, hrun⟩ := m_bind hrun
  refine mrw_calli (mr_runSW (As := [.ref t0, .int t1, .int t2, .int t3, .int t4, .int t5, .ref v3]) (rest := []) hx hb hml hown hts (c_L_tap l hfl D ids st z hc9) yk_L_tap ys_L_tap wm_1_213 ⟨(Nat.le_of_ble_eq_true rfl), (Nat.le_of_ble_eq_true rfl)⟩ (mr_recvS hR hE hz hS hA) hl.1 rfl (Nat.le_of_ble_eq_true rfl) dL_law_180 ⟨by show kc + 1 ≤ 601024; omega, by show ks + 6 ≤ 7293034; omega⟩) hR hz hS hA (fun H locs hR hS => ?_)
  obtain ⟨z, hz⟩ : ∃ z, H.size = z := ⟨_, rfl⟩
  refine W.widen (k := KC) (n := KS) hkc hks ?_
  refine lv_istore (lv' := [(5, .int x180), (0, .ref v0), (1, .ref v1), (2, .ref v2), (3, .ref v3), (4, .int v4)]) hx hb dL_law_183 hl (by decide) rfl (fun ls hl => ?_)
  refine lv_aload_n hx hb dL_law_185 rfl (lv_at hl 3 rfl) ?_
  refine lv_aload_n hx hb dL_law_186 rfl (lv_at hl 1 rfl) ?_
  refine lv_iload hx hb dL_law_187 (lv_at hl 5 rfl) ?_
  refine lv_iconst (v := 1) hx hb dL_law_189 (by decide) ?_
  refine lv_iadd hx hb dL_law_190 ?_
  obtain ⟨x191, hc9, hrun⟩ := m_bind hrun
  refine mr_iald hx hb hR hc9 dL_law_191 ?_
  refine lv_aload_n hx hb dL_law_192 rfl (lv_at hl 1 rfl) ?_
  refine lv_iload hx hb dL_law_193 (lv_at hl 5 rfl) ?_
  refine lv_iconst (v := 2) hx hb dL_law_195 (by decide) ?_
  refine lv_iadd hx hb dL_law_196 ?_
  obtain ⟨x197, hc9, hrun⟩ := m_bind hrun
  refine mr_iald hx hb hR hc9 dL_law_197 ?_
  refine lv_aload_n hx hb dL_law_198 rfl (lv_at hl 1 rfl) ?_
  refine lv_iload hx hb dL_law_199 (lv_at hl 5 rfl) ?_
  refine lv_iconst (v := 3) hx hb dL_law_201 (by decide) ?_
  refine lv_iadd hx hb dL_law_202 ?_
  obtain ⟨x203, hc9, hrun⟩ := m_bind hrun
  refine mr_iald hx hb hR hc9 dL_law_203 ?_
  refine lv_aload_n hx hb dL_law_204 rfl (lv_at hl 1 rfl) ?_
  refine lv_iload hx hb dL_law_205 (lv_at hl 5 rfl) ?_
  refine lv_iconst (v := 4) hx hb dL_law_207 (by decide) ?_
  refine lv_iadd hx hb dL_law_208 ?_
  obtain ⟨x209, hc9, hrun⟩ := m_bind hrun
  refine mr_iald hx hb hR hc9 dL_law_209 ?_
  refine lv_aload_n hx hb dL_law_210 rfl (lv_at hl 1 rfl) ?_
  refine lv_iload hx hb dL_law_211 (lv_at hl 5 rfl) ?_
  refine lv_iconst (v := 5) hx hb dL_law_213 (by decide) ?_
  refine lv_iadd hx hb dL_law_214 ?_
  obtain ⟨x215, hc9, hrun⟩ := m_bind hrun
  refine mr_iald hx hb hR hc9 dL_law_215 ?_
  refine lv_if_eq (tgt := 223) hx hb dL_law_216 (by decide) (fun hc => ?_) (fun hc => ?_)
  · have hrun := mt_t hrun hc
    refine lv_iconst (v := 0) hx hb dL_law_223 (by decide) ?_
    exact k_L_law_b224 hx hb hml hown hts hE hA hfl hend hKC hKS (Nat.le_refl _) (Nat.le_refl _) hk23 _ _ _ _ _ _ _ _ _ _ _ _ _ _ _ _ _ hrun hR hz hS (lv_sub hl [1, 2, 3, 4, 5, 0] rfl)
  · have hrun := mt_f hrun hc
    refine lv_iconst (v := 1) hx hb dL_law_219 (by decide) ?_
    refine lv_goto (tgt := 224) hx hb dL_law_220 (by decide) ?_
    exact k_L_law_b224 hx hb hml hown hts hE hA hfl hend hKC hKS (Nat.le_refl _) (Nat.le_refl _) hk23 _ _ _ _ _ _ _ _ _ _ _ _ _ _ _ _ _ hrun hR hz hS (lv_sub hl [1, 2, 3, 4, 5, 0] rfl)
set_option maxRecDepth 100000 in
set_option maxHeartbeats 8000000 in
theorem k_L_law_L23 {p : Program} {l : Launch} {e : Env} {s : State} {m : MethodId} {args : Array Value} {below : List Frame} {meth : Method} {c : Code} {D : va_G} {ids : m_I3} {st : m_T} {Q : State → Prop} (hx : p.tables.exec = Jvm.exec) (hb : c.code = cL_law) (hml : c.maxLocals = 9) (hown : s.vm.findClass RL = some m.cls) (hts : ∀ w ∈ (m_ws yX1_at cX1_at 2 (some .int)), w.before args s = true) (hE : m_EV st (fun q : Nat => s.heap.size ≤ q) s s.heap) (hA : ∀ q, s.heap.size ≤ q → (fun q : Nat => s.heap.size ≤ q) q) (hfl : l.stackTraces = false) (hend : ∀ (H : Heap) (ls : Array Slot), W p l e room_1 s m args below meth c H [] 601024 7293034 Q (F0 m 1342 ls [.int 1])) : ∀ (n : Nat), n ≤ 513 → ∀ (h : mH) (v0 : Nat) (v1 : Nat) (v2 : Nat) (v3 : Nat) (v4 : Int32) (z : Nat) (H : Heap) (locs : List Loc) (ls : Array Slot), s_L_law_L23 st n h v0 v1 v2 v3 v4 = some 1 → Rl D ids (fun q : Nat => s.heap.size ≤ q) h s H → H.size = z → va_S (fun q : Nat => s.heap.size ≤ q) s.heap H locs → lv_has ls 9 [(0, .ref v0), (1, .ref v1), (2, .ref v2), (3, .ref v3), (4, .int v4)] → W p l e room_1 s m args below meth c H locs (600000 - n) (7000000 - 6 * n) Q (F0 m 23 ls []) := by
  intro n
  induction n with
  | zero => intro _ h v0 v1 v2 v3 v4 z H locs ls hrun; exact absurd hrun (by intro h9; cases h9)
  | succ n ih =>
    intro hn h v0 v1 v2 v3 v4 z H locs ls hrun hR hz hS hl
    rw [s_L_law_L23] at hrun
    have hkc : 600000 - (n + 1) + 1 ≤ 600000 - n := by omega
    have hks : 7000000 - 6 * (n + 1) + 6 ≤ 7000000 - 6 * n := by omega
    have hKC : 600000 - n ≤ 600000 := by omega
    have hKS : 7000000 - 6 * n ≤ 7000000 := by omega
    generalize 600000 - (n + 1) = kc at hkc ⊢
    generalize 7000000 - 6 * (n + 1) = ks at hks ⊢
    generalize 600000 - n = KC at hkc hKC ih
    generalize 7000000 - 6 * n = KS at hks hKS ih
    refine lv_iload hx hb dL_law_23 (lv_at hl 4 rfl) ?_
    refine lv_aload_n hx hb dL_law_25 rfl (lv_at hl 0 rfl) ?_
    obtain ⟨x26, hc9, hrun⟩ := m_bind hrun
    refine mr_ilen hx hb hR hc9 dL_law_26 ?_
    refine lv_bipush (v := 6) hx hb dL_law_27 (by decide) ?_
    refine lv_isub hx hb dL_law_29 ?_
    refine lv_icmp_gt (tgt := 1341) hx hb dL_law_30 (by decide) (fun hc => ?_) (fun hc => ?_)
    · have hrun := mt_t hrun hc
      refine lv_iconst (v := 1) hx hb dL_law_1341 (by decide) ?_
      refine va_forget hS.2.2 ?_
      refine W.widen (k := 601024) (n := 7293034) (by omega) (by omega) ?_
      exact hend _ _
    · have hrun := mt_f hrun hc
      refine lv_aload_n hx hb dL_law_33 rfl (lv_at hl 0 rfl) ?_
      refine lv_iload hx hb dL_law_34 (lv_at hl 4 rfl) ?_
      obtain ⟨x36, hc9, hrun⟩ := m_bind hrun
      refine mr_iald hx hb hR hc9 dL_law_36 ?_
      refine lv_bipush (v := 31) hx hb dL_law_37 (by decide) ?_
      refine lv_iand hx hb dL_law_39 ?_
      by_cases hc0 : (x36 &&& 31) = 0
      · have hrun := mt_t hrun hc0
        refine lv_tableIn (tgt := 140) (off := 100) hx hb dL_law_40 (by rw [hc0]; decide) (by rw [hc0]; decide) (by rw [hc0]; rfl) (by decide) ?_
        refine lv_aload_n hx hb dL_law_140 rfl (lv_at hl 1 rfl) ?_
        refine lv_aload_n hx hb dL_law_141 rfl (lv_at hl 0 rfl) ?_
        refine lv_iload hx hb dL_law_142 (lv_at hl 4 rfl) ?_
        refine lv_iconst (v := 1) hx hb dL_law_144 (by decide) ?_
        refine lv_iadd hx hb dL_law_145 ?_
        obtain ⟨x146, hc9, hrun⟩ := m_bind hrun
        refine mr_iald hx hb hR hc9 dL_law_146 ?_
        refine lv_aload_n hx hb dL_law_147 rfl (lv_at hl 0 rfl) ?_
        refine lv_iload hx hb dL_law_148 (lv_at hl 4 rfl) ?_
        refine lv_iconst (v := 2) hx hb dL_law_150 (by decide) ?_
        refine lv_iadd hx hb dL_law_151 ?_
        obtain ⟨x152, hc9, hrun⟩ := m_bind hrun
        refine mr_iald hx hb hR hc9 dL_law_152 ?_
        refine lv_aload_n hx hb dL_law_153 rfl (lv_at hl 0 rfl) ?_
        refine lv_iload hx hb dL_law_154 (lv_at hl 4 rfl) ?_
        refine lv_iconst (v := 3) hx hb dL_law_156 (by decide) ?_
        refine lv_iadd hx hb dL_law_157 ?_
        obtain ⟨x158, hc9, hrun⟩ := m_bind hrun
        refine mr_iald hx hb hR hc9 dL_law_158 ?_
        refine lv_aload_n hx hb dL_law_159 rfl (lv_at hl 0 rfl) ?_
        refine lv_iload hx hb dL_law_160 (lv_at hl 4 rfl) ?_
        refine lv_iconst (v := 4) hx hb dL_law_162 (by decide) ?_
        refine lv_iadd hx hb dL_law_163 ?_
        obtain ⟨x164, hc9, hrun⟩ := m_bind hrun
        refine mr_iald hx hb hR hc9 dL_law_164 ?_
        refine lv_aload_n hx hb dL_law_165 rfl (lv_at hl 0 rfl) ?_
        refine lv_iload hx hb dL_law_166 (lv_at hl 4 rfl) ?_
        refine lv_iconst (v := 5) hx hb dL_law_168 (by decide) ?_
        refine lv_iadd hx hb dL_law_169 ?_
        obtain ⟨x170, hc9, hrun⟩ := m_bind hrun
        refine mr_iald hx hb hR hc9 dL_law_170 ?_
        refine lv_if_eq (tgt := 178) hx hb dL_law_171 (by decide) (fun hc => ?_) (fun hc => ?_)
        · have hrun := mt_t hrun hc
          refine lv_iconst (v := 0) hx hb dL_law_178 (by decide) ?_
          exact k_L_law_b179 hx hb hml hown hts hE hA hfl hend hKC hKS hkc hks (ih (by omega)) _ _ _ _ _ _ _ _ _ _ _ _ _ _ _ _ hrun hR hz hS (lv_sub hl [0, 1, 2, 3, 4] rfl)
        · have hrun := mt_f hrun hc
          refine lv_iconst (v := 1) hx hb dL_law_174 (by decide) ?_
          refine lv_goto (tgt := 179) hx hb dL_law_175 (by decide) ?_
          exact k_L_law_b179 hx hb hml hown hts hE hA hfl hend hKC hKS hkc hks (ih (by omega)) _ _ _ _ _ _ _ _ _ _ _ _ _ _ _ _ hrun hR hz hS (lv_sub hl [0, 1, 2, 3, 4] rfl)
      have hrun := mt_f hrun hc0
      have hn0 : ¬ (x36 &&& 31).toInt = 0 := lv_neT hc0 rfl
      by_cases hc1 : (x36 &&& 31) = 1
      · have hrun := mt_t hrun hc1
        refine lv_tableIn (tgt := 260) (off := 220) hx hb dL_law_40 (by rw [hc1]; decide) (by rw [hc1]; decide) (by rw [hc1]; rfl) (by decide) ?_
        refine lv_aload_n hx hb dL_law_260 rfl (lv_at hl 1 rfl) ?_
        refine lv_aload_n hx hb dL_law_261 rfl (lv_at hl 0 rfl) ?_
        refine lv_iload hx hb dL_law_262 (lv_at hl 4 rfl) ?_
        refine lv_iconst (v := 1) hx hb dL_law_264 (by decide) ?_
        refine lv_iadd hx hb dL_law_265 ?_
        obtain ⟨x266, hc9, hrun⟩ := m_bind hrun
        refine mr_iald hx hb hR hc9 dL_law_266 ?_
        refine lv_aload_n hx hb dL_law_267 rfl (lv_at hl 3 rfl) ?_
        obtain ⟨⟨x268, h268⟩, hc9, hrun⟩ := m_bind hrun
        refine mrw_calli (mr_runSW (As := [.ref v1, .int x266, .ref v3]) (rest := []) hx hb hml hown hts (c_L_remove l hfl D ids st z hc9) yk_L_remove ys_L_remove wm_2_91 ⟨(Nat.le_of_ble_eq_true rfl), (Nat.le_of_ble_eq_true rfl)⟩ (mr_recvS hR hE hz hS hA) hl.1 rfl (Nat.le_of_ble_eq_true rfl) dL_law_268 ⟨by show kc + 1 ≤ 601024; omega, by show ks + 6 ≤ 7293034; omega⟩) hR hz hS hA (fun H locs hR hS => ?_)
        obtain ⟨z, hz⟩ : ∃ z, H.size = z := ⟨_, rfl⟩
        refine W.widen (k := KC) (n := KS) hkc hks ?_
        refine lv_istore (lv' := [(5, .int x268), (0, .ref v0), (1, .ref v1), (2, .ref v2), (3, .ref v3), (4, .int v4)]) hx hb dL_law_271 hl (by decide) rfl (fun ls hl => ?_)
        refine lv_aload_n hx hb dL_law_273 rfl (lv_at hl 3 rfl) ?_
        refine lv_aload_n hx hb dL_law_274 rfl (lv_at hl 1 rfl) ?_
        refine lv_iload hx hb dL_law_275 (lv_at hl 5 rfl) ?_
        refine lv_iconst (v := 1) hx hb dL_law_277 (by decide) ?_
        refine lv_iadd hx hb dL_law_278 ?_
        obtain ⟨x279, hc9, hrun⟩ := m_bind hrun
        refine mr_iald hx hb hR hc9 dL_law_279 ?_
        obtain ⟨_, ho9, hrun⟩ := m_bind hrun
        obtain ⟨fs9, ho9⟩ := m_is_spec ho9
        obtain ⟨⟨x280, h280⟩, hc9, hrun⟩ := m_bind hrun
        refine mr_calli (mr_runV (As := [.int x279]) (rest := []) hx hb hml hown hts (c_X8_remove l D ids st z hc9) yk_X8_remove ys_X8_remove wm_3_110 ⟨(Nat.le_of_ble_eq_true rfl), (Nat.le_of_ble_eq_true rfl)⟩ (mr_recv (ci := 6) hR hE hz hS hA rfl ho9) hl.1 rfl (Nat.le_of_ble_eq_true rfl) dL_law_280 ⟨(by show KC + 0 ≤ 601024; omega), (by show KS + 0 ≤ 7293034; omega)⟩) hR hz hS hA (fun H locs hR hz hS => ?_)
        refine W.widen (k := KC) (n := KS) (Nat.le_refl _) (Nat.le_refl _) ?_
        refine lv_istore (lv' := [(6, .int x280), (5, .int x268), (0, .ref v0), (1, .ref v1), (2, .ref v2), (3, .ref v3), (4, .int v4)]) hx hb dL_law_283 hl (by decide) rfl (fun ls hl => ?_)
        refine lv_aload_n hx hb dL_law_285 rfl (lv_at hl 4 rfl) ?_
        obtain ⟨_, ho9, hrun⟩ := m_bind hrun
        obtain ⟨fs9, ho9⟩ := m_is_spec ho9
        obtain ⟨x286, hc9, hrun⟩ := m_bind hrun
        refine mr_calli (mr_runV (As := []) (rest := []) hx hb hml hown hts (c_X8_thrown l D ids st z hc9) yk_X8_thrown ys_X8_thrown wm_3_73 ⟨(Nat.le_of_ble_eq_true rfl), (Nat.le_of_ble_eq_true rfl)⟩ (mr_recv (ci := 6) hR hE hz hS hA rfl ho9) hl.1 rfl (Nat.le_of_ble_eq_true rfl) dL_law_286 ⟨(by show KC + 0 ≤ 601024; omega), (by show KS + 0 ≤ 7293034; omega)⟩) hR hz hS hA (fun H locs hR hz hS => ?_)
        refine W.widen (k := KC) (n := KS) (Nat.le_refl _) (Nat.le_refl _) ?_
        refine lv_iload hx hb dL_law_289 (lv_at hl 1 rfl) ?_
        refine lv_icmp_eq (tgt := 296) hx hb dL_law_291 (by decide) (fun hc => ?_) (fun hc => ?_)
        · have hrun := mt_t hrun hc
          refine lv_iload hx hb dL_law_296 (lv_at hl 1 rfl) ?_
          refine lv_if_ne (tgt := 313) hx hb dL_law_298 (by decide) (fun hc => ?_) (fun hc => ?_)
          · have hrun := mt_f hrun hc
            exact k_L_law_b313 hx hb hml hown hts hE hA hfl hend hKC hKS (Nat.le_refl _) (Nat.le_refl _) (ih (by omega)) _ _ _ _ _ _ _ _ _ _ hrun hR hz hS (lv_sub hl [2, 3, 4, 5, 6] rfl)
          · have hrun := mt_t hrun hc
            refine lv_aload_n hx hb dL_law_301 rfl (lv_at hl 5 rfl) ?_
            refine lv_iconst (v := 0) hx hb dL_law_302 (by decide) ?_
            obtain ⟨x303, hc9, hrun⟩ := m_bind hrun
            refine mr_lald hx hb hR hc9 dL_law_303 ?_
            refine lv_iload hx hb dL_law_304 (lv_at hl 0 rfl) ?_
            refine lv_i2l (v := x280.toInt64) hx hb dL_law_306 rfl ?_
            refine W.lcmp hx hb dL_law_307 ?_
            refine lv_if_eq (tgt := 313) hx hb dL_law_308 (by decide) (fun hc => ?_) (fun hc => ?_)
            · have hrun := mt_t hrun hc
              exact k_L_law_b313 hx hb hml hown hts hE hA hfl hend hKC hKS (Nat.le_refl _) (Nat.le_refl _) (ih (by omega)) _ _ _ _ _ _ _ _ _ _ hrun hR hz hS (lv_sub hl [2, 3, 4, 5, 6] rfl)
            · have hrun := mt_f hrun hc
              refine lv_iconst (v := 0) hx hb dL_law_311 (by decide) ?_
              exact absurd (Option.some.inj hrun) (by decide)
        · have hrun := mt_f hrun hc
          refine lv_iconst (v := 0) hx hb dL_law_294 (by decide) ?_
          exact absurd (Option.some.inj hrun) (by decide)
      have hrun := mt_f hrun hc1
      have hn1 : ¬ (x36 &&& 31).toInt = 1 := lv_neT hc1 rfl
      by_cases hc2 : (x36 &&& 31) = 2
      · have hrun := mt_t hrun hc2
        refine lv_tableIn (tgt := 316) (off := 276) hx hb dL_law_40 (by rw [hc2]; decide) (by rw [hc2]; decide) (by rw [hc2]; rfl) (by decide) ?_
        refine lv_aload_n hx hb dL_law_316 rfl (lv_at hl 1 rfl) ?_
        refine lv_aload_n hx hb dL_law_317 rfl (lv_at hl 0 rfl) ?_
        refine lv_iload hx hb dL_law_318 (lv_at hl 4 rfl) ?_
        refine lv_iconst (v := 1) hx hb dL_law_320 (by decide) ?_
        refine lv_iadd hx hb dL_law_321 ?_
        obtain ⟨x322, hc9, hrun⟩ := m_bind hrun
        refine mr_iald hx hb hR hc9 dL_law_322 ?_
        refine lv_aload_n hx hb dL_law_323 rfl (lv_at hl 0 rfl) ?_
        refine lv_iload hx hb dL_law_324 (lv_at hl 4 rfl) ?_
        refine lv_iconst (v := 2) hx hb dL_law_326 (by decide) ?_
        refine lv_iadd hx hb dL_law_327 ?_
        obtain ⟨x328, hc9, hrun⟩ := m_bind hrun
        refine mr_iald hx hb hR hc9 dL_law_328 ?_
        refine lv_aload_n hx hb dL_law_329 rfl (lv_at hl 0 rfl) ?_
        refine lv_iload hx hb dL_law_330 (lv_at hl 4 rfl) ?_
        refine lv_iconst (v := 3) hx hb dL_law_332 (by decide) ?_
        refine lv_iadd hx hb dL_law_333 ?_
        obtain ⟨x334, hc9, hrun⟩ := m_bind hrun
        refine mr_iald hx hb hR hc9 dL_law_334 ?_
        refine lv_aload_n hx hb dL_law_335 rfl (lv_at hl 3 rfl) ?_
        obtain ⟨⟨x336, h336⟩, hc9, hrun⟩ := m_bind hrun
        refine mrw_calli (mr_runSW (As := [.ref v1, .int x322, .int x328, .int x334, .ref v3]) (rest := []) hx hb hml hown hts (c_L_claim l hfl D ids st z hc9) yk_L_claim ys_L_claim wm_2_123 ⟨(Nat.le_of_ble_eq_true rfl), (Nat.le_of_ble_eq_true rfl)⟩ (mr_recvS hR hE hz hS hA) hl.1 rfl (Nat.le_of_ble_eq_true rfl) dL_law_336 ⟨by show kc + 1 ≤ 601024; omega, by show ks + 6 ≤ 7293034; omega⟩) hR hz hS hA (fun H locs hR hS => ?_)
        obtain ⟨z, hz⟩ : ∃ z, H.size = z := ⟨_, rfl⟩
        refine W.widen (k := KC) (n := KS) hkc hks ?_
        refine lv_istore (lv' := [(5, .int x336), (0, .ref v0), (1, .ref v1), (2, .ref v2), (3, .ref v3), (4, .int v4)]) hx hb dL_law_339 hl (by decide) rfl (fun ls hl => ?_)
        refine lv_aload_n hx hb dL_law_341 rfl (lv_at hl 3 rfl) ?_
        refine lv_aload_n hx hb dL_law_342 rfl (lv_at hl 1 rfl) ?_
        refine lv_iload hx hb dL_law_343 (lv_at hl 5 rfl) ?_
        refine lv_iconst (v := 1) hx hb dL_law_345 (by decide) ?_
        refine lv_iadd hx hb dL_law_346 ?_
        obtain ⟨x347, hc9, hrun⟩ := m_bind hrun
        refine mr_iald hx hb hR hc9 dL_law_347 ?_
        refine lv_aload_n hx hb dL_law_348 rfl (lv_at hl 1 rfl) ?_
        refine lv_iload hx hb dL_law_349 (lv_at hl 5 rfl) ?_
        refine lv_iconst (v := 2) hx hb dL_law_351 (by decide) ?_
        refine lv_iadd hx hb dL_law_352 ?_
        obtain ⟨x353, hc9, hrun⟩ := m_bind hrun
        refine mr_iald hx hb hR hc9 dL_law_353 ?_
        refine lv_aload_n hx hb dL_law_354 rfl (lv_at hl 1 rfl) ?_
        refine lv_iload hx hb dL_law_355 (lv_at hl 5 rfl) ?_
        refine lv_iconst (v := 3) hx hb dL_law_357 (by decide) ?_
        refine lv_iadd hx hb dL_law_358 ?_
        obtain ⟨x359, hc9, hrun⟩ := m_bind hrun
        refine mr_iald hx hb hR hc9 dL_law_359 ?_
        obtain ⟨_, ho9, hrun⟩ := m_bind hrun
        obtain ⟨fs9, ho9⟩ := m_is_spec ho9
        obtain ⟨⟨x360, h360⟩, hc9, hrun⟩ := m_bind hrun
        refine mr_calli (mr_runV (As := [.int x347, .int x353, .int x359]) (rest := []) hx hb hml hown hts (c_X8_claim l D ids st z hc9) yk_X8_claim ys_X8_claim wm_3_118 ⟨(Nat.le_of_ble_eq_true rfl), (Nat.le_of_ble_eq_true rfl)⟩ (mr_recv (ci := 6) hR hE hz hS hA rfl ho9) hl.1 rfl (Nat.le_of_ble_eq_true rfl) dL_law_360 ⟨(by show KC + 0 ≤ 601024; omega), (by show KS + 0 ≤ 7293034; omega)⟩) hR hz hS hA (fun H locs hR hz hS => ?_)
        refine W.widen (k := KC) (n := KS) (Nat.le_refl _) (Nat.le_refl _) ?_
        refine lv_istore (lv' := [(6, .int x360), (5, .int x336), (0, .ref v0), (1, .ref v1), (2, .ref v2), (3, .ref v3), (4, .int v4)]) hx hb dL_law_363 hl (by decide) rfl (fun ls hl => ?_)
        refine lv_aload_n hx hb dL_law_365 rfl (lv_at hl 4 rfl) ?_
        obtain ⟨_, ho9, hrun⟩ := m_bind hrun
        obtain ⟨fs9, ho9⟩ := m_is_spec ho9
        obtain ⟨x366, hc9, hrun⟩ := m_bind hrun
        refine mr_calli (mr_runV (As := []) (rest := []) hx hb hml hown hts (c_X8_thrown l D ids st z hc9) yk_X8_thrown ys_X8_thrown wm_3_73 ⟨(Nat.le_of_ble_eq_true rfl), (Nat.le_of_ble_eq_true rfl)⟩ (mr_recv (ci := 6) hR hE hz hS hA rfl ho9) hl.1 rfl (Nat.le_of_ble_eq_true rfl) dL_law_366 ⟨(by show KC + 0 ≤ 601024; omega), (by show KS + 0 ≤ 7293034; omega)⟩) hR hz hS hA (fun H locs hR hz hS => ?_)
        refine W.widen (k := KC) (n := KS) (Nat.le_refl _) (Nat.le_refl _) ?_
        refine lv_iload hx hb dL_law_369 (lv_at hl 1 rfl) ?_
        refine lv_icmp_eq (tgt := 376) hx hb dL_law_371 (by decide) (fun hc => ?_) (fun hc => ?_)
        · have hrun := mt_t hrun hc
          refine lv_iload hx hb dL_law_376 (lv_at hl 1 rfl) ?_
          refine lv_if_ne (tgt := 393) hx hb dL_law_378 (by decide) (fun hc => ?_) (fun hc => ?_)
          · have hrun := mt_f hrun hc
            exact k_L_law_b393 hx hb hml hown hts hE hA hfl hend hKC hKS (Nat.le_refl _) (Nat.le_refl _) (ih (by omega)) _ _ _ _ _ _ _ _ _ _ hrun hR hz hS (lv_sub hl [2, 3, 4, 5, 6] rfl)
          · have hrun := mt_t hrun hc
            refine lv_aload_n hx hb dL_law_381 rfl (lv_at hl 5 rfl) ?_
            refine lv_iconst (v := 0) hx hb dL_law_382 (by decide) ?_
            obtain ⟨x383, hc9, hrun⟩ := m_bind hrun
            refine mr_lald hx hb hR hc9 dL_law_383 ?_
            refine lv_iload hx hb dL_law_384 (lv_at hl 0 rfl) ?_
            refine lv_i2l (v := x360.toInt64) hx hb dL_law_386 rfl ?_
            refine W.lcmp hx hb dL_law_387 ?_
            refine lv_if_eq (tgt := 393) hx hb dL_law_388 (by decide) (fun hc => ?_) (fun hc => ?_)
            · have hrun := mt_t hrun hc
              exact k_L_law_b393 hx hb hml hown hts hE hA hfl hend hKC hKS (Nat.le_refl _) (Nat.le_refl _) (ih (by omega)) _ _ _ _ _ _ _ _ _ _ hrun hR hz hS (lv_sub hl [2, 3, 4, 5, 6] rfl)
            · have hrun := mt_f hrun hc
              refine lv_iconst (v := 0) hx hb dL_law_391 (by decide) ?_
              exact absurd (Option.some.inj hrun) (by decide)
        · have hrun := mt_f hrun hc
          refine lv_iconst (v := 0) hx hb dL_law_374 (by decide) ?_
          exact absurd (Option.some.inj hrun) (by decide)
      have hrun := mt_f hrun hc2
      have hn2 : ¬ (x36 &&& 31).toInt = 2 := lv_neT hc2 rfl
      by_cases hc3 : (x36 &&& 31) = 3
      · have hrun := mt_t hrun hc3
        refine lv_tableIn (tgt := 396) (off := 356) hx hb dL_law_40 (by rw [hc3]; decide) (by rw [hc3]; decide) (by rw [hc3]; rfl) (by decide) ?_
        refine lv_aload_n hx hb dL_law_396 rfl (lv_at hl 1 rfl) ?_
        refine lv_aload_n hx hb dL_law_397 rfl (lv_at hl 0 rfl) ?_
        refine lv_iload hx hb dL_law_398 (lv_at hl 4 rfl) ?_
        refine lv_iconst (v := 1) hx hb dL_law_400 (by decide) ?_
        refine lv_iadd hx hb dL_law_401 ?_
        obtain ⟨x402, hc9, hrun⟩ := m_bind hrun
        refine mr_iald hx hb hR hc9 dL_law_402 ?_
        refine lv_aload_n hx hb dL_law_403 rfl (lv_at hl 3 rfl) ?_
        obtain ⟨⟨x404, h404⟩, hc9, hrun⟩ := m_bind hrun
        refine mrw_calli (mr_runSW (As := [.ref v1, .int x402, .ref v3]) (rest := []) hx hb hml hown hts (c_L_settle l hfl D ids st z hc9) yk_L_settle ys_L_settle wm_2_150 ⟨(Nat.le_of_ble_eq_true rfl), (Nat.le_of_ble_eq_true rfl)⟩ (mr_recvS hR hE hz hS hA) hl.1 rfl (Nat.le_of_ble_eq_true rfl) dL_law_404 ⟨by show kc + 1 ≤ 601024; omega, by show ks + 6 ≤ 7293034; omega⟩) hR hz hS hA (fun H locs hR hS => ?_)
        obtain ⟨z, hz⟩ : ∃ z, H.size = z := ⟨_, rfl⟩
        refine W.widen (k := KC) (n := KS) hkc hks ?_
        refine lv_istore (lv' := [(5, .int x404), (0, .ref v0), (1, .ref v1), (2, .ref v2), (3, .ref v3), (4, .int v4)]) hx hb dL_law_407 hl (by decide) rfl (fun ls hl => ?_)
        refine lv_aload_n hx hb dL_law_409 rfl (lv_at hl 3 rfl) ?_
        refine lv_aload_n hx hb dL_law_410 rfl (lv_at hl 1 rfl) ?_
        refine lv_iload hx hb dL_law_411 (lv_at hl 5 rfl) ?_
        refine lv_iconst (v := 1) hx hb dL_law_413 (by decide) ?_
        refine lv_iadd hx hb dL_law_414 ?_
        obtain ⟨x415, hc9, hrun⟩ := m_bind hrun
        refine mr_iald hx hb hR hc9 dL_law_415 ?_
        obtain ⟨_, ho9, hrun⟩ := m_bind hrun
        obtain ⟨fs9, ho9⟩ := m_is_spec ho9
        obtain ⟨⟨x416, h416⟩, hc9, hrun⟩ := m_bind hrun
        refine mr_calli (mr_runV (As := [.int x415]) (rest := []) hx hb hml hown hts (c_X8_settle l D ids st z hc9) yk_X8_settle ys_X8_settle wm_3_142 ⟨(Nat.le_of_ble_eq_true rfl), (Nat.le_of_ble_eq_true rfl)⟩ (mr_recv (ci := 6) hR hE hz hS hA rfl ho9) hl.1 rfl (Nat.le_of_ble_eq_true rfl) dL_law_416 ⟨(by show KC + 0 ≤ 601024; omega), (by show KS + 0 ≤ 7293034; omega)⟩) hR hz hS hA (fun H locs hR hz hS => ?_)
        refine W.widen (k := KC) (n := KS) (Nat.le_refl _) (Nat.le_refl _) ?_
        refine lv_istore (lv' := [(6, .int x416), (5, .int x404), (0, .ref v0), (1, .ref v1), (2, .ref v2), (3, .ref v3), (4, .int v4)]) hx hb dL_law_419 hl (by decide) rfl (fun ls hl => ?_)
        refine lv_aload_n hx hb dL_law_421 rfl (lv_at hl 4 rfl) ?_
        obtain ⟨_, ho9, hrun⟩ := m_bind hrun
        obtain ⟨fs9, ho9⟩ := m_is_spec ho9
        obtain ⟨x422, hc9, hrun⟩ := m_bind hrun
        refine mr_calli (mr_runV (As := []) (rest := []) hx hb hml hown hts (c_X8_thrown l D ids st z hc9) yk_X8_thrown ys_X8_thrown wm_3_73 ⟨(Nat.le_of_ble_eq_true rfl), (Nat.le_of_ble_eq_true rfl)⟩ (mr_recv (ci := 6) hR hE hz hS hA rfl ho9) hl.1 rfl (Nat.le_of_ble_eq_true rfl) dL_law_422 ⟨(by show KC + 0 ≤ 601024; omega), (by show KS + 0 ≤ 7293034; omega)⟩) hR hz hS hA (fun H locs hR hz hS => ?_)
        refine W.widen (k := KC) (n := KS) (Nat.le_refl _) (Nat.le_refl _) ?_
        refine lv_iload hx hb dL_law_425 (lv_at hl 1 rfl) ?_
        refine lv_icmp_eq (tgt := 432) hx hb dL_law_427 (by decide) (fun hc => ?_) (fun hc => ?_)
        · have hrun := mt_t hrun hc
          refine lv_iload hx hb dL_law_432 (lv_at hl 1 rfl) ?_
          refine lv_if_ne (tgt := 449) hx hb dL_law_434 (by decide) (fun hc => ?_) (fun hc => ?_)
          · have hrun := mt_f hrun hc
            exact k_L_law_b449 hx hb hml hown hts hE hA hfl hend hKC hKS (Nat.le_refl _) (Nat.le_refl _) (ih (by omega)) _ _ _ _ _ _ _ _ _ _ hrun hR hz hS (lv_sub hl [2, 3, 4, 5, 6] rfl)
          · have hrun := mt_t hrun hc
            refine lv_aload_n hx hb dL_law_437 rfl (lv_at hl 5 rfl) ?_
            refine lv_iconst (v := 0) hx hb dL_law_438 (by decide) ?_
            obtain ⟨x439, hc9, hrun⟩ := m_bind hrun
            refine mr_lald hx hb hR hc9 dL_law_439 ?_
            refine lv_iload hx hb dL_law_440 (lv_at hl 0 rfl) ?_
            refine lv_i2l (v := x416.toInt64) hx hb dL_law_442 rfl ?_
            refine W.lcmp hx hb dL_law_443 ?_
            refine lv_if_eq (tgt := 449) hx hb dL_law_444 (by decide) (fun hc => ?_) (fun hc => ?_)
            · have hrun := mt_t hrun hc
              exact k_L_law_b449 hx hb hml hown hts hE hA hfl hend hKC hKS (Nat.le_refl _) (Nat.le_refl _) (ih (by omega)) _ _ _ _ _ _ _ _ _ _ hrun hR hz hS (lv_sub hl [2, 3, 4, 5, 6] rfl)
            · have hrun := mt_f hrun hc
              refine lv_iconst (v := 0) hx hb dL_law_447 (by decide) ?_
              exact absurd (Option.some.inj hrun) (by decide)
        · have hrun := mt_f hrun hc
          refine lv_iconst (v := 0) hx hb dL_law_430 (by decide) ?_
          exact absurd (Option.some.inj hrun) (by decide)
      have hrun := mt_f hrun hc3
      have hn3 : ¬ (x36 &&& 31).toInt = 3 := lv_neT hc3 rfl
      by_cases hc4 : (x36 &&& 31) = 4
      · have hrun := mt_t hrun hc4
        refine lv_tableIn (tgt := 452) (off := 412) hx hb dL_law_40 (by rw [hc4]; decide) (by rw [hc4]; decide) (by rw [hc4]; rfl) (by decide) ?_
        refine lv_aload_n hx hb dL_law_452 rfl (lv_at hl 1 rfl) ?_
        refine lv_aload_n hx hb dL_law_453 rfl (lv_at hl 0 rfl) ?_
        refine lv_iload hx hb dL_law_454 (lv_at hl 4 rfl) ?_
        refine lv_iconst (v := 1) hx hb dL_law_456 (by decide) ?_
        refine lv_iadd hx hb dL_law_457 ?_
        obtain ⟨x458, hc9, hrun⟩ := m_bind hrun
        refine mr_iald hx hb hR hc9 dL_law_458 ?_
        refine lv_aload_n hx hb dL_law_459 rfl (lv_at hl 0 rfl) ?_
        refine lv_iload hx hb dL_law_460 (lv_at hl 4 rfl) ?_
        refine lv_iconst (v := 2) hx hb dL_law_462 (by decide) ?_
        refine lv_iadd hx hb dL_law_463 ?_
        obtain ⟨x464, hc9, hrun⟩ := m_bind hrun
        refine mr_iald hx hb hR hc9 dL_law_464 ?_
        refine lv_aload_n hx hb dL_law_465 rfl (lv_at hl 3 rfl) ?_
        obtain ⟨⟨x466, h466⟩, hc9, hrun⟩ := m_bind hrun
        refine mrw_calli (mr_runSW (As := [.ref v1, .int x458, .int x464, .ref v3]) (rest := []) hx hb hml hown hts (c_L_set l hfl D ids st z hc9) yk_L_set ys_L_set wm_2_169 ⟨(Nat.le_of_ble_eq_true rfl), (Nat.le_of_ble_eq_true rfl)⟩ (mr_recvS hR hE hz hS hA) hl.1 rfl (Nat.le_of_ble_eq_true rfl) dL_law_466 ⟨by show kc + 1 ≤ 601024; omega, by show ks + 6 ≤ 7293034; omega⟩) hR hz hS hA (fun H locs hR hS => ?_)
        obtain ⟨z, hz⟩ : ∃ z, H.size = z := ⟨_, rfl⟩
        refine W.widen (k := KC) (n := KS) hkc hks ?_
        refine lv_istore (lv' := [(5, .int x466), (0, .ref v0), (1, .ref v1), (2, .ref v2), (3, .ref v3), (4, .int v4)]) hx hb dL_law_469 hl (by decide) rfl (fun ls hl => ?_)
        refine lv_aload_n hx hb dL_law_471 rfl (lv_at hl 3 rfl) ?_
        refine lv_aload_n hx hb dL_law_472 rfl (lv_at hl 1 rfl) ?_
        refine lv_iload hx hb dL_law_473 (lv_at hl 5 rfl) ?_
        refine lv_iconst (v := 1) hx hb dL_law_475 (by decide) ?_
        refine lv_iadd hx hb dL_law_476 ?_
        obtain ⟨x477, hc9, hrun⟩ := m_bind hrun
        refine mr_iald hx hb hR hc9 dL_law_477 ?_
        refine lv_aload_n hx hb dL_law_478 rfl (lv_at hl 1 rfl) ?_
        refine lv_iload hx hb dL_law_479 (lv_at hl 5 rfl) ?_
        refine lv_iconst (v := 2) hx hb dL_law_481 (by decide) ?_
        refine lv_iadd hx hb dL_law_482 ?_
        obtain ⟨x483, hc9, hrun⟩ := m_bind hrun
        refine mr_iald hx hb hR hc9 dL_law_483 ?_
        obtain ⟨_, ho9, hrun⟩ := m_bind hrun
        obtain ⟨fs9, ho9⟩ := m_is_spec ho9
        obtain ⟨⟨x484, h484⟩, hc9, hrun⟩ := m_bind hrun
        refine mr_calli (mr_runV (As := [.int x477, .int x483]) (rest := []) hx hb hml hown hts (c_X8_set l D ids st z hc9) yk_X8_set ys_X8_set wm_3_171 ⟨(Nat.le_of_ble_eq_true rfl), (Nat.le_of_ble_eq_true rfl)⟩ (mr_recv (ci := 6) hR hE hz hS hA rfl ho9) hl.1 rfl (Nat.le_of_ble_eq_true rfl) dL_law_484 ⟨(by show KC + 0 ≤ 601024; omega), (by show KS + 0 ≤ 7293034; omega)⟩) hR hz hS hA (fun H locs hR hz hS => ?_)
        refine W.widen (k := KC) (n := KS) (Nat.le_refl _) (Nat.le_refl _) ?_
        refine lv_istore (lv' := [(6, .int x484), (5, .int x466), (0, .ref v0), (1, .ref v1), (2, .ref v2), (3, .ref v3), (4, .int v4)]) hx hb dL_law_487 hl (by decide) rfl (fun ls hl => ?_)
        refine lv_aload_n hx hb dL_law_489 rfl (lv_at hl 4 rfl) ?_
        obtain ⟨_, ho9, hrun⟩ := m_bind hrun
        obtain ⟨fs9, ho9⟩ := m_is_spec ho9
        obtain ⟨x490, hc9, hrun⟩ := m_bind hrun
        refine mr_calli (mr_runV (As := []) (rest := []) hx hb hml hown hts (c_X8_thrown l D ids st z hc9) yk_X8_thrown ys_X8_thrown wm_3_73 ⟨(Nat.le_of_ble_eq_true rfl), (Nat.le_of_ble_eq_true rfl)⟩ (mr_recv (ci := 6) hR hE hz hS hA rfl ho9) hl.1 rfl (Nat.le_of_ble_eq_true rfl) dL_law_490 ⟨(by show KC + 0 ≤ 601024; omega), (by show KS + 0 ≤ 7293034; omega)⟩) hR hz hS hA (fun H locs hR hz hS => ?_)
        refine W.widen (k := KC) (n := KS) (Nat.le_refl _) (Nat.le_refl _) ?_
        refine lv_iload hx hb dL_law_493 (lv_at hl 1 rfl) ?_
        refine lv_icmp_eq (tgt := 500) hx hb dL_law_495 (by decide) (fun hc => ?_) (fun hc => ?_)
        · have hrun := mt_t hrun hc
          refine lv_iload hx hb dL_law_500 (lv_at hl 1 rfl) ?_
          refine lv_if_ne (tgt := 517) hx hb dL_law_502 (by decide) (fun hc => ?_) (fun hc => ?_)
          · have hrun := mt_f hrun hc
            exact k_L_law_b517 hx hb hml hown hts hE hA hfl hend hKC hKS (Nat.le_refl _) (Nat.le_refl _) (ih (by omega)) _ _ _ _ _ _ _ _ _ _ hrun hR hz hS (lv_sub hl [2, 3, 4, 5, 6] rfl)
          · have hrun := mt_t hrun hc
            refine lv_aload_n hx hb dL_law_505 rfl (lv_at hl 5 rfl) ?_
            refine lv_iconst (v := 0) hx hb dL_law_506 (by decide) ?_
            obtain ⟨x507, hc9, hrun⟩ := m_bind hrun
            refine mr_lald hx hb hR hc9 dL_law_507 ?_
            refine lv_iload hx hb dL_law_508 (lv_at hl 0 rfl) ?_
            refine lv_i2l (v := x484.toInt64) hx hb dL_law_510 rfl ?_
            refine W.lcmp hx hb dL_law_511 ?_
            refine lv_if_eq (tgt := 517) hx hb dL_law_512 (by decide) (fun hc => ?_) (fun hc => ?_)
            · have hrun := mt_t hrun hc
              exact k_L_law_b517 hx hb hml hown hts hE hA hfl hend hKC hKS (Nat.le_refl _) (Nat.le_refl _) (ih (by omega)) _ _ _ _ _ _ _ _ _ _ hrun hR hz hS (lv_sub hl [2, 3, 4, 5, 6] rfl)
            · have hrun := mt_f hrun hc
              refine lv_iconst (v := 0) hx hb dL_law_515 (by decide) ?_
              exact absurd (Option.some.inj hrun) (by decide)
        · have hrun := mt_f hrun hc
          refine lv_iconst (v := 0) hx hb dL_law_498 (by decide) ?_
          exact absurd (Option.some.inj hrun) (by decide)
      have hrun := mt_f hrun hc4
      have hn4 : ¬ (x36 &&& 31).toInt = 4 := lv_neT hc4 rfl
      by_cases hc5 : (x36 &&& 31) = 5
      · have hrun := mt_t hrun hc5
        refine lv_tableIn (tgt := 520) (off := 480) hx hb dL_law_40 (by rw [hc5]; decide) (by rw [hc5]; decide) (by rw [hc5]; rfl) (by decide) ?_
        refine lv_aload_n hx hb dL_law_520 rfl (lv_at hl 1 rfl) ?_
        refine lv_aload_n hx hb dL_law_521 rfl (lv_at hl 0 rfl) ?_
        refine lv_iload hx hb dL_law_522 (lv_at hl 4 rfl) ?_
        refine lv_iconst (v := 1) hx hb dL_law_524 (by decide) ?_
        refine lv_iadd hx hb dL_law_525 ?_
        obtain ⟨x526, hc9, hrun⟩ := m_bind hrun
        refine mr_iald hx hb hR hc9 dL_law_526 ?_
        refine lv_aload_n hx hb dL_law_527 rfl (lv_at hl 3 rfl) ?_
        obtain ⟨⟨x528, h528⟩, hc9, hrun⟩ := m_bind hrun
        refine mrw_calli (mr_runSW (As := [.ref v1, .int x526, .ref v3]) (rest := []) hx hb hml hown hts (c_L_append l hfl D ids st z hc9) yk_L_append ys_L_append wm_2_183 ⟨(Nat.le_of_ble_eq_true rfl), (Nat.le_of_ble_eq_true rfl)⟩ (mr_recvS hR hE hz hS hA) hl.1 rfl (Nat.le_of_ble_eq_true rfl) dL_law_528 ⟨by show kc + 1 ≤ 601024; omega, by show ks + 6 ≤ 7293034; omega⟩) hR hz hS hA (fun H locs hR hS => ?_)
        obtain ⟨z, hz⟩ : ∃ z, H.size = z := ⟨_, rfl⟩
        refine W.widen (k := KC) (n := KS) hkc hks ?_
        refine lv_istore (lv' := [(5, .int x528), (0, .ref v0), (1, .ref v1), (2, .ref v2), (3, .ref v3), (4, .int v4)]) hx hb dL_law_531 hl (by decide) rfl (fun ls hl => ?_)
        refine lv_aload_n hx hb dL_law_533 rfl (lv_at hl 3 rfl) ?_
        refine lv_aload_n hx hb dL_law_534 rfl (lv_at hl 1 rfl) ?_
        refine lv_iload hx hb dL_law_535 (lv_at hl 5 rfl) ?_
        refine lv_iconst (v := 1) hx hb dL_law_537 (by decide) ?_
        refine lv_iadd hx hb dL_law_538 ?_
        obtain ⟨x539, hc9, hrun⟩ := m_bind hrun
        refine mr_iald hx hb hR hc9 dL_law_539 ?_
        obtain ⟨_, ho9, hrun⟩ := m_bind hrun
        obtain ⟨fs9, ho9⟩ := m_is_spec ho9
        obtain ⟨⟨x540, h540⟩, hc9, hrun⟩ := m_bind hrun
        refine mr_calli (mr_runV (As := [.int x539]) (rest := []) hx hb hml hown hts (c_X8_append l D ids st z hc9) yk_X8_append ys_X8_append wm_3_178 ⟨(Nat.le_of_ble_eq_true rfl), (Nat.le_of_ble_eq_true rfl)⟩ (mr_recv (ci := 6) hR hE hz hS hA rfl ho9) hl.1 rfl (Nat.le_of_ble_eq_true rfl) dL_law_540 ⟨(by show KC + 0 ≤ 601024; omega), (by show KS + 0 ≤ 7293034; omega)⟩) hR hz hS hA (fun H locs hR hz hS => ?_)
        refine W.widen (k := KC) (n := KS) (Nat.le_refl _) (Nat.le_refl _) ?_
        refine lv_istore (lv' := [(6, .int x540), (5, .int x528), (0, .ref v0), (1, .ref v1), (2, .ref v2), (3, .ref v3), (4, .int v4)]) hx hb dL_law_543 hl (by decide) rfl (fun ls hl => ?_)
        refine lv_aload_n hx hb dL_law_545 rfl (lv_at hl 4 rfl) ?_
        obtain ⟨_, ho9, hrun⟩ := m_bind hrun
        obtain ⟨fs9, ho9⟩ := m_is_spec ho9
        obtain ⟨x546, hc9, hrun⟩ := m_bind hrun
        refine mr_calli (mr_runV (As := []) (rest := []) hx hb hml hown hts (c_X8_thrown l D ids st z hc9) yk_X8_thrown ys_X8_thrown wm_3_73 ⟨(Nat.le_of_ble_eq_true rfl), (Nat.le_of_ble_eq_true rfl)⟩ (mr_recv (ci := 6) hR hE hz hS hA rfl ho9) hl.1 rfl (Nat.le_of_ble_eq_true rfl) dL_law_546 ⟨(by show KC + 0 ≤ 601024; omega), (by show KS + 0 ≤ 7293034; omega)⟩) hR hz hS hA (fun H locs hR hz hS => ?_)
        refine W.widen (k := KC) (n := KS) (Nat.le_refl _) (Nat.le_refl _) ?_
        refine lv_iload hx hb dL_law_549 (lv_at hl 1 rfl) ?_
        refine lv_icmp_eq (tgt := 556) hx hb dL_law_551 (by decide) (fun hc => ?_) (fun hc => ?_)
        · have hrun := mt_t hrun hc
          refine lv_iload hx hb dL_law_556 (lv_at hl 1 rfl) ?_
          refine lv_if_ne (tgt := 573) hx hb dL_law_558 (by decide) (fun hc => ?_) (fun hc => ?_)
          · have hrun := mt_f hrun hc
            exact k_L_law_b573 hx hb hml hown hts hE hA hfl hend hKC hKS (Nat.le_refl _) (Nat.le_refl _) (ih (by omega)) _ _ _ _ _ _ _ _ _ _ hrun hR hz hS (lv_sub hl [2, 3, 4, 5, 6] rfl)
          · have hrun := mt_t hrun hc
            refine lv_aload_n hx hb dL_law_561 rfl (lv_at hl 5 rfl) ?_
            refine lv_iconst (v := 0) hx hb dL_law_562 (by decide) ?_
            obtain ⟨x563, hc9, hrun⟩ := m_bind hrun
            refine mr_lald hx hb hR hc9 dL_law_563 ?_
            refine lv_iload hx hb dL_law_564 (lv_at hl 0 rfl) ?_
            refine lv_i2l (v := x540.toInt64) hx hb dL_law_566 rfl ?_
            refine W.lcmp hx hb dL_law_567 ?_
            refine lv_if_eq (tgt := 573) hx hb dL_law_568 (by decide) (fun hc => ?_) (fun hc => ?_)
            · have hrun := mt_t hrun hc
              exact k_L_law_b573 hx hb hml hown hts hE hA hfl hend hKC hKS (Nat.le_refl _) (Nat.le_refl _) (ih (by omega)) _ _ _ _ _ _ _ _ _ _ hrun hR hz hS (lv_sub hl [2, 3, 4, 5, 6] rfl)
            · have hrun := mt_f hrun hc
              refine lv_iconst (v := 0) hx hb dL_law_571 (by decide) ?_
              exact absurd (Option.some.inj hrun) (by decide)
        · have hrun := mt_f hrun hc
          refine lv_iconst (v := 0) hx hb dL_law_554 (by decide) ?_
          exact absurd (Option.some.inj hrun) (by decide)
      have hrun := mt_f hrun hc5
      have hn5 : ¬ (x36 &&& 31).toInt = 5 := lv_neT hc5 rfl
      by_cases hc6 : (x36 &&& 31) = 6
      · have hrun := mt_t hrun hc6
        refine lv_tableIn (tgt := 576) (off := 536) hx hb dL_law_40 (by rw [hc6]; decide) (by rw [hc6]; decide) (by rw [hc6]; rfl) (by decide) ?_
        refine lv_aload_n hx hb dL_law_576 rfl (lv_at hl 1 rfl) ?_
        obtain ⟨_, ho9, hrun⟩ := m_bind hrun
        obtain ⟨fs9, ho9⟩ := m_is_spec ho9
        obtain ⟨⟨x577, h577⟩, hc9, hrun⟩ := m_bind hrun
        refine mr_calli (mr_runV (As := []) (rest := []) hx hb hml hown hts (c_X7_clearBuffer l D ids st z hc9) yk_X7_clearBuffer ys_X7_clearBuffer wm_1_36 ⟨(Nat.le_of_ble_eq_true rfl), (Nat.le_of_ble_eq_true rfl)⟩ (mr_recv (ci := 5) hR hE hz hS hA rfl ho9) hl.1 rfl (Nat.le_of_ble_eq_true rfl) dL_law_577 ⟨(by show kc + 0 ≤ 601024; omega), (by show ks + 0 ≤ 7293034; omega)⟩) hR hz hS hA (fun H locs hR hz hS => ?_)
        refine W.widen (k := kc) (n := ks) (Nat.le_refl _) (Nat.le_refl _) ?_
        refine lv_aload_n hx hb dL_law_580 rfl (lv_at hl 2 rfl) ?_
        obtain ⟨_, ho9, hrun⟩ := m_bind hrun
        obtain ⟨fs9, ho9⟩ := m_is_spec ho9
        obtain ⟨⟨x581, h581⟩, hc9, hrun⟩ := m_bind hrun
        refine mr_calli (mr_runV (As := []) (rest := [.int x577]) hx hb hml hown hts (c_X8_clearBuffer l D ids st z hc9) yk_X8_clearBuffer ys_X8_clearBuffer wm_3_182 ⟨(Nat.le_of_ble_eq_true rfl), (Nat.le_of_ble_eq_true rfl)⟩ (mr_recv (ci := 6) hR hE hz hS hA rfl ho9) hl.1 rfl (Nat.le_of_ble_eq_true rfl) dL_law_581 ⟨(by show kc + 0 ≤ 601024; omega), (by show ks + 0 ≤ 7293034; omega)⟩) hR hz hS hA (fun H locs hR hz hS => ?_)
        refine W.widen (k := kc) (n := ks) (Nat.le_refl _) (Nat.le_refl _) ?_
        refine lv_icmp_eq (tgt := 1335) hx hb dL_law_584 (by decide) (fun hc => ?_) (fun hc => ?_)
        · have hrun := mt_t hrun hc
          exact k_L_law_b1335 hx hb hml hown hts hE hA hfl hend hKC hKS (by omega) (by omega) (ih (by omega)) _ _ _ _ _ _ _ _ _ _ hrun hR hz hS (lv_sub hl [0, 1, 2, 3, 4] rfl)
        · have hrun := mt_f hrun hc
          refine lv_iconst (v := 0) hx hb dL_law_587 (by decide) ?_
          exact absurd (Option.some.inj hrun) (by decide)
      have hrun := mt_f hrun hc6
      have hn6 : ¬ (x36 &&& 31).toInt = 6 := lv_neT hc6 rfl
      by_cases hc7 : (x36 &&& 31) = 7
      · have hrun := mt_t hrun hc7
        refine lv_tableIn (tgt := 589) (off := 549) hx hb dL_law_40 (by rw [hc7]; decide) (by rw [hc7]; decide) (by rw [hc7]; rfl) (by decide) ?_
        refine lv_aload_n hx hb dL_law_589 rfl (lv_at hl 1 rfl) ?_
        obtain ⟨_, ho9, hrun⟩ := m_bind hrun
        obtain ⟨fs9, ho9⟩ := m_is_spec ho9
        obtain ⟨⟨x590, h590⟩, hc9, hrun⟩ := m_bind hrun
        refine mr_calli (mr_runV (As := []) (rest := []) hx hb hml hown hts (c_X7_firstError l D ids st z hc9) yk_X7_firstError ys_X7_firstError wm_1_40 ⟨(Nat.le_of_ble_eq_true rfl), (Nat.le_of_ble_eq_true rfl)⟩ (mr_recv (ci := 5) hR hE hz hS hA rfl ho9) hl.1 rfl (Nat.le_of_ble_eq_true rfl) dL_law_590 ⟨(by show kc + 0 ≤ 601024; omega), (by show ks + 0 ≤ 7293034; omega)⟩) hR hz hS hA (fun H locs hR hz hS => ?_)
        refine W.widen (k := kc) (n := ks) (Nat.le_refl _) (Nat.le_refl _) ?_
        refine lv_aload_n hx hb dL_law_593 rfl (lv_at hl 2 rfl) ?_
        obtain ⟨_, ho9, hrun⟩ := m_bind hrun
        obtain ⟨fs9, ho9⟩ := m_is_spec ho9
        obtain ⟨⟨x594, h594⟩, hc9, hrun⟩ := m_bind hrun
        refine mr_calli (mr_runV (As := []) (rest := [.int x590]) hx hb hml hown hts (c_X8_firstError l D ids st z hc9) yk_X8_firstError ys_X8_firstError wm_3_186 ⟨(Nat.le_of_ble_eq_true rfl), (Nat.le_of_ble_eq_true rfl)⟩ (mr_recv (ci := 6) hR hE hz hS hA rfl ho9) hl.1 rfl (Nat.le_of_ble_eq_true rfl) dL_law_594 ⟨(by show kc + 0 ≤ 601024; omega), (by show ks + 0 ≤ 7293034; omega)⟩) hR hz hS hA (fun H locs hR hz hS => ?_)
        refine W.widen (k := kc) (n := ks) (Nat.le_refl _) (Nat.le_refl _) ?_
        refine lv_icmp_eq (tgt := 1335) hx hb dL_law_597 (by decide) (fun hc => ?_) (fun hc => ?_)
        · have hrun := mt_t hrun hc
          exact k_L_law_b1335 hx hb hml hown hts hE hA hfl hend hKC hKS (by omega) (by omega) (ih (by omega)) _ _ _ _ _ _ _ _ _ _ hrun hR hz hS (lv_sub hl [0, 1, 2, 3, 4] rfl)
        · have hrun := mt_f hrun hc
          refine lv_iconst (v := 0) hx hb dL_law_600 (by decide) ?_
          exact absurd (Option.some.inj hrun) (by decide)
      have hrun := mt_f hrun hc7
      have hn7 : ¬ (x36 &&& 31).toInt = 7 := lv_neT hc7 rfl
      by_cases hc8 : (x36 &&& 31) = 8
      · have hrun := mt_t hrun hc8
        refine lv_tableIn (tgt := 602) (off := 562) hx hb dL_law_40 (by rw [hc8]; decide) (by rw [hc8]; decide) (by rw [hc8]; rfl) (by decide) ?_
        refine lv_aload_n hx hb dL_law_602 rfl (lv_at hl 1 rfl) ?_
        refine lv_aload_n hx hb dL_law_603 rfl (lv_at hl 3 rfl) ?_
        obtain ⟨⟨x604, h604⟩, hc9, hrun⟩ := m_bind hrun
        refine mrw_calli (mr_runSW (As := [.ref v1, .ref v3]) (rest := []) hx hb hml hown hts (c_L_load l hfl D ids st z hc9) yk_L_load ys_L_load wm_2_192 ⟨(Nat.le_of_ble_eq_true rfl), (Nat.le_of_ble_eq_true rfl)⟩ (mr_recvS hR hE hz hS hA) hl.1 rfl (Nat.le_of_ble_eq_true rfl) dL_law_604 ⟨by show kc + 1 ≤ 601024; omega, by show ks + 6 ≤ 7293034; omega⟩) hR hz hS hA (fun H locs hR hS => ?_)
        obtain ⟨z, hz⟩ : ∃ z, H.size = z := ⟨_, rfl⟩
        refine W.widen (k := KC) (n := KS) hkc hks ?_
        refine lv_istore (lv' := [(5, .int x604), (0, .ref v0), (1, .ref v1), (2, .ref v2), (3, .ref v3), (4, .int v4)]) hx hb dL_law_607 hl (by decide) rfl (fun ls hl => ?_)
        refine lv_aload_n hx hb dL_law_609 rfl (lv_at hl 3 rfl) ?_
        obtain ⟨_, ho9, hrun⟩ := m_bind hrun
        obtain ⟨fs9, ho9⟩ := m_is_spec ho9
        obtain ⟨⟨x610, h610⟩, hc9, hrun⟩ := m_bind hrun
        refine mr_calli (mr_runV (As := []) (rest := []) hx hb hml hown hts (c_X8_load l D ids st z hc9) yk_X8_load ys_X8_load wm_3_210 ⟨(Nat.le_of_ble_eq_true rfl), (Nat.le_of_ble_eq_true rfl)⟩ (mr_recv (ci := 6) hR hE hz hS hA rfl ho9) hl.1 rfl (Nat.le_of_ble_eq_true rfl) dL_law_610 ⟨(by show KC + 0 ≤ 601024; omega), (by show KS + 0 ≤ 7293034; omega)⟩) hR hz hS hA (fun H locs hR hz hS => ?_)
        refine W.widen (k := KC) (n := KS) (Nat.le_refl _) (Nat.le_refl _) ?_
        refine lv_istore (lv' := [(6, .int x610), (5, .int x604), (0, .ref v0), (1, .ref v1), (2, .ref v2), (3, .ref v3), (4, .int v4)]) hx hb dL_law_613 hl (by decide) rfl (fun ls hl => ?_)
        refine lv_aload_n hx hb dL_law_615 rfl (lv_at hl 4 rfl) ?_
        obtain ⟨_, ho9, hrun⟩ := m_bind hrun
        obtain ⟨fs9, ho9⟩ := m_is_spec ho9
        obtain ⟨x616, hc9, hrun⟩ := m_bind hrun
        refine mr_calli (mr_runV (As := []) (rest := []) hx hb hml hown hts (c_X8_thrown l D ids st z hc9) yk_X8_thrown ys_X8_thrown wm_3_73 ⟨(Nat.le_of_ble_eq_true rfl), (Nat.le_of_ble_eq_true rfl)⟩ (mr_recv (ci := 6) hR hE hz hS hA rfl ho9) hl.1 rfl (Nat.le_of_ble_eq_true rfl) dL_law_616 ⟨(by show KC + 0 ≤ 601024; omega), (by show KS + 0 ≤ 7293034; omega)⟩) hR hz hS hA (fun H locs hR hz hS => ?_)
        refine W.widen (k := KC) (n := KS) (Nat.le_refl _) (Nat.le_refl _) ?_
        refine lv_iload hx hb dL_law_619 (lv_at hl 1 rfl) ?_
        refine lv_icmp_eq (tgt := 626) hx hb dL_law_621 (by decide) (fun hc => ?_) (fun hc => ?_)
        · have hrun := mt_t hrun hc
          refine lv_iload hx hb dL_law_626 (lv_at hl 1 rfl) ?_
          refine lv_if_ne (tgt := 643) hx hb dL_law_628 (by decide) (fun hc => ?_) (fun hc => ?_)
          · have hrun := mt_f hrun hc
            exact k_L_law_b643 hx hb hml hown hts hE hA hfl hend hKC hKS (Nat.le_refl _) (Nat.le_refl _) (ih (by omega)) _ _ _ _ _ _ _ _ _ _ hrun hR hz hS (lv_sub hl [2, 3, 4, 5, 6] rfl)
          · have hrun := mt_t hrun hc
            refine lv_aload_n hx hb dL_law_631 rfl (lv_at hl 5 rfl) ?_
            refine lv_iconst (v := 0) hx hb dL_law_632 (by decide) ?_
            obtain ⟨x633, hc9, hrun⟩ := m_bind hrun
            refine mr_lald hx hb hR hc9 dL_law_633 ?_
            refine lv_iload hx hb dL_law_634 (lv_at hl 0 rfl) ?_
            refine lv_i2l (v := x610.toInt64) hx hb dL_law_636 rfl ?_
            refine W.lcmp hx hb dL_law_637 ?_
            refine lv_if_eq (tgt := 643) hx hb dL_law_638 (by decide) (fun hc => ?_) (fun hc => ?_)
            · have hrun := mt_t hrun hc
              exact k_L_law_b643 hx hb hml hown hts hE hA hfl hend hKC hKS (Nat.le_refl _) (Nat.le_refl _) (ih (by omega)) _ _ _ _ _ _ _ _ _ _ hrun hR hz hS (lv_sub hl [2, 3, 4, 5, 6] rfl)
            · have hrun := mt_f hrun hc
              refine lv_iconst (v := 0) hx hb dL_law_641 (by decide) ?_
              exact absurd (Option.some.inj hrun) (by decide)
        · have hrun := mt_f hrun hc
          refine lv_iconst (v := 0) hx hb dL_law_624 (by decide) ?_
          exact absurd (Option.some.inj hrun) (by decide)
      have hrun := mt_f hrun hc8
      have hn8 : ¬ (x36 &&& 31).toInt = 8 := lv_neT hc8 rfl
      by_cases hc9 : (x36 &&& 31) = 9
      · have hrun := mt_t hrun hc9
        refine lv_tableIn (tgt := 646) (off := 606) hx hb dL_law_40 (by rw [hc9]; decide) (by rw [hc9]; decide) (by rw [hc9]; rfl) (by decide) ?_
        refine lv_aload_n hx hb dL_law_646 rfl (lv_at hl 1 rfl) ?_
        refine lv_aload_n hx hb dL_law_647 rfl (lv_at hl 3 rfl) ?_
        obtain ⟨⟨x648, h648⟩, hc9, hrun⟩ := m_bind hrun
        refine mrw_calli (mr_runSW (As := [.ref v1, .ref v3]) (rest := []) hx hb hml hown hts (c_L_undo l hfl D ids st z hc9) yk_L_undo ys_L_undo wm_2_204 ⟨(Nat.le_of_ble_eq_true rfl), (Nat.le_of_ble_eq_true rfl)⟩ (mr_recvS hR hE hz hS hA) hl.1 rfl (Nat.le_of_ble_eq_true rfl) dL_law_648 ⟨by show kc + 1 ≤ 601024; omega, by show ks + 6 ≤ 7293034; omega⟩) hR hz hS hA (fun H locs hR hS => ?_)
        obtain ⟨z, hz⟩ : ∃ z, H.size = z := ⟨_, rfl⟩
        refine W.widen (k := KC) (n := KS) hkc hks ?_
        refine lv_istore (lv' := [(5, .int x648), (0, .ref v0), (1, .ref v1), (2, .ref v2), (3, .ref v3), (4, .int v4)]) hx hb dL_law_651 hl (by decide) rfl (fun ls hl => ?_)
        refine lv_aload_n hx hb dL_law_653 rfl (lv_at hl 3 rfl) ?_
        obtain ⟨_, ho9, hrun⟩ := m_bind hrun
        obtain ⟨fs9, ho9⟩ := m_is_spec ho9
        obtain ⟨⟨x654, h654⟩, hc9, hrun⟩ := m_bind hrun
        refine mr_calli (mr_runV (As := []) (rest := []) hx hb hml hown hts (c_X8_undo l D ids st z hc9) yk_X8_undo ys_X8_undo wm_3_214 ⟨(Nat.le_of_ble_eq_true rfl), (Nat.le_of_ble_eq_true rfl)⟩ (mr_recv (ci := 6) hR hE hz hS hA rfl ho9) hl.1 rfl (Nat.le_of_ble_eq_true rfl) dL_law_654 ⟨(by show KC + 0 ≤ 601024; omega), (by show KS + 0 ≤ 7293034; omega)⟩) hR hz hS hA (fun H locs hR hz hS => ?_)
        refine W.widen (k := KC) (n := KS) (Nat.le_refl _) (Nat.le_refl _) ?_
        refine lv_istore (lv' := [(6, .int x654), (5, .int x648), (0, .ref v0), (1, .ref v1), (2, .ref v2), (3, .ref v3), (4, .int v4)]) hx hb dL_law_657 hl (by decide) rfl (fun ls hl => ?_)
        refine lv_aload_n hx hb dL_law_659 rfl (lv_at hl 4 rfl) ?_
        obtain ⟨_, ho9, hrun⟩ := m_bind hrun
        obtain ⟨fs9, ho9⟩ := m_is_spec ho9
        obtain ⟨x660, hc9, hrun⟩ := m_bind hrun
        refine mr_calli (mr_runV (As := []) (rest := []) hx hb hml hown hts (c_X8_thrown l D ids st z hc9) yk_X8_thrown ys_X8_thrown wm_3_73 ⟨(Nat.le_of_ble_eq_true rfl), (Nat.le_of_ble_eq_true rfl)⟩ (mr_recv (ci := 6) hR hE hz hS hA rfl ho9) hl.1 rfl (Nat.le_of_ble_eq_true rfl) dL_law_660 ⟨(by show KC + 0 ≤ 601024; omega), (by show KS + 0 ≤ 7293034; omega)⟩) hR hz hS hA (fun H locs hR hz hS => ?_)
        refine W.widen (k := KC) (n := KS) (Nat.le_refl _) (Nat.le_refl _) ?_
        refine lv_iload hx hb dL_law_663 (lv_at hl 1 rfl) ?_
        refine lv_icmp_eq (tgt := 670) hx hb dL_law_665 (by decide) (fun hc => ?_) (fun hc => ?_)
        · have hrun := mt_t hrun hc
          refine lv_iload hx hb dL_law_670 (lv_at hl 1 rfl) ?_
          refine lv_if_ne (tgt := 687) hx hb dL_law_672 (by decide) (fun hc => ?_) (fun hc => ?_)
          · have hrun := mt_f hrun hc
            exact k_L_law_b687 hx hb hml hown hts hE hA hfl hend hKC hKS (Nat.le_refl _) (Nat.le_refl _) (ih (by omega)) _ _ _ _ _ _ _ _ _ _ hrun hR hz hS (lv_sub hl [2, 3, 4, 5, 6] rfl)
          · have hrun := mt_t hrun hc
            refine lv_aload_n hx hb dL_law_675 rfl (lv_at hl 5 rfl) ?_
            refine lv_iconst (v := 0) hx hb dL_law_676 (by decide) ?_
            obtain ⟨x677, hc9, hrun⟩ := m_bind hrun
            refine mr_lald hx hb hR hc9 dL_law_677 ?_
            refine lv_iload hx hb dL_law_678 (lv_at hl 0 rfl) ?_
            refine lv_i2l (v := x654.toInt64) hx hb dL_law_680 rfl ?_
            refine W.lcmp hx hb dL_law_681 ?_
            refine lv_if_eq (tgt := 687) hx hb dL_law_682 (by decide) (fun hc => ?_) (fun hc => ?_)
            · have hrun := mt_t hrun hc
              exact k_L_law_b687 hx hb hml hown hts hE hA hfl hend hKC hKS (Nat.le_refl _) (Nat.le_refl _) (ih (by omega)) _ _ _ _ _ _ _ _ _ _ hrun hR hz hS (lv_sub hl [2, 3, 4, 5, 6] rfl)
            · have hrun := mt_f hrun hc
              refine lv_iconst (v := 0) hx hb dL_law_685 (by decide) ?_
              exact absurd (Option.some.inj hrun) (by decide)
        · have hrun := mt_f hrun hc
          refine lv_iconst (v := 0) hx hb dL_law_668 (by decide) ?_
          exact absurd (Option.some.inj hrun) (by decide)
      have hrun := mt_f hrun hc9
      have hn9 : ¬ (x36 &&& 31).toInt = 9 := lv_neT hc9 rfl
      by_cases hc10 : (x36 &&& 31) = 10
      · have hrun := mt_t hrun hc10
        refine lv_tableIn (tgt := 690) (off := 650) hx hb dL_law_40 (by rw [hc10]; decide) (by rw [hc10]; decide) (by rw [hc10]; rfl) (by decide) ?_
        refine lv_aload_n hx hb dL_law_690 rfl (lv_at hl 1 rfl) ?_
        refine lv_aload_n hx hb dL_law_691 rfl (lv_at hl 0 rfl) ?_
        refine lv_iload hx hb dL_law_692 (lv_at hl 4 rfl) ?_
        refine lv_iconst (v := 1) hx hb dL_law_694 (by decide) ?_
        refine lv_iadd hx hb dL_law_695 ?_
        obtain ⟨x696, hc9, hrun⟩ := m_bind hrun
        refine mr_iald hx hb hR hc9 dL_law_696 ?_
        refine lv_aload_n hx hb dL_law_697 rfl (lv_at hl 0 rfl) ?_
        refine lv_iload hx hb dL_law_698 (lv_at hl 4 rfl) ?_
        refine lv_iconst (v := 2) hx hb dL_law_700 (by decide) ?_
        refine lv_iadd hx hb dL_law_701 ?_
        obtain ⟨x702, hc9, hrun⟩ := m_bind hrun
        refine mr_iald hx hb hR hc9 dL_law_702 ?_
        refine lv_aload_n hx hb dL_law_703 rfl (lv_at hl 3 rfl) ?_
        obtain ⟨⟨x704, h704⟩, hc9, hrun⟩ := m_bind hrun
        refine mrw_calli (mr_runSW (As := [.ref v1, .int x696, .int x702, .ref v3]) (rest := []) hx hb hml hown hts (c_L_tapOf l hfl D ids st z hc9) yk_L_tapOf ys_L_tapOf wm_2_216 ⟨(Nat.le_of_ble_eq_true rfl), (Nat.le_of_ble_eq_true rfl)⟩ (mr_recvS hR hE hz hS hA) hl.1 rfl (Nat.le_of_ble_eq_true rfl) dL_law_704 ⟨by show kc + 1 ≤ 601024; omega, by show ks + 6 ≤ 7293034; omega⟩) hR hz hS hA (fun H locs hR hS => ?_)
        obtain ⟨z, hz⟩ : ∃ z, H.size = z := ⟨_, rfl⟩
        refine W.widen (k := KC) (n := KS) hkc hks ?_
        refine lv_istore (lv' := [(5, .int x704), (0, .ref v0), (1, .ref v1), (2, .ref v2), (3, .ref v3), (4, .int v4)]) hx hb dL_law_707 hl (by decide) rfl (fun ls hl => ?_)
        refine lv_aload_n hx hb dL_law_709 rfl (lv_at hl 3 rfl) ?_
        refine lv_aload_n hx hb dL_law_710 rfl (lv_at hl 1 rfl) ?_
        refine lv_iload hx hb dL_law_711 (lv_at hl 5 rfl) ?_
        refine lv_iconst (v := 1) hx hb dL_law_713 (by decide) ?_
        refine lv_iadd hx hb dL_law_714 ?_
        obtain ⟨x715, hc9, hrun⟩ := m_bind hrun
        refine mr_iald hx hb hR hc9 dL_law_715 ?_
        refine lv_aload_n hx hb dL_law_716 rfl (lv_at hl 1 rfl) ?_
        refine lv_iload hx hb dL_law_717 (lv_at hl 5 rfl) ?_
        refine lv_iconst (v := 2) hx hb dL_law_719 (by decide) ?_
        refine lv_iadd hx hb dL_law_720 ?_
        obtain ⟨x721, hc9, hrun⟩ := m_bind hrun
        refine mr_iald hx hb hR hc9 dL_law_721 ?_
        obtain ⟨_, ho9, hrun⟩ := m_bind hrun
        obtain ⟨fs9, ho9⟩ := m_is_spec ho9
        obtain ⟨⟨x722, h722⟩, hc9, hrun⟩ := m_bind hrun
        refine mr_calli (mr_runV (As := [.int x715, .int x721]) (rest := []) hx hb hml hown hts (c_X8_tapOf l D ids st z hc9) yk_X8_tapOf ys_X8_tapOf wm_3_218 ⟨(Nat.le_of_ble_eq_true rfl), (Nat.le_of_ble_eq_true rfl)⟩ (mr_recv (ci := 6) hR hE hz hS hA rfl ho9) hl.1 rfl (Nat.le_of_ble_eq_true rfl) dL_law_722 ⟨(by show KC + 0 ≤ 601024; omega), (by show KS + 0 ≤ 7293034; omega)⟩) hR hz hS hA (fun H locs hR hz hS => ?_)
        refine W.widen (k := KC) (n := KS) (Nat.le_refl _) (Nat.le_refl _) ?_
        refine lv_istore (lv' := [(6, .int x722), (5, .int x704), (0, .ref v0), (1, .ref v1), (2, .ref v2), (3, .ref v3), (4, .int v4)]) hx hb dL_law_725 hl (by decide) rfl (fun ls hl => ?_)
        refine lv_aload_n hx hb dL_law_727 rfl (lv_at hl 4 rfl) ?_
        obtain ⟨_, ho9, hrun⟩ := m_bind hrun
        obtain ⟨fs9, ho9⟩ := m_is_spec ho9
        obtain ⟨x728, hc9, hrun⟩ := m_bind hrun
        refine mr_calli (mr_runV (As := []) (rest := []) hx hb hml hown hts (c_X8_thrown l D ids st z hc9) yk_X8_thrown ys_X8_thrown wm_3_73 ⟨(Nat.le_of_ble_eq_true rfl), (Nat.le_of_ble_eq_true rfl)⟩ (mr_recv (ci := 6) hR hE hz hS hA rfl ho9) hl.1 rfl (Nat.le_of_ble_eq_true rfl) dL_law_728 ⟨(by show KC + 0 ≤ 601024; omega), (by show KS + 0 ≤ 7293034; omega)⟩) hR hz hS hA (fun H locs hR hz hS => ?_)
        refine W.widen (k := KC) (n := KS) (Nat.le_refl _) (Nat.le_refl _) ?_
        refine lv_iload hx hb dL_law_731 (lv_at hl 1 rfl) ?_
        refine lv_icmp_eq (tgt := 738) hx hb dL_law_733 (by decide) (fun hc => ?_) (fun hc => ?_)
        · have hrun := mt_t hrun hc
          refine lv_iload hx hb dL_law_738 (lv_at hl 1 rfl) ?_
          refine lv_if_ne (tgt := 755) hx hb dL_law_740 (by decide) (fun hc => ?_) (fun hc => ?_)
          · have hrun := mt_f hrun hc
            exact k_L_law_b755 hx hb hml hown hts hE hA hfl hend hKC hKS (Nat.le_refl _) (Nat.le_refl _) (ih (by omega)) _ _ _ _ _ _ _ _ _ _ hrun hR hz hS (lv_sub hl [2, 3, 4, 5, 6] rfl)
          · have hrun := mt_t hrun hc
            refine lv_aload_n hx hb dL_law_743 rfl (lv_at hl 5 rfl) ?_
            refine lv_iconst (v := 0) hx hb dL_law_744 (by decide) ?_
            obtain ⟨x745, hc9, hrun⟩ := m_bind hrun
            refine mr_lald hx hb hR hc9 dL_law_745 ?_
            refine lv_iload hx hb dL_law_746 (lv_at hl 0 rfl) ?_
            refine lv_i2l (v := x722.toInt64) hx hb dL_law_748 rfl ?_
            refine W.lcmp hx hb dL_law_749 ?_
            refine lv_if_eq (tgt := 755) hx hb dL_law_750 (by decide) (fun hc => ?_) (fun hc => ?_)
            · have hrun := mt_t hrun hc
              exact k_L_law_b755 hx hb hml hown hts hE hA hfl hend hKC hKS (Nat.le_refl _) (Nat.le_refl _) (ih (by omega)) _ _ _ _ _ _ _ _ _ _ hrun hR hz hS (lv_sub hl [2, 3, 4, 5, 6] rfl)
            · have hrun := mt_f hrun hc
              refine lv_iconst (v := 0) hx hb dL_law_753 (by decide) ?_
              exact absurd (Option.some.inj hrun) (by decide)
        · have hrun := mt_f hrun hc
          refine lv_iconst (v := 0) hx hb dL_law_736 (by decide) ?_
          exact absurd (Option.some.inj hrun) (by decide)
      have hrun := mt_f hrun hc10
      have hn10 : ¬ (x36 &&& 31).toInt = 10 := lv_neT hc10 rfl
      by_cases hc11 : (x36 &&& 31) = 11
      · have hrun := mt_t hrun hc11
        refine lv_tableIn (tgt := 758) (off := 718) hx hb dL_law_40 (by rw [hc11]; decide) (by rw [hc11]; decide) (by rw [hc11]; rfl) (by decide) ?_
        refine lv_aload_n hx hb dL_law_758 rfl (lv_at hl 1 rfl) ?_
        refine lv_aload_n hx hb dL_law_759 rfl (lv_at hl 0 rfl) ?_
        refine lv_iload hx hb dL_law_760 (lv_at hl 4 rfl) ?_
        refine lv_iconst (v := 1) hx hb dL_law_762 (by decide) ?_
        refine lv_iadd hx hb dL_law_763 ?_
        obtain ⟨x764, hc9, hrun⟩ := m_bind hrun
        refine mr_iald hx hb hR hc9 dL_law_764 ?_
        refine lv_aload_n hx hb dL_law_765 rfl (lv_at hl 0 rfl) ?_
        refine lv_iload hx hb dL_law_766 (lv_at hl 4 rfl) ?_
        refine lv_iconst (v := 2) hx hb dL_law_768 (by decide) ?_
        refine lv_iadd hx hb dL_law_769 ?_
        obtain ⟨x770, hc9, hrun⟩ := m_bind hrun
        refine mr_iald hx hb hR hc9 dL_law_770 ?_
        refine lv_aload_n hx hb dL_law_771 rfl (lv_at hl 0 rfl) ?_
        refine lv_iload hx hb dL_law_772 (lv_at hl 4 rfl) ?_
        refine lv_iconst (v := 3) hx hb dL_law_774 (by decide) ?_
        refine lv_iadd hx hb dL_law_775 ?_
        obtain ⟨x776, hc9, hrun⟩ := m_bind hrun
        refine mr_iald hx hb hR hc9 dL_law_776 ?_
        refine lv_aload_n hx hb dL_law_777 rfl (lv_at hl 3 rfl) ?_
        obtain ⟨⟨x778, h778⟩, hc9, hrun⟩ := m_bind hrun
        refine mrw_calli (mr_runSW (As := [.ref v1, .int x764, .int x770, .int x776, .ref v3]) (rest := []) hx hb hml hown hts (c_L_day l hfl D ids st z hc9) yk_L_day ys_L_day wm_2_224 ⟨(Nat.le_of_ble_eq_true rfl), (Nat.le_of_ble_eq_true rfl)⟩ (mr_recvS hR hE hz hS hA) hl.1 rfl (Nat.le_of_ble_eq_true rfl) dL_law_778 ⟨by show kc + 1 ≤ 601024; omega, by show ks + 6 ≤ 7293034; omega⟩) hR hz hS hA (fun H locs hR hS => ?_)
        obtain ⟨z, hz⟩ : ∃ z, H.size = z := ⟨_, rfl⟩
        refine W.widen (k := KC) (n := KS) hkc hks ?_
        refine lv_istore (lv' := [(5, .int x778), (0, .ref v0), (1, .ref v1), (2, .ref v2), (3, .ref v3), (4, .int v4)]) hx hb dL_law_781 hl (by decide) rfl (fun ls hl => ?_)
        refine lv_aload_n hx hb dL_law_783 rfl (lv_at hl 3 rfl) ?_
        refine lv_aload_n hx hb dL_law_784 rfl (lv_at hl 1 rfl) ?_
        refine lv_iload hx hb dL_law_785 (lv_at hl 5 rfl) ?_
        refine lv_iconst (v := 1) hx hb dL_law_787 (by decide) ?_
        refine lv_iadd hx hb dL_law_788 ?_
        obtain ⟨x789, hc9, hrun⟩ := m_bind hrun
        refine mr_iald hx hb hR hc9 dL_law_789 ?_
        refine lv_aload_n hx hb dL_law_790 rfl (lv_at hl 1 rfl) ?_
        refine lv_iload hx hb dL_law_791 (lv_at hl 5 rfl) ?_
        refine lv_iconst (v := 2) hx hb dL_law_793 (by decide) ?_
        refine lv_iadd hx hb dL_law_794 ?_
        obtain ⟨x795, hc9, hrun⟩ := m_bind hrun
        refine mr_iald hx hb hR hc9 dL_law_795 ?_
        refine lv_aload_n hx hb dL_law_796 rfl (lv_at hl 1 rfl) ?_
        refine lv_iload hx hb dL_law_797 (lv_at hl 5 rfl) ?_
        refine lv_iconst (v := 3) hx hb dL_law_799 (by decide) ?_
        refine lv_iadd hx hb dL_law_800 ?_
        obtain ⟨x801, hc9, hrun⟩ := m_bind hrun
        refine mr_iald hx hb hR hc9 dL_law_801 ?_
        obtain ⟨_, ho9, hrun⟩ := m_bind hrun
        obtain ⟨fs9, ho9⟩ := m_is_spec ho9
        obtain ⟨⟨x802, h802⟩, hc9, hrun⟩ := m_bind hrun
        refine mr_calli (mr_runV (As := [.int x789, .int x795, .int x801]) (rest := []) hx hb hml hown hts (c_X8_day l D ids st z hc9) yk_X8_day ys_X8_day wm_3_226 ⟨(Nat.le_of_ble_eq_true rfl), (Nat.le_of_ble_eq_true rfl)⟩ (mr_recv (ci := 6) hR hE hz hS hA rfl ho9) hl.1 rfl (Nat.le_of_ble_eq_true rfl) dL_law_802 ⟨(by show KC + 0 ≤ 601024; omega), (by show KS + 0 ≤ 7293034; omega)⟩) hR hz hS hA (fun H locs hR hz hS => ?_)
        refine W.widen (k := KC) (n := KS) (Nat.le_refl _) (Nat.le_refl _) ?_
        refine lv_istore (lv' := [(6, .int x802), (5, .int x778), (0, .ref v0), (1, .ref v1), (2, .ref v2), (3, .ref v3), (4, .int v4)]) hx hb dL_law_805 hl (by decide) rfl (fun ls hl => ?_)
        refine lv_aload_n hx hb dL_law_807 rfl (lv_at hl 4 rfl) ?_
        obtain ⟨_, ho9, hrun⟩ := m_bind hrun
        obtain ⟨fs9, ho9⟩ := m_is_spec ho9
        obtain ⟨x808, hc9, hrun⟩ := m_bind hrun
        refine mr_calli (mr_runV (As := []) (rest := []) hx hb hml hown hts (c_X8_thrown l D ids st z hc9) yk_X8_thrown ys_X8_thrown wm_3_73 ⟨(Nat.le_of_ble_eq_true rfl), (Nat.le_of_ble_eq_true rfl)⟩ (mr_recv (ci := 6) hR hE hz hS hA rfl ho9) hl.1 rfl (Nat.le_of_ble_eq_true rfl) dL_law_808 ⟨(by show KC + 0 ≤ 601024; omega), (by show KS + 0 ≤ 7293034; omega)⟩) hR hz hS hA (fun H locs hR hz hS => ?_)
        refine W.widen (k := KC) (n := KS) (Nat.le_refl _) (Nat.le_refl _) ?_
        refine lv_iload hx hb dL_law_811 (lv_at hl 1 rfl) ?_
        refine lv_icmp_eq (tgt := 818) hx hb dL_law_813 (by decide) (fun hc => ?_) (fun hc => ?_)
        · have hrun := mt_t hrun hc
          refine lv_iload hx hb dL_law_818 (lv_at hl 1 rfl) ?_
          refine lv_if_ne (tgt := 835) hx hb dL_law_820 (by decide) (fun hc => ?_) (fun hc => ?_)
          · have hrun := mt_f hrun hc
            exact k_L_law_b835 hx hb hml hown hts hE hA hfl hend hKC hKS (Nat.le_refl _) (Nat.le_refl _) (ih (by omega)) _ _ _ _ _ _ _ _ _ _ hrun hR hz hS (lv_sub hl [2, 3, 4, 5, 6] rfl)
          · have hrun := mt_t hrun hc
            refine lv_aload_n hx hb dL_law_823 rfl (lv_at hl 5 rfl) ?_
            refine lv_iconst (v := 0) hx hb dL_law_824 (by decide) ?_
            obtain ⟨x825, hc9, hrun⟩ := m_bind hrun
            refine mr_lald hx hb hR hc9 dL_law_825 ?_
            refine lv_iload hx hb dL_law_826 (lv_at hl 0 rfl) ?_
            refine lv_i2l (v := x802.toInt64) hx hb dL_law_828 rfl ?_
            refine W.lcmp hx hb dL_law_829 ?_
            refine lv_if_eq (tgt := 835) hx hb dL_law_830 (by decide) (fun hc => ?_) (fun hc => ?_)
            · have hrun := mt_t hrun hc
              exact k_L_law_b835 hx hb hml hown hts hE hA hfl hend hKC hKS (Nat.le_refl _) (Nat.le_refl _) (ih (by omega)) _ _ _ _ _ _ _ _ _ _ hrun hR hz hS (lv_sub hl [2, 3, 4, 5, 6] rfl)
            · have hrun := mt_f hrun hc
              refine lv_iconst (v := 0) hx hb dL_law_833 (by decide) ?_
              exact absurd (Option.some.inj hrun) (by decide)
        · have hrun := mt_f hrun hc
          refine lv_iconst (v := 0) hx hb dL_law_816 (by decide) ?_
          exact absurd (Option.some.inj hrun) (by decide)
      have hrun := mt_f hrun hc11
      have hn11 : ¬ (x36 &&& 31).toInt = 11 := lv_neT hc11 rfl
      by_cases hc12 : (x36 &&& 31) = 12
      · have hrun := mt_t hrun hc12
        refine lv_tableIn (tgt := 838) (off := 798) hx hb dL_law_40 (by rw [hc12]; decide) (by rw [hc12]; decide) (by rw [hc12]; rfl) (by decide) ?_
        refine lv_aload_n hx hb dL_law_838 rfl (lv_at hl 1 rfl) ?_
        refine lv_aload_n hx hb dL_law_839 rfl (lv_at hl 0 rfl) ?_
        refine lv_iload hx hb dL_law_840 (lv_at hl 4 rfl) ?_
        refine lv_iconst (v := 1) hx hb dL_law_842 (by decide) ?_
        refine lv_iadd hx hb dL_law_843 ?_
        obtain ⟨x844, hc9, hrun⟩ := m_bind hrun
        refine mr_iald hx hb hR hc9 dL_law_844 ?_
        refine lv_aload_n hx hb dL_law_845 rfl (lv_at hl 0 rfl) ?_
        refine lv_iload hx hb dL_law_846 (lv_at hl 4 rfl) ?_
        refine lv_iconst (v := 2) hx hb dL_law_848 (by decide) ?_
        refine lv_iadd hx hb dL_law_849 ?_
        obtain ⟨x850, hc9, hrun⟩ := m_bind hrun
        refine mr_iald hx hb hR hc9 dL_law_850 ?_
        refine lv_aload_n hx hb dL_law_851 rfl (lv_at hl 0 rfl) ?_
        refine lv_iload hx hb dL_law_852 (lv_at hl 4 rfl) ?_
        refine lv_iconst (v := 3) hx hb dL_law_854 (by decide) ?_
        refine lv_iadd hx hb dL_law_855 ?_
        obtain ⟨x856, hc9, hrun⟩ := m_bind hrun
        refine mr_iald hx hb hR hc9 dL_law_856 ?_
        refine lv_aload_n hx hb dL_law_857 rfl (lv_at hl 3 rfl) ?_
        obtain ⟨⟨x858, h858⟩, hc9, hrun⟩ := m_bind hrun
        refine mrw_calli (mr_runSW (As := [.ref v1, .int x844, .int x850, .int x856, .ref v3]) (rest := []) hx hb hml hown hts (c_L_week l hfl D ids st z hc9) yk_L_week ys_L_week wm_2_231 ⟨(Nat.le_of_ble_eq_true rfl), (Nat.le_of_ble_eq_true rfl)⟩ (mr_recvS hR hE hz hS hA) hl.1 rfl (Nat.le_of_ble_eq_true rfl) dL_law_858 ⟨by show kc + 1 ≤ 601024; omega, by show ks + 6 ≤ 7293034; omega⟩) hR hz hS hA (fun H locs hR hS => ?_)
        obtain ⟨z, hz⟩ : ∃ z, H.size = z := ⟨_, rfl⟩
        refine W.widen (k := KC) (n := KS) hkc hks ?_
        refine lv_istore (lv' := [(5, .int x858), (0, .ref v0), (1, .ref v1), (2, .ref v2), (3, .ref v3), (4, .int v4)]) hx hb dL_law_861 hl (by decide) rfl (fun ls hl => ?_)
        refine lv_aload_n hx hb dL_law_863 rfl (lv_at hl 3 rfl) ?_
        refine lv_aload_n hx hb dL_law_864 rfl (lv_at hl 1 rfl) ?_
        refine lv_iload hx hb dL_law_865 (lv_at hl 5 rfl) ?_
        refine lv_iconst (v := 1) hx hb dL_law_867 (by decide) ?_
        refine lv_iadd hx hb dL_law_868 ?_
        obtain ⟨x869, hc9, hrun⟩ := m_bind hrun
        refine mr_iald hx hb hR hc9 dL_law_869 ?_
        refine lv_aload_n hx hb dL_law_870 rfl (lv_at hl 1 rfl) ?_
        refine lv_iload hx hb dL_law_871 (lv_at hl 5 rfl) ?_
        refine lv_iconst (v := 2) hx hb dL_law_873 (by decide) ?_
        refine lv_iadd hx hb dL_law_874 ?_
        obtain ⟨x875, hc9, hrun⟩ := m_bind hrun
        refine mr_iald hx hb hR hc9 dL_law_875 ?_
        refine lv_aload_n hx hb dL_law_876 rfl (lv_at hl 1 rfl) ?_
        refine lv_iload hx hb dL_law_877 (lv_at hl 5 rfl) ?_
        refine lv_iconst (v := 3) hx hb dL_law_879 (by decide) ?_
        refine lv_iadd hx hb dL_law_880 ?_
        obtain ⟨x881, hc9, hrun⟩ := m_bind hrun
        refine mr_iald hx hb hR hc9 dL_law_881 ?_
        obtain ⟨_, ho9, hrun⟩ := m_bind hrun
        obtain ⟨fs9, ho9⟩ := m_is_spec ho9
        obtain ⟨⟨x882, h882⟩, hc9, hrun⟩ := m_bind hrun
        refine mr_calli (mr_runV (As := [.int x869, .int x875, .int x881]) (rest := []) hx hb hml hown hts (c_X8_week l D ids st z hc9) yk_X8_week ys_X8_week wm_3_230 ⟨(Nat.le_of_ble_eq_true rfl), (Nat.le_of_ble_eq_true rfl)⟩ (mr_recv (ci := 6) hR hE hz hS hA rfl ho9) hl.1 rfl (Nat.le_of_ble_eq_true rfl) dL_law_882 ⟨(by show KC + 0 ≤ 601024; omega), (by show KS + 0 ≤ 7293034; omega)⟩) hR hz hS hA (fun H locs hR hz hS => ?_)
        refine W.widen (k := KC) (n := KS) (Nat.le_refl _) (Nat.le_refl _) ?_
        refine lv_istore (lv' := [(6, .int x882), (5, .int x858), (0, .ref v0), (1, .ref v1), (2, .ref v2), (3, .ref v3), (4, .int v4)]) hx hb dL_law_885 hl (by decide) rfl (fun ls hl => ?_)
        refine lv_aload_n hx hb dL_law_887 rfl (lv_at hl 4 rfl) ?_
        obtain ⟨_, ho9, hrun⟩ := m_bind hrun
        obtain ⟨fs9, ho9⟩ := m_is_spec ho9
        obtain ⟨x888, hc9, hrun⟩ := m_bind hrun
        refine mr_calli (mr_runV (As := []) (rest := []) hx hb hml hown hts (c_X8_thrown l D ids st z hc9) yk_X8_thrown ys_X8_thrown wm_3_73 ⟨(Nat.le_of_ble_eq_true rfl), (Nat.le_of_ble_eq_true rfl)⟩ (mr_recv (ci := 6) hR hE hz hS hA rfl ho9) hl.1 rfl (Nat.le_of_ble_eq_true rfl) dL_law_888 ⟨(by show KC + 0 ≤ 601024; omega), (by show KS + 0 ≤ 7293034; omega)⟩) hR hz hS hA (fun H locs hR hz hS => ?_)
        refine W.widen (k := KC) (n := KS) (Nat.le_refl _) (Nat.le_refl _) ?_
        refine lv_iload hx hb dL_law_891 (lv_at hl 1 rfl) ?_
        refine lv_icmp_eq (tgt := 898) hx hb dL_law_893 (by decide) (fun hc => ?_) (fun hc => ?_)
        · have hrun := mt_t hrun hc
          refine lv_iload hx hb dL_law_898 (lv_at hl 1 rfl) ?_
          refine lv_if_ne (tgt := 915) hx hb dL_law_900 (by decide) (fun hc => ?_) (fun hc => ?_)
          · have hrun := mt_f hrun hc
            exact k_L_law_b915 hx hb hml hown hts hE hA hfl hend hKC hKS (Nat.le_refl _) (Nat.le_refl _) (ih (by omega)) _ _ _ _ _ _ _ _ _ _ hrun hR hz hS (lv_sub hl [2, 3, 4, 5, 6] rfl)
          · have hrun := mt_t hrun hc
            refine lv_aload_n hx hb dL_law_903 rfl (lv_at hl 5 rfl) ?_
            refine lv_iconst (v := 0) hx hb dL_law_904 (by decide) ?_
            obtain ⟨x905, hc9, hrun⟩ := m_bind hrun
            refine mr_lald hx hb hR hc9 dL_law_905 ?_
            refine lv_iload hx hb dL_law_906 (lv_at hl 0 rfl) ?_
            refine lv_i2l (v := x882.toInt64) hx hb dL_law_908 rfl ?_
            refine W.lcmp hx hb dL_law_909 ?_
            refine lv_if_eq (tgt := 915) hx hb dL_law_910 (by decide) (fun hc => ?_) (fun hc => ?_)
            · have hrun := mt_t hrun hc
              exact k_L_law_b915 hx hb hml hown hts hE hA hfl hend hKC hKS (Nat.le_refl _) (Nat.le_refl _) (ih (by omega)) _ _ _ _ _ _ _ _ _ _ hrun hR hz hS (lv_sub hl [2, 3, 4, 5, 6] rfl)
            · have hrun := mt_f hrun hc
              refine lv_iconst (v := 0) hx hb dL_law_913 (by decide) ?_
              exact absurd (Option.some.inj hrun) (by decide)
        · have hrun := mt_f hrun hc
          refine lv_iconst (v := 0) hx hb dL_law_896 (by decide) ?_
          exact absurd (Option.some.inj hrun) (by decide)
      have hrun := mt_f hrun hc12
      have hn12 : ¬ (x36 &&& 31).toInt = 12 := lv_neT hc12 rfl
      by_cases hc13 : (x36 &&& 31) = 13
      · have hrun := mt_t hrun hc13
        refine lv_tableIn (tgt := 918) (off := 878) hx hb dL_law_40 (by rw [hc13]; decide) (by rw [hc13]; decide) (by rw [hc13]; rfl) (by decide) ?_
        refine lv_aload_n hx hb dL_law_918 rfl (lv_at hl 1 rfl) ?_
        refine lv_aload_n hx hb dL_law_919 rfl (lv_at hl 0 rfl) ?_
        refine lv_iload hx hb dL_law_920 (lv_at hl 4 rfl) ?_
        refine lv_iconst (v := 1) hx hb dL_law_922 (by decide) ?_
        refine lv_iadd hx hb dL_law_923 ?_
        obtain ⟨x924, hc9, hrun⟩ := m_bind hrun
        refine mr_iald hx hb hR hc9 dL_law_924 ?_
        refine lv_aload_n hx hb dL_law_925 rfl (lv_at hl 3 rfl) ?_
        obtain ⟨⟨x926, h926⟩, hc9, hrun⟩ := m_bind hrun
        refine mrw_calli (mr_runSW (As := [.ref v1, .int x924, .ref v3]) (rest := []) hx hb hml hown hts (c_L_count l hfl D ids st z hc9) yk_L_count ys_L_count wm_2_238 ⟨(Nat.le_of_ble_eq_true rfl), (Nat.le_of_ble_eq_true rfl)⟩ (mr_recvS hR hE hz hS hA) hl.1 rfl (Nat.le_of_ble_eq_true rfl) dL_law_926 ⟨by show kc + 1 ≤ 601024; omega, by show ks + 6 ≤ 7293034; omega⟩) hR hz hS hA (fun H locs hR hS => ?_)
        obtain ⟨z, hz⟩ : ∃ z, H.size = z := ⟨_, rfl⟩
        refine W.widen (k := KC) (n := KS) hkc hks ?_
        refine lv_istore (lv' := [(5, .int x926), (0, .ref v0), (1, .ref v1), (2, .ref v2), (3, .ref v3), (4, .int v4)]) hx hb dL_law_929 hl (by decide) rfl (fun ls hl => ?_)
        refine lv_aload_n hx hb dL_law_931 rfl (lv_at hl 3 rfl) ?_
        refine lv_aload_n hx hb dL_law_932 rfl (lv_at hl 1 rfl) ?_
        refine lv_iload hx hb dL_law_933 (lv_at hl 5 rfl) ?_
        refine lv_iconst (v := 1) hx hb dL_law_935 (by decide) ?_
        refine lv_iadd hx hb dL_law_936 ?_
        obtain ⟨x937, hc9, hrun⟩ := m_bind hrun
        refine mr_iald hx hb hR hc9 dL_law_937 ?_
        obtain ⟨_, ho9, hrun⟩ := m_bind hrun
        obtain ⟨fs9, ho9⟩ := m_is_spec ho9
        obtain ⟨⟨x938, h938⟩, hc9, hrun⟩ := m_bind hrun
        refine mr_calli (mr_runV (As := [.int x937]) (rest := []) hx hb hml hown hts (c_X8_count l D ids st z hc9) yk_X8_count ys_X8_count wm_3_238 ⟨(Nat.le_of_ble_eq_true rfl), (Nat.le_of_ble_eq_true rfl)⟩ (mr_recv (ci := 6) hR hE hz hS hA rfl ho9) hl.1 rfl (Nat.le_of_ble_eq_true rfl) dL_law_938 ⟨(by show KC + 0 ≤ 601024; omega), (by show KS + 0 ≤ 7293034; omega)⟩) hR hz hS hA (fun H locs hR hz hS => ?_)
        refine W.widen (k := KC) (n := KS) (Nat.le_refl _) (Nat.le_refl _) ?_
        refine lv_istore (lv' := [(6, .int x938), (5, .int x926), (0, .ref v0), (1, .ref v1), (2, .ref v2), (3, .ref v3), (4, .int v4)]) hx hb dL_law_941 hl (by decide) rfl (fun ls hl => ?_)
        refine lv_aload_n hx hb dL_law_943 rfl (lv_at hl 4 rfl) ?_
        obtain ⟨_, ho9, hrun⟩ := m_bind hrun
        obtain ⟨fs9, ho9⟩ := m_is_spec ho9
        obtain ⟨x944, hc9, hrun⟩ := m_bind hrun
        refine mr_calli (mr_runV (As := []) (rest := []) hx hb hml hown hts (c_X8_thrown l D ids st z hc9) yk_X8_thrown ys_X8_thrown wm_3_73 ⟨(Nat.le_of_ble_eq_true rfl), (Nat.le_of_ble_eq_true rfl)⟩ (mr_recv (ci := 6) hR hE hz hS hA rfl ho9) hl.1 rfl (Nat.le_of_ble_eq_true rfl) dL_law_944 ⟨(by show KC + 0 ≤ 601024; omega), (by show KS + 0 ≤ 7293034; omega)⟩) hR hz hS hA (fun H locs hR hz hS => ?_)
        refine W.widen (k := KC) (n := KS) (Nat.le_refl _) (Nat.le_refl _) ?_
        refine lv_iload hx hb dL_law_947 (lv_at hl 1 rfl) ?_
        refine lv_icmp_eq (tgt := 954) hx hb dL_law_949 (by decide) (fun hc => ?_) (fun hc => ?_)
        · have hrun := mt_t hrun hc
          refine lv_iload hx hb dL_law_954 (lv_at hl 1 rfl) ?_
          refine lv_if_ne (tgt := 971) hx hb dL_law_956 (by decide) (fun hc => ?_) (fun hc => ?_)
          · have hrun := mt_f hrun hc
            exact k_L_law_b971 hx hb hml hown hts hE hA hfl hend hKC hKS (Nat.le_refl _) (Nat.le_refl _) (ih (by omega)) _ _ _ _ _ _ _ _ _ _ hrun hR hz hS (lv_sub hl [2, 3, 4, 5, 6] rfl)
          · have hrun := mt_t hrun hc
            refine lv_aload_n hx hb dL_law_959 rfl (lv_at hl 5 rfl) ?_
            refine lv_iconst (v := 0) hx hb dL_law_960 (by decide) ?_
            obtain ⟨x961, hc9, hrun⟩ := m_bind hrun
            refine mr_lald hx hb hR hc9 dL_law_961 ?_
            refine lv_iload hx hb dL_law_962 (lv_at hl 0 rfl) ?_
            refine lv_i2l (v := x938.toInt64) hx hb dL_law_964 rfl ?_
            refine W.lcmp hx hb dL_law_965 ?_
            refine lv_if_eq (tgt := 971) hx hb dL_law_966 (by decide) (fun hc => ?_) (fun hc => ?_)
            · have hrun := mt_t hrun hc
              exact k_L_law_b971 hx hb hml hown hts hE hA hfl hend hKC hKS (Nat.le_refl _) (Nat.le_refl _) (ih (by omega)) _ _ _ _ _ _ _ _ _ _ hrun hR hz hS (lv_sub hl [2, 3, 4, 5, 6] rfl)
            · have hrun := mt_f hrun hc
              refine lv_iconst (v := 0) hx hb dL_law_969 (by decide) ?_
              exact absurd (Option.some.inj hrun) (by decide)
        · have hrun := mt_f hrun hc
          refine lv_iconst (v := 0) hx hb dL_law_952 (by decide) ?_
          exact absurd (Option.some.inj hrun) (by decide)
      have hrun := mt_f hrun hc13
      have hn13 : ¬ (x36 &&& 31).toInt = 13 := lv_neT hc13 rfl
      by_cases hc14 : (x36 &&& 31) = 14
      · have hrun := mt_t hrun hc14
        refine lv_tableIn (tgt := 974) (off := 934) hx hb dL_law_40 (by rw [hc14]; decide) (by rw [hc14]; decide) (by rw [hc14]; rfl) (by decide) ?_
        refine lv_aload_n hx hb dL_law_974 rfl (lv_at hl 1 rfl) ?_
        refine lv_aload_n hx hb dL_law_975 rfl (lv_at hl 0 rfl) ?_
        refine lv_iload hx hb dL_law_976 (lv_at hl 4 rfl) ?_
        refine lv_iconst (v := 1) hx hb dL_law_978 (by decide) ?_
        refine lv_iadd hx hb dL_law_979 ?_
        obtain ⟨x980, hc9, hrun⟩ := m_bind hrun
        refine mr_iald hx hb hR hc9 dL_law_980 ?_
        refine lv_aload_n hx hb dL_law_981 rfl (lv_at hl 0 rfl) ?_
        refine lv_iload hx hb dL_law_982 (lv_at hl 4 rfl) ?_
        refine lv_iconst (v := 2) hx hb dL_law_984 (by decide) ?_
        refine lv_iadd hx hb dL_law_985 ?_
        obtain ⟨x986, hc9, hrun⟩ := m_bind hrun
        refine mr_iald hx hb hR hc9 dL_law_986 ?_
        refine lv_aload_n hx hb dL_law_987 rfl (lv_at hl 0 rfl) ?_
        refine lv_iload hx hb dL_law_988 (lv_at hl 4 rfl) ?_
        refine lv_iconst (v := 3) hx hb dL_law_990 (by decide) ?_
        refine lv_iadd hx hb dL_law_991 ?_
        obtain ⟨x992, hc9, hrun⟩ := m_bind hrun
        refine mr_iald hx hb hR hc9 dL_law_992 ?_
        refine lv_aload_n hx hb dL_law_993 rfl (lv_at hl 3 rfl) ?_
        obtain ⟨⟨x994, h994⟩, hc9, hrun⟩ := m_bind hrun
        refine mrw_calli (mr_runSW (As := [.ref v1, .int x980, .int x986, .int x992, .ref v3]) (rest := []) hx hb hml hown hts (c_L_ledger l hfl D ids st z hc9) yk_L_ledger ys_L_ledger wm_3_6 ⟨(Nat.le_of_ble_eq_true rfl), (Nat.le_of_ble_eq_true rfl)⟩ (mr_recvS hR hE hz hS hA) hl.1 rfl (Nat.le_of_ble_eq_true rfl) dL_law_994 ⟨by show kc + 1 ≤ 601024; omega, by show ks + 6 ≤ 7293034; omega⟩) hR hz hS hA (fun H locs hR hS => ?_)
        obtain ⟨z, hz⟩ : ∃ z, H.size = z := ⟨_, rfl⟩
        refine W.widen (k := KC) (n := KS) hkc hks ?_
        refine lv_istore (lv' := [(5, .int x994), (0, .ref v0), (1, .ref v1), (2, .ref v2), (3, .ref v3), (4, .int v4)]) hx hb dL_law_997 hl (by decide) rfl (fun ls hl => ?_)
        refine lv_aload_n hx hb dL_law_999 rfl (lv_at hl 3 rfl) ?_
        refine lv_aload_n hx hb dL_law_1000 rfl (lv_at hl 1 rfl) ?_
        refine lv_iload hx hb dL_law_1001 (lv_at hl 5 rfl) ?_
        refine lv_iconst (v := 1) hx hb dL_law_1003 (by decide) ?_
        refine lv_iadd hx hb dL_law_1004 ?_
        obtain ⟨x1005, hc9, hrun⟩ := m_bind hrun
        refine mr_iald hx hb hR hc9 dL_law_1005 ?_
        refine lv_aload_n hx hb dL_law_1006 rfl (lv_at hl 1 rfl) ?_
        refine lv_iload hx hb dL_law_1007 (lv_at hl 5 rfl) ?_
        refine lv_iconst (v := 2) hx hb dL_law_1009 (by decide) ?_
        refine lv_iadd hx hb dL_law_1010 ?_
        obtain ⟨x1011, hc9, hrun⟩ := m_bind hrun
        refine mr_iald hx hb hR hc9 dL_law_1011 ?_
        refine lv_aload_n hx hb dL_law_1012 rfl (lv_at hl 1 rfl) ?_
        refine lv_iload hx hb dL_law_1013 (lv_at hl 5 rfl) ?_
        refine lv_iconst (v := 3) hx hb dL_law_1015 (by decide) ?_
        refine lv_iadd hx hb dL_law_1016 ?_
        obtain ⟨x1017, hc9, hrun⟩ := m_bind hrun
        refine mr_iald hx hb hR hc9 dL_law_1017 ?_
        obtain ⟨_, ho9, hrun⟩ := m_bind hrun
        obtain ⟨fs9, ho9⟩ := m_is_spec ho9
        obtain ⟨⟨x1018, h1018⟩, hc9, hrun⟩ := m_bind hrun
        refine mr_calli (mr_runV (As := [.int x1005, .int x1011, .int x1017]) (rest := []) hx hb hml hown hts (c_X8_ledger l D ids st z hc9) yk_X8_ledger ys_X8_ledger wm_4_18 ⟨(Nat.le_of_ble_eq_true rfl), (Nat.le_of_ble_eq_true rfl)⟩ (mr_recv (ci := 6) hR hE hz hS hA rfl ho9) hl.1 rfl (Nat.le_of_ble_eq_true rfl) dL_law_1018 ⟨(by show KC + 0 ≤ 601024; omega), (by show KS + 0 ≤ 7293034; omega)⟩) hR hz hS hA (fun H locs hR hz hS => ?_)
        refine W.widen (k := KC) (n := KS) (Nat.le_refl _) (Nat.le_refl _) ?_
        refine lv_istore (lv' := [(6, .int x1018), (5, .int x994), (0, .ref v0), (1, .ref v1), (2, .ref v2), (3, .ref v3), (4, .int v4)]) hx hb dL_law_1021 hl (by decide) rfl (fun ls hl => ?_)
        refine lv_aload_n hx hb dL_law_1023 rfl (lv_at hl 4 rfl) ?_
        obtain ⟨_, ho9, hrun⟩ := m_bind hrun
        obtain ⟨fs9, ho9⟩ := m_is_spec ho9
        obtain ⟨x1024, hc9, hrun⟩ := m_bind hrun
        refine mr_calli (mr_runV (As := []) (rest := []) hx hb hml hown hts (c_X8_thrown l D ids st z hc9) yk_X8_thrown ys_X8_thrown wm_3_73 ⟨(Nat.le_of_ble_eq_true rfl), (Nat.le_of_ble_eq_true rfl)⟩ (mr_recv (ci := 6) hR hE hz hS hA rfl ho9) hl.1 rfl (Nat.le_of_ble_eq_true rfl) dL_law_1024 ⟨(by show KC + 0 ≤ 601024; omega), (by show KS + 0 ≤ 7293034; omega)⟩) hR hz hS hA (fun H locs hR hz hS => ?_)
        refine W.widen (k := KC) (n := KS) (Nat.le_refl _) (Nat.le_refl _) ?_
        refine lv_iload hx hb dL_law_1027 (lv_at hl 1 rfl) ?_
        refine lv_icmp_eq (tgt := 1034) hx hb dL_law_1029 (by decide) (fun hc => ?_) (fun hc => ?_)
        · have hrun := mt_t hrun hc
          refine lv_iload hx hb dL_law_1034 (lv_at hl 1 rfl) ?_
          refine lv_if_ne (tgt := 1051) hx hb dL_law_1036 (by decide) (fun hc => ?_) (fun hc => ?_)
          · have hrun := mt_f hrun hc
            exact k_L_law_b1051 hx hb hml hown hts hE hA hfl hend hKC hKS (Nat.le_refl _) (Nat.le_refl _) (ih (by omega)) _ _ _ _ _ _ _ _ _ _ hrun hR hz hS (lv_sub hl [2, 3, 4, 5, 6] rfl)
          · have hrun := mt_t hrun hc
            refine lv_aload_n hx hb dL_law_1039 rfl (lv_at hl 5 rfl) ?_
            refine lv_iconst (v := 0) hx hb dL_law_1040 (by decide) ?_
            obtain ⟨x1041, hc9, hrun⟩ := m_bind hrun
            refine mr_lald hx hb hR hc9 dL_law_1041 ?_
            refine lv_iload hx hb dL_law_1042 (lv_at hl 0 rfl) ?_
            refine lv_i2l (v := x1018.toInt64) hx hb dL_law_1044 rfl ?_
            refine W.lcmp hx hb dL_law_1045 ?_
            refine lv_if_eq (tgt := 1051) hx hb dL_law_1046 (by decide) (fun hc => ?_) (fun hc => ?_)
            · have hrun := mt_t hrun hc
              exact k_L_law_b1051 hx hb hml hown hts hE hA hfl hend hKC hKS (Nat.le_refl _) (Nat.le_refl _) (ih (by omega)) _ _ _ _ _ _ _ _ _ _ hrun hR hz hS (lv_sub hl [2, 3, 4, 5, 6] rfl)
            · have hrun := mt_f hrun hc
              refine lv_iconst (v := 0) hx hb dL_law_1049 (by decide) ?_
              exact absurd (Option.some.inj hrun) (by decide)
        · have hrun := mt_f hrun hc
          refine lv_iconst (v := 0) hx hb dL_law_1032 (by decide) ?_
          exact absurd (Option.some.inj hrun) (by decide)
      have hrun := mt_f hrun hc14
      have hn14 : ¬ (x36 &&& 31).toInt = 14 := lv_neT hc14 rfl
      by_cases hc15 : (x36 &&& 31) = 15
      · have hrun := mt_t hrun hc15
        refine lv_tableIn (tgt := 1054) (off := 1014) hx hb dL_law_40 (by rw [hc15]; decide) (by rw [hc15]; decide) (by rw [hc15]; rfl) (by decide) ?_
        refine lv_aload_n hx hb dL_law_1054 rfl (lv_at hl 1 rfl) ?_
        refine lv_aload_n hx hb dL_law_1055 rfl (lv_at hl 0 rfl) ?_
        refine lv_iload hx hb dL_law_1056 (lv_at hl 4 rfl) ?_
        refine lv_iconst (v := 1) hx hb dL_law_1058 (by decide) ?_
        refine lv_iadd hx hb dL_law_1059 ?_
        obtain ⟨x1060, hc9, hrun⟩ := m_bind hrun
        refine mr_iald hx hb hR hc9 dL_law_1060 ?_
        refine lv_aload_n hx hb dL_law_1061 rfl (lv_at hl 0 rfl) ?_
        refine lv_iload hx hb dL_law_1062 (lv_at hl 4 rfl) ?_
        refine lv_iconst (v := 2) hx hb dL_law_1064 (by decide) ?_
        refine lv_iadd hx hb dL_law_1065 ?_
        obtain ⟨x1066, hc9, hrun⟩ := m_bind hrun
        refine mr_iald hx hb hR hc9 dL_law_1066 ?_
        refine lv_aload_n hx hb dL_law_1067 rfl (lv_at hl 0 rfl) ?_
        refine lv_iload hx hb dL_law_1068 (lv_at hl 4 rfl) ?_
        refine lv_iconst (v := 3) hx hb dL_law_1070 (by decide) ?_
        refine lv_iadd hx hb dL_law_1071 ?_
        obtain ⟨x1072, hc9, hrun⟩ := m_bind hrun
        refine mr_iald hx hb hR hc9 dL_law_1072 ?_
        refine lv_aload_n hx hb dL_law_1073 rfl (lv_at hl 0 rfl) ?_
        refine lv_iload hx hb dL_law_1074 (lv_at hl 4 rfl) ?_
        refine lv_iconst (v := 4) hx hb dL_law_1076 (by decide) ?_
        refine lv_iadd hx hb dL_law_1077 ?_
        obtain ⟨x1078, hc9, hrun⟩ := m_bind hrun
        refine mr_iald hx hb hR hc9 dL_law_1078 ?_
        refine lv_aload_n hx hb dL_law_1079 rfl (lv_at hl 0 rfl) ?_
        refine lv_iload hx hb dL_law_1080 (lv_at hl 4 rfl) ?_
        refine lv_iconst (v := 5) hx hb dL_law_1082 (by decide) ?_
        refine lv_iadd hx hb dL_law_1083 ?_
        obtain ⟨x1084, hc9, hrun⟩ := m_bind hrun
        refine mr_iald hx hb hR hc9 dL_law_1084 ?_
        refine lv_if_eq (tgt := 1092) hx hb dL_law_1085 (by decide) (fun hc => ?_) (fun hc => ?_)
        · have hrun := mt_t hrun hc
          refine lv_iconst (v := 0) hx hb dL_law_1092 (by decide) ?_
          exact k_L_law_b1093 hx hb hml hown hts hE hA hfl hend hKC hKS hkc hks (ih (by omega)) _ _ _ _ _ _ _ _ _ _ _ _ _ _ _ _ hrun hR hz hS (lv_sub hl [0, 1, 2, 3, 4] rfl)
        · have hrun := mt_f hrun hc
          refine lv_iconst (v := 1) hx hb dL_law_1088 (by decide) ?_
          refine lv_goto (tgt := 1093) hx hb dL_law_1089 (by decide) ?_
          exact k_L_law_b1093 hx hb hml hown hts hE hA hfl hend hKC hKS hkc hks (ih (by omega)) _ _ _ _ _ _ _ _ _ _ _ _ _ _ _ _ hrun hR hz hS (lv_sub hl [0, 1, 2, 3, 4] rfl)
      have hrun := mt_f hrun hc15
      have hn15 : ¬ (x36 &&& 31).toInt = 15 := lv_neT hc15 rfl
      by_cases hc16 : (x36 &&& 31) = 16
      · have hrun := mt_t hrun hc16
        refine lv_tableIn (tgt := 1174) (off := 1134) hx hb dL_law_40 (by rw [hc16]; decide) (by rw [hc16]; decide) (by rw [hc16]; rfl) (by decide) ?_
        refine lv_aload_n hx hb dL_law_1174 rfl (lv_at hl 1 rfl) ?_
        refine lv_aload_n hx hb dL_law_1175 rfl (lv_at hl 0 rfl) ?_
        refine lv_iload hx hb dL_law_1176 (lv_at hl 4 rfl) ?_
        refine lv_iconst (v := 1) hx hb dL_law_1178 (by decide) ?_
        refine lv_iadd hx hb dL_law_1179 ?_
        obtain ⟨x1180, hc9, hrun⟩ := m_bind hrun
        refine mr_iald hx hb hR hc9 dL_law_1180 ?_
        refine lv_aload_n hx hb dL_law_1181 rfl (lv_at hl 0 rfl) ?_
        refine lv_iload hx hb dL_law_1182 (lv_at hl 4 rfl) ?_
        refine lv_iconst (v := 2) hx hb dL_law_1184 (by decide) ?_
        refine lv_iadd hx hb dL_law_1185 ?_
        obtain ⟨x1186, hc9, hrun⟩ := m_bind hrun
        refine mr_iald hx hb hR hc9 dL_law_1186 ?_
        refine lv_aload_n hx hb dL_law_1187 rfl (lv_at hl 0 rfl) ?_
        refine lv_iload hx hb dL_law_1188 (lv_at hl 4 rfl) ?_
        refine lv_iconst (v := 3) hx hb dL_law_1190 (by decide) ?_
        refine lv_iadd hx hb dL_law_1191 ?_
        obtain ⟨x1192, hc9, hrun⟩ := m_bind hrun
        refine mr_iald hx hb hR hc9 dL_law_1192 ?_
        refine lv_aload_n hx hb dL_law_1193 rfl (lv_at hl 3 rfl) ?_
        obtain ⟨⟨x1194, h1194⟩, hc9, hrun⟩ := m_bind hrun
        refine mrw_calli (mr_runSW (As := [.ref v1, .int x1180, .int x1186, .int x1192, .ref v3]) (rest := []) hx hb hml hown hts (c_L_whyNot l hfl D ids st z hc9) yk_L_whyNot ys_L_whyNot wm_3_20 ⟨(Nat.le_of_ble_eq_true rfl), (Nat.le_of_ble_eq_true rfl)⟩ (mr_recvS hR hE hz hS hA) hl.1 rfl (Nat.le_of_ble_eq_true rfl) dL_law_1194 ⟨by show kc + 1 ≤ 601024; omega, by show ks + 6 ≤ 7293034; omega⟩) hR hz hS hA (fun H locs hR hS => ?_)
        obtain ⟨z, hz⟩ : ∃ z, H.size = z := ⟨_, rfl⟩
        refine W.widen (k := KC) (n := KS) hkc hks ?_
        refine lv_istore (lv' := [(5, .int x1194), (0, .ref v0), (1, .ref v1), (2, .ref v2), (3, .ref v3), (4, .int v4)]) hx hb dL_law_1197 hl (by decide) rfl (fun ls hl => ?_)
        refine lv_aload_n hx hb dL_law_1199 rfl (lv_at hl 3 rfl) ?_
        refine lv_aload_n hx hb dL_law_1200 rfl (lv_at hl 1 rfl) ?_
        refine lv_iload hx hb dL_law_1201 (lv_at hl 5 rfl) ?_
        refine lv_iconst (v := 1) hx hb dL_law_1203 (by decide) ?_
        refine lv_iadd hx hb dL_law_1204 ?_
        obtain ⟨x1205, hc9, hrun⟩ := m_bind hrun
        refine mr_iald hx hb hR hc9 dL_law_1205 ?_
        refine lv_aload_n hx hb dL_law_1206 rfl (lv_at hl 1 rfl) ?_
        refine lv_iload hx hb dL_law_1207 (lv_at hl 5 rfl) ?_
        refine lv_iconst (v := 2) hx hb dL_law_1209 (by decide) ?_
        refine lv_iadd hx hb dL_law_1210 ?_
        obtain ⟨x1211, hc9, hrun⟩ := m_bind hrun
        refine mr_iald hx hb hR hc9 dL_law_1211 ?_
        refine lv_aload_n hx hb dL_law_1212 rfl (lv_at hl 1 rfl) ?_
        refine lv_iload hx hb dL_law_1213 (lv_at hl 5 rfl) ?_
        refine lv_iconst (v := 3) hx hb dL_law_1215 (by decide) ?_
        refine lv_iadd hx hb dL_law_1216 ?_
        obtain ⟨x1217, hc9, hrun⟩ := m_bind hrun
        refine mr_iald hx hb hR hc9 dL_law_1217 ?_
        obtain ⟨_, ho9, hrun⟩ := m_bind hrun
        obtain ⟨fs9, ho9⟩ := m_is_spec ho9
        obtain ⟨⟨x1218, h1218⟩, hc9, hrun⟩ := m_bind hrun
        refine mr_calli (mr_runV (As := [.int x1205, .int x1211, .int x1217]) (rest := []) hx hb hml hown hts (c_X8_whyNot l D ids st z hc9) yk_X8_whyNot ys_X8_whyNot wm_4_34 ⟨(Nat.le_of_ble_eq_true rfl), (Nat.le_of_ble_eq_true rfl)⟩ (mr_recv (ci := 6) hR hE hz hS hA rfl ho9) hl.1 rfl (Nat.le_of_ble_eq_true rfl) dL_law_1218 ⟨(by show KC + 0 ≤ 601024; omega), (by show KS + 0 ≤ 7293034; omega)⟩) hR hz hS hA (fun H locs hR hz hS => ?_)
        refine W.widen (k := KC) (n := KS) (Nat.le_refl _) (Nat.le_refl _) ?_
        refine lv_istore (lv' := [(6, .int x1218), (5, .int x1194), (0, .ref v0), (1, .ref v1), (2, .ref v2), (3, .ref v3), (4, .int v4)]) hx hb dL_law_1221 hl (by decide) rfl (fun ls hl => ?_)
        refine lv_aload_n hx hb dL_law_1223 rfl (lv_at hl 4 rfl) ?_
        obtain ⟨_, ho9, hrun⟩ := m_bind hrun
        obtain ⟨fs9, ho9⟩ := m_is_spec ho9
        obtain ⟨x1224, hc9, hrun⟩ := m_bind hrun
        refine mr_calli (mr_runV (As := []) (rest := []) hx hb hml hown hts (c_X8_thrown l D ids st z hc9) yk_X8_thrown ys_X8_thrown wm_3_73 ⟨(Nat.le_of_ble_eq_true rfl), (Nat.le_of_ble_eq_true rfl)⟩ (mr_recv (ci := 6) hR hE hz hS hA rfl ho9) hl.1 rfl (Nat.le_of_ble_eq_true rfl) dL_law_1224 ⟨(by show KC + 0 ≤ 601024; omega), (by show KS + 0 ≤ 7293034; omega)⟩) hR hz hS hA (fun H locs hR hz hS => ?_)
        refine W.widen (k := KC) (n := KS) (Nat.le_refl _) (Nat.le_refl _) ?_
        refine lv_iload hx hb dL_law_1227 (lv_at hl 1 rfl) ?_
        refine lv_icmp_eq (tgt := 1234) hx hb dL_law_1229 (by decide) (fun hc => ?_) (fun hc => ?_)
        · have hrun := mt_t hrun hc
          refine lv_iload hx hb dL_law_1234 (lv_at hl 1 rfl) ?_
          refine lv_if_ne (tgt := 1251) hx hb dL_law_1236 (by decide) (fun hc => ?_) (fun hc => ?_)
          · have hrun := mt_f hrun hc
            exact k_L_law_b1251 hx hb hml hown hts hE hA hfl hend hKC hKS (Nat.le_refl _) (Nat.le_refl _) (ih (by omega)) _ _ _ _ _ _ _ _ _ _ hrun hR hz hS (lv_sub hl [2, 3, 4, 5, 6] rfl)
          · have hrun := mt_t hrun hc
            refine lv_aload_n hx hb dL_law_1239 rfl (lv_at hl 5 rfl) ?_
            refine lv_iconst (v := 0) hx hb dL_law_1240 (by decide) ?_
            obtain ⟨x1241, hc9, hrun⟩ := m_bind hrun
            refine mr_lald hx hb hR hc9 dL_law_1241 ?_
            refine lv_iload hx hb dL_law_1242 (lv_at hl 0 rfl) ?_
            refine lv_i2l (v := x1218.toInt64) hx hb dL_law_1244 rfl ?_
            refine W.lcmp hx hb dL_law_1245 ?_
            refine lv_if_eq (tgt := 1251) hx hb dL_law_1246 (by decide) (fun hc => ?_) (fun hc => ?_)
            · have hrun := mt_t hrun hc
              exact k_L_law_b1251 hx hb hml hown hts hE hA hfl hend hKC hKS (Nat.le_refl _) (Nat.le_refl _) (ih (by omega)) _ _ _ _ _ _ _ _ _ _ hrun hR hz hS (lv_sub hl [2, 3, 4, 5, 6] rfl)
            · have hrun := mt_f hrun hc
              refine lv_iconst (v := 0) hx hb dL_law_1249 (by decide) ?_
              exact absurd (Option.some.inj hrun) (by decide)
        · have hrun := mt_f hrun hc
          refine lv_iconst (v := 0) hx hb dL_law_1232 (by decide) ?_
          exact absurd (Option.some.inj hrun) (by decide)
      have hrun := mt_f hrun hc16
      have hn16 : ¬ (x36 &&& 31).toInt = 16 := lv_neT hc16 rfl
      by_cases hc17 : (x36 &&& 31) = 17
      · have hrun := mt_t hrun hc17
        refine lv_tableIn (tgt := 1254) (off := 1214) hx hb dL_law_40 (by rw [hc17]; decide) (by rw [hc17]; decide) (by rw [hc17]; rfl) (by decide) ?_
        refine lv_aload_n hx hb dL_law_1254 rfl (lv_at hl 1 rfl) ?_
        obtain ⟨_, ho9, hrun⟩ := m_bind hrun
        obtain ⟨fs9, ho9⟩ := m_is_spec ho9
        obtain ⟨x1255, hc9, hrun⟩ := m_bind hrun
        refine mr_calli (mr_runV (As := []) (rest := []) hx hb hml hown hts (c_X7_leaky l D ids st z hc9) yk_X7_leaky ys_X7_leaky wm_1_76 ⟨(Nat.le_of_ble_eq_true rfl), (Nat.le_of_ble_eq_true rfl)⟩ (mr_recv (ci := 5) hR hE hz hS hA rfl ho9) hl.1 rfl (Nat.le_of_ble_eq_true rfl) dL_law_1255 ⟨(by show kc + 0 ≤ 601024; omega), (by show ks + 0 ≤ 7293034; omega)⟩) hR hz hS hA (fun H locs hR hz hS => ?_)
        refine W.widen (k := kc) (n := ks) (Nat.le_refl _) (Nat.le_refl _) ?_
        refine lv_aload_n hx hb dL_law_1258 rfl (lv_at hl 2 rfl) ?_
        obtain ⟨_, ho9, hrun⟩ := m_bind hrun
        obtain ⟨fs9, ho9⟩ := m_is_spec ho9
        obtain ⟨⟨x1259, h1259⟩, hc9, hrun⟩ := m_bind hrun
        refine mr_calli (mr_runV (As := []) (rest := [.int x1255]) hx hb hml hown hts (c_X8_leaky l D ids st z hc9) yk_X8_leaky ys_X8_leaky wm_4_38 ⟨(Nat.le_of_ble_eq_true rfl), (Nat.le_of_ble_eq_true rfl)⟩ (mr_recv (ci := 6) hR hE hz hS hA rfl ho9) hl.1 rfl (Nat.le_of_ble_eq_true rfl) dL_law_1259 ⟨(by show kc + 0 ≤ 601024; omega), (by show ks + 0 ≤ 7293034; omega)⟩) hR hz hS hA (fun H locs hR hz hS => ?_)
        refine W.widen (k := kc) (n := ks) (Nat.le_refl _) (Nat.le_refl _) ?_
        refine lv_icmp_eq (tgt := 1335) hx hb dL_law_1262 (by decide) (fun hc => ?_) (fun hc => ?_)
        · have hrun := mt_t hrun hc
          exact k_L_law_b1335 hx hb hml hown hts hE hA hfl hend hKC hKS (by omega) (by omega) (ih (by omega)) _ _ _ _ _ _ _ _ _ _ hrun hR hz hS (lv_sub hl [0, 1, 2, 3, 4] rfl)
        · have hrun := mt_f hrun hc
          refine lv_iconst (v := 0) hx hb dL_law_1265 (by decide) ?_
          exact absurd (Option.some.inj hrun) (by decide)
      have hrun := mt_f hrun hc17
      have hn17 : ¬ (x36 &&& 31).toInt = 17 := lv_neT hc17 rfl
      by_cases hc18 : (x36 &&& 31) = 18
      · have hrun := mt_t hrun hc18
        refine lv_tableIn (tgt := 1267) (off := 1227) hx hb dL_law_40 (by rw [hc18]; decide) (by rw [hc18]; decide) (by rw [hc18]; rfl) (by decide) ?_
        refine lv_aload_n hx hb dL_law_1267 rfl (lv_at hl 1 rfl) ?_
        obtain ⟨_, ho9, hrun⟩ := m_bind hrun
        obtain ⟨fs9, ho9⟩ := m_is_spec ho9
        obtain ⟨x1268, hc9, hrun⟩ := m_bind hrun
        refine mr_calli (mr_runV (As := []) (rest := []) hx hb hml hown hts (c_X7_leastCap l D ids st z hc9) yk_X7_leastCap ys_X7_leastCap wm_1_81 ⟨(Nat.le_of_ble_eq_true rfl), (Nat.le_of_ble_eq_true rfl)⟩ (mr_recv (ci := 5) hR hE hz hS hA rfl ho9) hl.1 rfl (Nat.le_of_ble_eq_true rfl) dL_law_1268 ⟨(by show kc + 0 ≤ 601024; omega), (by show ks + 0 ≤ 7293034; omega)⟩) hR hz hS hA (fun H locs hR hz hS => ?_)
        refine W.widen (k := kc) (n := ks) (Nat.le_refl _) (Nat.le_refl _) ?_
        refine lv_aload_n hx hb dL_law_1271 rfl (lv_at hl 2 rfl) ?_
        obtain ⟨_, ho9, hrun⟩ := m_bind hrun
        obtain ⟨fs9, ho9⟩ := m_is_spec ho9
        obtain ⟨⟨x1272, h1272⟩, hc9, hrun⟩ := m_bind hrun
        refine mr_calli (mr_runV (As := []) (rest := [.int x1268]) hx hb hml hown hts (c_X8_leastCap l D ids st z hc9) yk_X8_leastCap ys_X8_leastCap wm_4_46 ⟨(Nat.le_of_ble_eq_true rfl), (Nat.le_of_ble_eq_true rfl)⟩ (mr_recv (ci := 6) hR hE hz hS hA rfl ho9) hl.1 rfl (Nat.le_of_ble_eq_true rfl) dL_law_1272 ⟨(by show kc + 0 ≤ 601024; omega), (by show ks + 0 ≤ 7293034; omega)⟩) hR hz hS hA (fun H locs hR hz hS => ?_)
        refine W.widen (k := kc) (n := ks) (Nat.le_refl _) (Nat.le_refl _) ?_
        refine lv_icmp_eq (tgt := 1335) hx hb dL_law_1275 (by decide) (fun hc => ?_) (fun hc => ?_)
        · have hrun := mt_t hrun hc
          exact k_L_law_b1335 hx hb hml hown hts hE hA hfl hend hKC hKS (by omega) (by omega) (ih (by omega)) _ _ _ _ _ _ _ _ _ _ hrun hR hz hS (lv_sub hl [0, 1, 2, 3, 4] rfl)
        · have hrun := mt_f hrun hc
          refine lv_iconst (v := 0) hx hb dL_law_1278 (by decide) ?_
          exact absurd (Option.some.inj hrun) (by decide)
      have hrun := mt_f hrun hc18
      have hn18 : ¬ (x36 &&& 31).toInt = 18 := lv_neT hc18 rfl
      by_cases hc19 : (x36 &&& 31) = 19
      · have hrun := mt_t hrun hc19
        refine lv_tableIn (tgt := 1280) (off := 1240) hx hb dL_law_40 (by rw [hc19]; decide) (by rw [hc19]; decide) (by rw [hc19]; rfl) (by decide) ?_
        refine lv_aload_n hx hb dL_law_1280 rfl (lv_at hl 1 rfl) ?_
        obtain ⟨_, ho9, hrun⟩ := m_bind hrun
        obtain ⟨fs9, ho9⟩ := m_is_spec ho9
        obtain ⟨x1281, hc9, hrun⟩ := m_bind hrun
        refine mr_calld (mr_runV (As := []) (rest := []) hx hb hml hown hts (c_X7_capShare l D ids st z hc9) yk_X7_capShare ys_X7_capShare wm_1_103 ⟨(Nat.le_of_ble_eq_true rfl), (Nat.le_of_ble_eq_true rfl)⟩ (mr_recv (ci := 5) hR hE hz hS hA rfl ho9) hl.1 rfl (Nat.le_of_ble_eq_true rfl) dL_law_1281 ⟨(by show kc + 0 ≤ 601024; omega), (by show ks + 0 ≤ 7293034; omega)⟩) hR hz hS hA (fun H locs hR hz hS => ?_)
        refine W.widen (k := kc) (n := ks) (Nat.le_refl _) (Nat.le_refl _) ?_
        refine lv_dstore (lv' := [(5, .double x1281), (0, .ref v0), (1, .ref v1), (2, .ref v2), (3, .ref v3), (4, .int v4)]) hx hb dL_law_1284 hl (by decide) rfl (fun ls hl => ?_)
        refine lv_aload_n hx hb dL_law_1286 rfl (lv_at hl 3 rfl) ?_
        obtain ⟨_, ho9, hrun⟩ := m_bind hrun
        obtain ⟨fs9, ho9⟩ := m_is_spec ho9
        obtain ⟨⟨x1287, h1287⟩, hc9, hrun⟩ := m_bind hrun
        refine mr_calld (mr_runV (As := []) (rest := []) hx hb hml hown hts (c_X8_capShare l D ids st z hc9) yk_X8_capShare ys_X8_capShare wm_4_54 ⟨(Nat.le_of_ble_eq_true rfl), (Nat.le_of_ble_eq_true rfl)⟩ (mr_recv (ci := 6) hR hE hz hS hA rfl ho9) hl.1 rfl (Nat.le_of_ble_eq_true rfl) dL_law_1287 ⟨(by show kc + 0 ≤ 601024; omega), (by show ks + 0 ≤ 7293034; omega)⟩) hR hz hS hA (fun H locs hR hz hS => ?_)
        refine W.widen (k := kc) (n := ks) (Nat.le_refl _) (Nat.le_refl _) ?_
        refine lv_dstore (lv' := [(7, .double x1287), (5, .double x1281), (0, .ref v0), (1, .ref v1), (2, .ref v2), (3, .ref v3), (4, .int v4)]) hx hb dL_law_1290 hl (by decide) rfl (fun ls hl => ?_)
        refine lv_dload hx hb dL_law_1292 (lv_at hl 1 rfl) ?_
        refine lv_dload hx hb dL_law_1294 (lv_at hl 0 rfl) ?_
        refine lv_dcmp hx hb dL_law_1296 ?_
        refine lv_if_eq (tgt := 1318) hx hb dL_law_1297 (by decide) (fun hc => ?_) (fun hc => ?_)
        · have hrun := mt_t hrun hc
          exact k_L_law_b1318 hx hb hml hown hts hE hA hfl hend hKC hKS (by omega) (by omega) (ih (by omega)) _ _ _ _ _ _ _ _ _ _ hrun hR hz hS (lv_sub hl [2, 3, 4, 5, 6] rfl)
        · have hrun := mt_f hrun hc
          refine lv_dload hx hb dL_law_1300 (lv_at hl 1 rfl) ?_
          refine lv_dload hx hb dL_law_1302 (lv_at hl 1 rfl) ?_
          refine lv_dcmp hx hb dL_law_1304 ?_
          refine lv_if_eq (tgt := 1316) hx hb dL_law_1305 (by decide) (fun hc => ?_) (fun hc => ?_)
          · have hrun := mt_t hrun hc
            exact k_L_law_b1316 hx hb hml hown hts hE hA hfl hend hKC hKS (by omega) (by omega) (ih (by omega)) _ _ _ _ _ hrun hR hz hS (lv_sub hl [] rfl)
          · have hrun := mt_f hrun hc
            refine lv_dload hx hb dL_law_1308 (lv_at hl 0 rfl) ?_
            refine lv_dload hx hb dL_law_1310 (lv_at hl 0 rfl) ?_
            refine lv_dcmp hx hb dL_law_1312 ?_
            refine lv_if_ne (tgt := 1318) hx hb dL_law_1313 (by decide) (fun hc => ?_) (fun hc => ?_)
            · have hrun := mt_f hrun hc
              exact k_L_law_b1318 hx hb hml hown hts hE hA hfl hend hKC hKS (by omega) (by omega) (ih (by omega)) _ _ _ _ _ _ _ _ _ _ hrun hR hz hS (lv_sub hl [2, 3, 4, 5, 6] rfl)
            · have hrun := mt_t hrun hc
              exact k_L_law_b1316 hx hb hml hown hts hE hA hfl hend hKC hKS (by omega) (by omega) (ih (by omega)) _ _ _ _ _ hrun hR hz hS (lv_sub hl [] rfl)
      have hrun := mt_f hrun hc19
      have hn19 : ¬ (x36 &&& 31).toInt = 19 := lv_neT hc19 rfl
      by_cases hc20 : (x36 &&& 31) = 20
      · have hrun := mt_t hrun hc20
        refine lv_tableIn (tgt := 1321) (off := 1281) hx hb dL_law_40 (by rw [hc20]; decide) (by rw [hc20]; decide) (by rw [hc20]; rfl) (by decide) ?_
        refine lv_aload_n hx hb dL_law_1321 rfl (lv_at hl 1 rfl) ?_
        obtain ⟨_, ho9, hrun⟩ := m_bind hrun
        obtain ⟨fs9, ho9⟩ := m_is_spec ho9
        obtain ⟨⟨x1322, h1322⟩, hc9, hrun⟩ := m_bind hrun
        refine mr_calll (mr_runV (As := []) (rest := []) hx hb hml hown hts (c_X7_digest l D ids st z hc9) yk_X7_digest ys_X7_digest wm_1_114 ⟨(Nat.le_of_ble_eq_true rfl), (Nat.le_of_ble_eq_true rfl)⟩ (mr_recv (ci := 5) hR hE hz hS hA rfl ho9) hl.1 rfl (Nat.le_of_ble_eq_true rfl) dL_law_1322 ⟨(by show kc + 0 ≤ 601024; omega), (by show ks + 0 ≤ 7293034; omega)⟩) hR hz hS hA (fun H locs hR hz hS => ?_)
        refine W.widen (k := kc) (n := ks) (Nat.le_refl _) (Nat.le_refl _) ?_
        refine lv_aload_n hx hb dL_law_1325 rfl (lv_at hl 2 rfl) ?_
        obtain ⟨_, ho9, hrun⟩ := m_bind hrun
        obtain ⟨fs9, ho9⟩ := m_is_spec ho9
        obtain ⟨⟨x1326, h1326⟩, hc9, hrun⟩ := m_bind hrun
        refine mr_calll (mr_runV (As := []) (rest := [.long x1322]) hx hb hml hown hts (c_X8_digest l D ids st z hc9) yk_X8_digest ys_X8_digest wm_4_62 ⟨(Nat.le_of_ble_eq_true rfl), (Nat.le_of_ble_eq_true rfl)⟩ (mr_recv (ci := 6) hR hE hz hS hA rfl ho9) hl.1 rfl (Nat.le_of_ble_eq_true rfl) dL_law_1326 ⟨(by show kc + 0 ≤ 601024; omega), (by show ks + 0 ≤ 7293034; omega)⟩) hR hz hS hA (fun H locs hR hz hS => ?_)
        refine W.widen (k := kc) (n := ks) (Nat.le_refl _) (Nat.le_refl _) ?_
        refine W.lcmp hx hb dL_law_1329 ?_
        refine lv_if_eq (tgt := 1335) hx hb dL_law_1330 (by decide) (fun hc => ?_) (fun hc => ?_)
        · have hrun := mt_t hrun hc
          exact k_L_law_b1335 hx hb hml hown hts hE hA hfl hend hKC hKS (by omega) (by omega) (ih (by omega)) _ _ _ _ _ _ _ _ _ _ hrun hR hz hS (lv_sub hl [0, 1, 2, 3, 4] rfl)
        · have hrun := mt_f hrun hc
          refine lv_iconst (v := 0) hx hb dL_law_1333 (by decide) ?_
          exact absurd (Option.some.inj hrun) (by decide)
      have hrun := mt_f hrun hc20
      have hn20 : ¬ (x36 &&& 31).toInt = 20 := lv_neT hc20 rfl
      refine lv_tableOut (tgt := 1335) hx hb dL_law_40 (by omega) (by decide) ?_
      exact k_L_law_b1335 hx hb hml hown hts hE hA hfl hend hKC hKS (by omega) (by omega) (ih (by omega)) _ _ _ _ _ _ _ _ _ _ hrun hR hz hS (lv_sub hl [0, 1, 2, 3, 4] rfl)
set_option maxRecDepth 100000 in
set_option maxHeartbeats 8000000 in
theorem k_L_law {p : Program} {l : Launch} {e : Env} {s : State} {m : MethodId} {args : Array Value} {below : List Frame} {meth : Method} {c : Code} {D : va_G} {ids : m_I3} {st : m_T} {Q : State → Prop} (hx : p.tables.exec = Jvm.exec) (hb : c.code = cL_law) (hml : c.maxLocals = 9) (hown : s.vm.findClass RL = some m.cls) (hts : ∀ w ∈ (m_ws yX1_at cX1_at 2 (some .int)), w.before args s = true) (hE : m_EV st (fun q : Nat => s.heap.size ≤ q) s s.heap) (hA : ∀ q, s.heap.size ≤ q → (fun q : Nat => s.heap.size ≤ q) q) (hfl : l.stackTraces = false) (hend : ∀ (H : Heap) (ls : Array Slot), W p l e room_1 s m args below meth c H [] 601024 7293034 Q (F0 m 1342 ls [.int 1])) (h : mH) (v0 : Nat) (z : Nat) (H : Heap) (locs : List Loc) (ls : Array Slot) (hrun : s_L_law st h z v0 = some 1) (hR : Rl D ids (fun q : Nat => s.heap.size ≤ q) h s H) (hz : H.size = z) (hS : va_S (fun q : Nat => s.heap.size ≤ q) s.heap H locs) (hl : lv_has ls 9 [(0, .ref v0)]) : W p l e room_1 s m args below meth c H locs 0 0 Q (F0 m 0 ls []) := by
  unfold s_L_law at hrun
  obtain ⟨h0, hc9, hrun⟩ := m_bind hrun
  refine mr_new (C := RX7) (T := TX7) (N := 8) (ci := 5) (fs := [.null, .null, .null, .null, .null, .null, .int 0, .null]) hx hb hts (fun w q => m_ws_in (wi_X7 w q)) tyX7 tyX7_ok hown (hts _ (m_ws_in wm_0_18)) (hts _ (m_ws_in wm_0_19)) (hts _ (m_ws_in wm_0_1)) hR hz hS hA rfl (fun j hj => by rcases (show j = 0 ∨ j = 1 ∨ j = 2 ∨ j = 3 ∨ j = 4 ∨ j = 5 ∨ j = 6 ∨ j = 7 by omega) with rfl | rfl | rfl | rfl | rfl | rfl | rfl | rfl <;> rfl) (Nat.le_of_ble_eq_true rfl) (Nat.le_of_ble_eq_true rfl) dL_law_0 (fun H hR hz hS => ?_)
  rw [Option.some.inj hc9] at hR
  refine lv_dup hx hb dL_law_3 rfl ?_
  obtain ⟨⟨h4, z4⟩, hc9, hrun⟩ := m_bind hrun
  refine mr_callv (mr_runI (As := []) (rest := [.ref z]) hx hb hml hown hts (c_X7_init l D ids st (z + 1) hc9) yk_X7_init ys_X7_init rfl wm_0_20 ⟨(Nat.le_of_ble_eq_true rfl), (Nat.le_of_ble_eq_true rfl)⟩ (mr_recvS hR hE hz hS hA) hl.1 rfl (Nat.le_of_ble_eq_true rfl) dL_law_4 ⟨(Nat.le_of_ble_eq_true rfl), (Nat.le_of_ble_eq_true rfl)⟩) hR hz hS hA (fun H locs hR hz hS => ?_)
  refine lv_astore_n (lv' := [(1, .ref z), (0, .ref v0)]) hx hb dL_law_7 rfl hl (by decide) rfl (fun ls hl => ?_)
  obtain ⟨h8, hc9, hrun⟩ := m_bind hrun
  refine mr_new (C := RX8) (T := TX8) (N := 13) (ci := 6) (fs := [.int 0, .null, .null, .null, .int 0, .null, .int 0, .null, .int 0, .int 0, .null, .int 0, .long 0]) hx hb hts (fun w q => m_ws_in (wi_X8 w q)) tyX8 tyX8_ok hown (hts _ (m_ws_in wm_3_27)) (hts _ (m_ws_in wm_3_28)) (hts _ (m_ws_in wm_0_10)) hR hz hS hA rfl (fun j hj => by rcases (show j = 0 ∨ j = 1 ∨ j = 2 ∨ j = 3 ∨ j = 4 ∨ j = 5 ∨ j = 6 ∨ j = 7 ∨ j = 8 ∨ j = 9 ∨ j = 10 ∨ j = 11 ∨ j = 12 by omega) with rfl | rfl | rfl | rfl | rfl | rfl | rfl | rfl | rfl | rfl | rfl | rfl | rfl <;> rfl) (Nat.le_of_ble_eq_true rfl) (Nat.le_of_ble_eq_true rfl) dL_law_8 (fun H hR hz hS => ?_)
  rw [Option.some.inj hc9] at hR
  refine lv_dup hx hb dL_law_11 rfl ?_
  obtain ⟨⟨h12, z12⟩, hc9, hrun⟩ := m_bind hrun
  refine mr_callv (mr_runI (As := []) (rest := [.ref z4]) hx hb hml hown hts (c_X8_init l D ids st (z4 + 1) hc9) yk_X8_init ys_X8_init rfl wm_3_29 ⟨(Nat.le_of_ble_eq_true rfl), (Nat.le_of_ble_eq_true rfl)⟩ (mr_recvS hR hE hz hS hA) hl.1 rfl (Nat.le_of_ble_eq_true rfl) dL_law_12 ⟨(Nat.le_of_ble_eq_true rfl), (Nat.le_of_ble_eq_true rfl)⟩) hR hz hS hA (fun H locs hR hz hS => ?_)
  refine lv_astore_n (lv' := [(2, .ref z4), (1, .ref z), (0, .ref v0)]) hx hb dL_law_15 rfl hl (by decide) rfl (fun ls hl => ?_)
  refine lv_iconst (v := 1) hx hb dL_law_16 (by decide) ?_
  obtain ⟨h17, hc9, hrun⟩ := m_bind hrun
  refine mr_newl (N := 1) hx hb (hts _ (m_ws_in wm_4_90)) hR hz hS hA (by decide) (by decide) (Nat.le_of_ble_eq_true rfl) (Nat.le_of_ble_eq_true rfl) (Nat.le_of_ble_eq_true rfl) dL_law_17 (fun H hR hz hS => ?_)
  rw [Option.some.inj hc9] at hR
  refine lv_astore_n (lv' := [(3, .ref z12), (2, .ref z4), (1, .ref z), (0, .ref v0)]) hx hb dL_law_19 rfl hl (by decide) rfl (fun ls hl => ?_)
  refine lv_iconst (v := 0) hx hb dL_law_20 (by decide) ?_
  refine lv_istore (lv' := [(4, .int 0), (3, .ref z12), (2, .ref z4), (1, .ref z), (0, .ref v0)]) hx hb dL_law_21 hl (by decide) rfl (fun ls hl => ?_)
  refine W.widen (k := 600000 - 513) (n := 7000000 - 6 * 513) (Nat.le_of_ble_eq_true rfl) (Nat.le_of_ble_eq_true rfl) ?_
  exact k_L_law_L23 hx hb hml hown hts hE hA hfl hend 513 (Nat.le_refl _) _ _ _ _ _ _ _ _ _ _ hrun hR hz hS (lv_sub hl [4, 3, 2, 1, 0] rfl)
