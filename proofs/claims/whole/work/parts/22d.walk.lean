/-! the machine does it: laid by program -/
/-! X7_weekNumber -/
abbrev rm_X7_weekNumber : Room := { frames := 4, cells := 0, slots := 0, locals := 89 }
theorem yk_X7_weekNumber : m_K yX7_weekNumber cX7_weekNumber 4 (some .int) 3 := ⟨wm_1_166, wm_0_1, by decide +kernel⟩
theorem ys_X7_weekNumber : Cond.instanceMethod yX7_weekNumber ∈ wT ∧ Cond.selects RX7 yX7_weekNumber yX7_weekNumber ∈ wT := ⟨wm_1_165, wp_0_14⟩
set_option maxRecDepth 100000 in
set_option maxHeartbeats 4000000 in
theorem c_X7_weekNumber (l : Launch) (D : va_G) (ids : m_I3) (st : m_T) (z : Nat) {h : mH} {v0 : Nat} {v1 : Int32} {v2 : Int32} {v3 : Int32} {r : Int32} (hrun : s_X7_weekNumber h v0 v1 v2 v3 = some r) : Met l yX7_weekNumber (m_ws yX7_weekNumber cX7_weekNumber 4 (some .int)) rm_X7_weekNumber (mPc D ids st [.ref v0, .int v1, .int v2, .int v3] h z) (mQi D ids (m_A h z) r h z) rm_X7_weekNumber.cells rm_X7_weekNumber.slots (m_A h z) := by
  refine mr_of (cc := cX7_weekNumber) (maxL := 4) (ret := some .int) (by decide) rfl (Nat.le_of_ble_eq_true rfl) ?_
  intro p e s m below meth c ls hx hb hr hml hown hts hlocks hin hR hE hz hl
  have hA : ∀ q, s.heap.size ≤ q → m_A h z q := fun q hq => Or.inr (by rw [← hz]; exact hq)
  have hS : va_S (m_A h z) s.heap s.heap [] := va_S.rf
  have hl : lv_has ls 4 [(0, .ref v0), (1, .int v1), (2, .int v2), (3, .int v3)] := hl
  unfold s_X7_weekNumber at hrun
  refine lv_iload_n hx hb dX7_weekNumber_0 rfl (lv_at hl 3 rfl) ?_
  by_cases hc0 : v3 = 0
  · have hrun := mt_t hrun hc0
    refine lv_tableIn (tgt := 40) (off := 39) hx hb dX7_weekNumber_1 (by rw [hc0]; decide) (by rw [hc0]; decide) (by rw [hc0]; rfl) (by decide) ?_
    refine lv_aload_n hx hb dX7_weekNumber_40 rfl (lv_at hl 0 rfl) ?_
    obtain ⟨x41, hc9, hrun⟩ := m_bind hrun
    refine mr_get (C := RX7) (T := TX7) (N := 8) (ci := 5) hx hb hts (fun w q => m_ws_in (wi_X7 w q)) hown hR rfl 1 (by decide) (hts _ (m_ws_in wm_1_12)) (fun _ h9 => h9) (m_gr_spec hc9) dX7_weekNumber_41 ?_
    obtain ⟨x44, hc9, hrun⟩ := m_bind hrun
    refine mr_getN (C := RX0) (T := TX0) (N := 9) (ci := 0) hx hb hts (fun w q => m_ws_in (wi_X0 w q)) hown hR rfl 2 (by decide) (hE.nf (i := 13) rfl) (fun _ h9 => h9) (m_gr_spec hc9) dX7_weekNumber_44 ?_
    refine lv_iload_n hx hb dX7_weekNumber_47 rfl (lv_at hl 1 rfl) ?_
    refine lv_iload_n hx hb dX7_weekNumber_48 rfl (lv_at hl 2 rfl) ?_
    obtain ⟨x49, hc9, hrun⟩ := m_bind hrun
    refine mr_calli (mr_runS (As := [.ref x44, .int v1, .int v2]) (rest := []) hx hb hml hown hts (c_X0_weekSum l D ids st z hc9) yk_X0_weekSum ys_X0_weekSum wm_1_167 ⟨(Nat.le_of_ble_eq_true rfl), (Nat.le_of_ble_eq_true rfl)⟩ (mr_recvS hR hE hz hS hA) hl.1 rfl (Nat.le_of_ble_eq_true rfl) dX7_weekNumber_49 ⟨(Nat.le_of_ble_eq_true rfl), (Nat.le_of_ble_eq_true rfl)⟩) hR hz hS hA (fun H locs hR hz hS => ?_)
    obtain rfl := Option.some.inj hrun
    exact mr_iret hx hb hr hlocks hR hz hS dX7_weekNumber_52
  have hrun := mt_f hrun hc0
  have hn0 : ¬ (v3).toInt = 0 := lv_neT hc0 rfl
  by_cases hc1 : v3 = 1
  · have hrun := mt_t hrun hc1
    refine lv_tableIn (tgt := 53) (off := 52) hx hb dX7_weekNumber_1 (by rw [hc1]; decide) (by rw [hc1]; decide) (by rw [hc1]; rfl) (by decide) ?_
    refine lv_aload_n hx hb dX7_weekNumber_53 rfl (lv_at hl 0 rfl) ?_
    obtain ⟨x54, hc9, hrun⟩ := m_bind hrun
    refine mr_get (C := RX7) (T := TX7) (N := 8) (ci := 5) hx hb hts (fun w q => m_ws_in (wi_X7 w q)) hown hR rfl 1 (by decide) (hts _ (m_ws_in wm_1_12)) (fun _ h9 => h9) (m_gr_spec hc9) dX7_weekNumber_54 ?_
    obtain ⟨x57, hc9, hrun⟩ := m_bind hrun
    refine mr_getN (C := RX0) (T := TX0) (N := 9) (ci := 0) hx hb hts (fun w q => m_ws_in (wi_X0 w q)) hown hR rfl 4 (by decide) (hE.nf (i := 15) rfl) (fun _ h9 => h9) (m_gr_spec hc9) dX7_weekNumber_57 ?_
    refine lv_iload_n hx hb dX7_weekNumber_60 rfl (lv_at hl 1 rfl) ?_
    refine lv_iload_n hx hb dX7_weekNumber_61 rfl (lv_at hl 2 rfl) ?_
    obtain ⟨x62, hc9, hrun⟩ := m_bind hrun
    refine mr_calli (mr_runS (As := [.ref x57, .int v1, .int v2]) (rest := []) hx hb hml hown hts (c_X0_weekSum l D ids st z hc9) yk_X0_weekSum ys_X0_weekSum wm_1_167 ⟨(Nat.le_of_ble_eq_true rfl), (Nat.le_of_ble_eq_true rfl)⟩ (mr_recvS hR hE hz hS hA) hl.1 rfl (Nat.le_of_ble_eq_true rfl) dX7_weekNumber_62 ⟨(Nat.le_of_ble_eq_true rfl), (Nat.le_of_ble_eq_true rfl)⟩) hR hz hS hA (fun H locs hR hz hS => ?_)
    obtain rfl := Option.some.inj hrun
    exact mr_iret hx hb hr hlocks hR hz hS dX7_weekNumber_65
  have hrun := mt_f hrun hc1
  have hn1 : ¬ (v3).toInt = 1 := lv_neT hc1 rfl
  by_cases hc2 : v3 = 2
  · have hrun := mt_t hrun hc2
    refine lv_tableIn (tgt := 66) (off := 65) hx hb dX7_weekNumber_1 (by rw [hc2]; decide) (by rw [hc2]; decide) (by rw [hc2]; rfl) (by decide) ?_
    refine lv_aload_n hx hb dX7_weekNumber_66 rfl (lv_at hl 0 rfl) ?_
    obtain ⟨x67, hc9, hrun⟩ := m_bind hrun
    refine mr_get (C := RX7) (T := TX7) (N := 8) (ci := 5) hx hb hts (fun w q => m_ws_in (wi_X7 w q)) hown hR rfl 1 (by decide) (hts _ (m_ws_in wm_1_12)) (fun _ h9 => h9) (m_gr_spec hc9) dX7_weekNumber_67 ?_
    refine lv_iload_n hx hb dX7_weekNumber_70 rfl (lv_at hl 1 rfl) ?_
    refine lv_iload_n hx hb dX7_weekNumber_71 rfl (lv_at hl 2 rfl) ?_
    obtain ⟨_, ho9, hrun⟩ := m_bind hrun
    obtain ⟨fs9, ho9⟩ := m_is_spec ho9
    obtain ⟨x72, hc9, hrun⟩ := m_bind hrun
    refine mr_calli (mr_runV (As := [.int v1, .int v2]) (rest := []) hx hb hml hown hts (c_X0_weekDaysCost l D ids st z hc9) yk_X0_weekDaysCost ys_X0_weekDaysCost wm_1_170 ⟨(Nat.le_of_ble_eq_true rfl), (Nat.le_of_ble_eq_true rfl)⟩ (mr_recv (ci := 0) hR hE hz hS hA rfl ho9) hl.1 rfl (Nat.le_of_ble_eq_true rfl) dX7_weekNumber_72 ⟨(Nat.le_of_ble_eq_true rfl), (Nat.le_of_ble_eq_true rfl)⟩) hR hz hS hA (fun H locs hR hz hS => ?_)
    obtain rfl := Option.some.inj hrun
    exact mr_iret hx hb hr hlocks hR hz hS dX7_weekNumber_75
  have hrun := mt_f hrun hc2
  have hn2 : ¬ (v3).toInt = 2 := lv_neT hc2 rfl
  by_cases hc3 : v3 = 3
  · have hrun := mt_t hrun hc3
    refine lv_tableIn (tgt := 76) (off := 75) hx hb dX7_weekNumber_1 (by rw [hc3]; decide) (by rw [hc3]; decide) (by rw [hc3]; rfl) (by decide) ?_
    refine lv_aload_n hx hb dX7_weekNumber_76 rfl (lv_at hl 0 rfl) ?_
    obtain ⟨x77, hc9, hrun⟩ := m_bind hrun
    refine mr_get (C := RX7) (T := TX7) (N := 8) (ci := 5) hx hb hts (fun w q => m_ws_in (wi_X7 w q)) hown hR rfl 1 (by decide) (hts _ (m_ws_in wm_1_12)) (fun _ h9 => h9) (m_gr_spec hc9) dX7_weekNumber_77 ?_
    refine lv_iload_n hx hb dX7_weekNumber_80 rfl (lv_at hl 1 rfl) ?_
    refine lv_iload_n hx hb dX7_weekNumber_81 rfl (lv_at hl 2 rfl) ?_
    obtain ⟨_, ho9, hrun⟩ := m_bind hrun
    obtain ⟨fs9, ho9⟩ := m_is_spec ho9
    obtain ⟨x82, hc9, hrun⟩ := m_bind hrun
    refine mr_calli (mr_runV (As := [.int v1, .int v2]) (rest := []) hx hb hml hown hts (c_X0_weekCost l D ids st z hc9) yk_X0_weekCost ys_X0_weekCost wm_1_85 ⟨(Nat.le_of_ble_eq_true rfl), (Nat.le_of_ble_eq_true rfl)⟩ (mr_recv (ci := 0) hR hE hz hS hA rfl ho9) hl.1 rfl (Nat.le_of_ble_eq_true rfl) dX7_weekNumber_82 ⟨(Nat.le_of_ble_eq_true rfl), (Nat.le_of_ble_eq_true rfl)⟩) hR hz hS hA (fun H locs hR hz hS => ?_)
    obtain rfl := Option.some.inj hrun
    exact mr_iret hx hb hr hlocks hR hz hS dX7_weekNumber_85
  have hrun := mt_f hrun hc3
  have hn3 : ¬ (v3).toInt = 3 := lv_neT hc3 rfl
  by_cases hc4 : v3 = 4
  · have hrun := mt_t hrun hc4
    refine lv_tableIn (tgt := 86) (off := 85) hx hb dX7_weekNumber_1 (by rw [hc4]; decide) (by rw [hc4]; decide) (by rw [hc4]; rfl) (by decide) ?_
    refine lv_aload_n hx hb dX7_weekNumber_86 rfl (lv_at hl 0 rfl) ?_
    obtain ⟨x87, hc9, hrun⟩ := m_bind hrun
    refine mr_get (C := RX7) (T := TX7) (N := 8) (ci := 5) hx hb hts (fun w q => m_ws_in (wi_X7 w q)) hown hR rfl 0 (by decide) (hts _ (m_ws_in wm_1_11)) (fun _ h9 => h9) (m_gr_spec hc9) dX7_weekNumber_87 ?_
    obtain ⟨x90, hc9, hrun⟩ := m_bind hrun
    refine mr_getN (C := RX3) (T := TX3) (N := 10) (ci := 2) hx hb hts (fun w q => m_ws_in (wi_X3 w q)) hown hR rfl 2 (by decide) (hE.nf (i := 5) rfl) (fun _ h9 => h9) (m_gr_spec hc9) dX7_weekNumber_90 ?_
    refine lv_iload_n hx hb dX7_weekNumber_93 rfl (lv_at hl 1 rfl) ?_
    refine lv_iload_n hx hb dX7_weekNumber_94 rfl (lv_at hl 2 rfl) ?_
    obtain ⟨x95, hc9, hrun⟩ := m_bind hrun
    refine mr_calli (mr_runS (As := [.int v1, .int v2]) (rest := [.ref x90]) hx hb hml hown hts (c_X7_weekCell l D ids st z hc9) yk_X7_weekCell ys_X7_weekCell wm_1_127 ⟨(Nat.le_of_ble_eq_true rfl), (Nat.le_of_ble_eq_true rfl)⟩ (mr_recvS hR hE hz hS hA) hl.1 rfl (Nat.le_of_ble_eq_true rfl) dX7_weekNumber_95 ⟨(Nat.le_of_ble_eq_true rfl), (Nat.le_of_ble_eq_true rfl)⟩) hR hz hS hA (fun H locs hR hz hS => ?_)
    obtain ⟨x98, hc9, hrun⟩ := m_bind hrun
    refine mr_calli (mr_runS (As := [.ref x90, .int x95]) (rest := []) hx hb hml hown hts (c_X1_at l D ids st z hc9) yk_X1_at ys_X1_at wm_1_80 ⟨(Nat.le_of_ble_eq_true rfl), (Nat.le_of_ble_eq_true rfl)⟩ (mr_recvS hR hE hz hS hA) hl.1 rfl (Nat.le_of_ble_eq_true rfl) dX7_weekNumber_98 ⟨(Nat.le_of_ble_eq_true rfl), (Nat.le_of_ble_eq_true rfl)⟩) hR hz hS hA (fun H locs hR hz hS => ?_)
    obtain rfl := Option.some.inj hrun
    exact mr_iret hx hb hr hlocks hR hz hS dX7_weekNumber_101
  have hrun := mt_f hrun hc4
  have hn4 : ¬ (v3).toInt = 4 := lv_neT hc4 rfl
  by_cases hc5 : v3 = 5
  · have hrun := mt_t hrun hc5
    refine lv_tableIn (tgt := 102) (off := 101) hx hb dX7_weekNumber_1 (by rw [hc5]; decide) (by rw [hc5]; decide) (by rw [hc5]; rfl) (by decide) ?_
    refine lv_aload_n hx hb dX7_weekNumber_102 rfl (lv_at hl 0 rfl) ?_
    obtain ⟨x103, hc9, hrun⟩ := m_bind hrun
    refine mr_get (C := RX7) (T := TX7) (N := 8) (ci := 5) hx hb hts (fun w q => m_ws_in (wi_X7 w q)) hown hR rfl 0 (by decide) (hts _ (m_ws_in wm_1_11)) (fun _ h9 => h9) (m_gr_spec hc9) dX7_weekNumber_103 ?_
    obtain ⟨x106, hc9, hrun⟩ := m_bind hrun
    refine mr_getN (C := RX3) (T := TX3) (N := 10) (ci := 2) hx hb hts (fun w q => m_ws_in (wi_X3 w q)) hown hR rfl 3 (by decide) (hE.nf (i := 6) rfl) (fun _ h9 => h9) (m_gr_spec hc9) dX7_weekNumber_106 ?_
    refine lv_iload_n hx hb dX7_weekNumber_109 rfl (lv_at hl 1 rfl) ?_
    refine lv_iload_n hx hb dX7_weekNumber_110 rfl (lv_at hl 2 rfl) ?_
    obtain ⟨x111, hc9, hrun⟩ := m_bind hrun
    refine mr_calli (mr_runS (As := [.int v1, .int v2]) (rest := [.ref x106]) hx hb hml hown hts (c_X7_weekCell l D ids st z hc9) yk_X7_weekCell ys_X7_weekCell wm_1_127 ⟨(Nat.le_of_ble_eq_true rfl), (Nat.le_of_ble_eq_true rfl)⟩ (mr_recvS hR hE hz hS hA) hl.1 rfl (Nat.le_of_ble_eq_true rfl) dX7_weekNumber_111 ⟨(Nat.le_of_ble_eq_true rfl), (Nat.le_of_ble_eq_true rfl)⟩) hR hz hS hA (fun H locs hR hz hS => ?_)
    obtain ⟨x114, hc9, hrun⟩ := m_bind hrun
    refine mr_calli (mr_runS (As := [.ref x106, .int x111]) (rest := []) hx hb hml hown hts (c_X1_at l D ids st z hc9) yk_X1_at ys_X1_at wm_1_80 ⟨(Nat.le_of_ble_eq_true rfl), (Nat.le_of_ble_eq_true rfl)⟩ (mr_recvS hR hE hz hS hA) hl.1 rfl (Nat.le_of_ble_eq_true rfl) dX7_weekNumber_114 ⟨(Nat.le_of_ble_eq_true rfl), (Nat.le_of_ble_eq_true rfl)⟩) hR hz hS hA (fun H locs hR hz hS => ?_)
    obtain rfl := Option.some.inj hrun
    exact mr_iret hx hb hr hlocks hR hz hS dX7_weekNumber_117
  have hrun := mt_f hrun hc5
  have hn5 : ¬ (v3).toInt = 5 := lv_neT hc5 rfl
  refine lv_tableOut (tgt := 118) hx hb dX7_weekNumber_1 (by omega) (by decide) ?_
  refine lv_aload_n hx hb dX7_weekNumber_118 rfl (lv_at hl 0 rfl) ?_
  obtain ⟨x119, hc9, hrun⟩ := m_bind hrun
  refine mr_get (C := RX7) (T := TX7) (N := 8) (ci := 5) hx hb hts (fun w q => m_ws_in (wi_X7 w q)) hown hR rfl 0 (by decide) (hts _ (m_ws_in wm_1_11)) (fun _ h9 => h9) (m_gr_spec hc9) dX7_weekNumber_119 ?_
  obtain ⟨x122, hc9, hrun⟩ := m_bind hrun
  refine mr_getN (C := RX3) (T := TX3) (N := 10) (ci := 2) hx hb hts (fun w q => m_ws_in (wi_X3 w q)) hown hR rfl 4 (by decide) (hE.nf (i := 7) rfl) (fun _ h9 => h9) (m_gr_spec hc9) dX7_weekNumber_122 ?_
  refine lv_iload_n hx hb dX7_weekNumber_125 rfl (lv_at hl 1 rfl) ?_
  refine lv_iload_n hx hb dX7_weekNumber_126 rfl (lv_at hl 2 rfl) ?_
  obtain ⟨x127, hc9, hrun⟩ := m_bind hrun
  refine mr_calli (mr_runS (As := [.int v1, .int v2]) (rest := [.ref x122]) hx hb hml hown hts (c_X7_weekCell l D ids st z hc9) yk_X7_weekCell ys_X7_weekCell wm_1_127 ⟨(Nat.le_of_ble_eq_true rfl), (Nat.le_of_ble_eq_true rfl)⟩ (mr_recvS hR hE hz hS hA) hl.1 rfl (Nat.le_of_ble_eq_true rfl) dX7_weekNumber_127 ⟨(Nat.le_of_ble_eq_true rfl), (Nat.le_of_ble_eq_true rfl)⟩) hR hz hS hA (fun H locs hR hz hS => ?_)
  obtain ⟨x130, hc9, hrun⟩ := m_bind hrun
  refine mr_calli (mr_runS (As := [.ref x122, .int x127]) (rest := []) hx hb hml hown hts (c_X1_at l D ids st z hc9) yk_X1_at ys_X1_at wm_1_80 ⟨(Nat.le_of_ble_eq_true rfl), (Nat.le_of_ble_eq_true rfl)⟩ (mr_recvS hR hE hz hS hA) hl.1 rfl (Nat.le_of_ble_eq_true rfl) dX7_weekNumber_130 ⟨(Nat.le_of_ble_eq_true rfl), (Nat.le_of_ble_eq_true rfl)⟩) hR hz hS hA (fun H locs hR hz hS => ?_)
  obtain rfl := Option.some.inj hrun
  exact mr_iret hx hb hr hlocks hR hz hS dX7_weekNumber_133
/-! X7_week -/
abbrev rm_X7_week : Room := { frames := 6, cells := 1, slots := 6, locals := 112 }
theorem yk_X7_week : m_K yX7_week cX7_week 4 (some .int) 3 := ⟨wm_2_237, wm_0_1, by decide +kernel⟩
theorem ys_X7_week : Cond.instanceMethod yX7_week ∈ wT ∧ Cond.selects RX7 yX7_week yX7_week ∈ wT := ⟨wm_2_235, wm_2_236⟩
set_option maxRecDepth 100000 in
set_option maxHeartbeats 4000000 in
theorem k_X7_week_b25 {p : Program} {l : Launch} {e : Env} {s : State} {m : MethodId} {args : Array Value} {below : List Frame} {meth : Method} {c : Code} {D : va_G} {ids : m_I3} {st : m_T} {A : Nat → Prop} {z : Nat} {r : (String ⊕ Int32)} {hF : mH} (hx : p.tables.exec = Jvm.exec) (hb : c.code = cX7_week) (hr : meth.sig.returnType = some .int) (hml : c.maxLocals = 4) (hown : s.vm.findClass RX7 = some m.cls) (hts : ∀ w ∈ (m_ws yX7_week cX7_week 4 (some .int)), w.before args s = true) (hlocks : meth.locks = false) (hin : meth.name = yX7_week.name) (hE : m_EV st A s s.heap) (hA : ∀ q, s.heap.size ≤ q → A q) (hfl : l.stackTraces = false) (hout : ∀ x ∈ c.exceptionTable.toList, ∀ q, covers x q = false) (h : mH) (H : Heap) (locs : List Loc) (ls : Array Slot) (hrun : s_X7_week_b25 h = some (r, hF)) (hR : Rl D ids A h s H) (hz : H.size = z) (hS : va_S A s.heap H locs) (hl : lv_has ls 4 []) : W p l e rm_X7_week s m args below meth c H locs 0 0 (vx_MQ below (mQxi D ids A r hF) (mXx D ids A r hF) args s 1 6 A) (F0 m 25 ls []) := by
  unfold s_X7_week_b25 at hrun
  obtain ⟨rfl, rfl⟩ := Prod.mk.inj (Option.some.inj hrun)
  exact mr_throw (text := "an argument is out of range") hx hb hfl hown hts hml hE yt_72 (List.mem_of_getElem? (i := 0) rfl) hR hS hl.1 dX7_week_25 dX7_week_28 dX7_week_29 dX7_week_31 dX7_week_34 hout hlocks (Nat.le_of_ble_eq_true rfl) (Nat.le_of_ble_eq_true rfl) (Nat.le_of_ble_eq_true rfl) (Nat.le_of_ble_eq_true rfl) (Nat.le_of_ble_eq_true rfl) (Nat.le_of_ble_eq_true rfl)
set_option maxRecDepth 100000 in
set_option maxHeartbeats 4000000 in
theorem c_X7_week (l : Launch) (hfl : l.stackTraces = false) (D : va_G) (ids : m_I3) (st : m_T) (z : Nat) {h : mH} {v0 : Nat} {v1 : Int32} {v2 : Int32} {v3 : Int32} {r : (String ⊕ Int32)} {hF : mH} (hrun : s_X7_week h v0 v1 v2 v3 = some (r, hF)) : vx_Met l yX7_week (m_ws yX7_week cX7_week 4 (some .int)) rm_X7_week (mPc D ids st [.ref v0, .int v1, .int v2, .int v3] h z) (mQxi D ids (m_A h z) r hF) (mXx D ids (m_A h z) r hF) rm_X7_week.cells rm_X7_week.slots (m_A h z) := by
  refine mrx_of (cc := cX7_week) (maxL := 4) (ret := some .int) (by decide) rfl (Nat.le_of_ble_eq_true rfl) ?_
  intro p e s m below meth c ls hx hb hr hml hown hts hlocks hin hout hR hE hz hl
  have hA : ∀ q, s.heap.size ≤ q → m_A h z q := fun q hq => Or.inr (by rw [← hz]; exact hq)
  have hS : va_S (m_A h z) s.heap s.heap [] := va_S.rf
  have hl : lv_has ls 4 [(0, .ref v0), (1, .int v1), (2, .int v2), (3, .int v3)] := hl
  unfold s_X7_week at hrun
  refine lv_iload_n hx hb dX7_week_0 rfl (lv_at hl 1 rfl) ?_
  refine lv_iconst (v := 4) hx hb dX7_week_1 (by decide) ?_
  obtain ⟨x2, hc9, hrun⟩ := m_bind hrun
  refine mr_calli (mr_runS (As := [.int v1, .int 4]) (rest := []) hx hb hml hown hts (c_X7_isBelow l D ids st z hc9) yk_X7_isBelow ys_X7_isBelow wm_1_225 ⟨(Nat.le_of_ble_eq_true rfl), (Nat.le_of_ble_eq_true rfl)⟩ (mr_recvS hR hE hz hS hA) hl.1 rfl (Nat.le_of_ble_eq_true rfl) dX7_week_2 ⟨(Nat.le_of_ble_eq_true rfl), (Nat.le_of_ble_eq_true rfl)⟩) hR hz hS hA (fun H locs hR hz hS => ?_)
  refine lv_if_eq (tgt := 25) hx hb dX7_week_5 (by decide) (fun hc => ?_) (fun hc => ?_)
  · have hrun := mt_t hrun hc
    exact k_X7_week_b25 hx hb hr hml hown hts hlocks hin hE hA hfl hout _ _ _ _ hrun hR hz hS (lv_sub hl [] rfl)
  · have hrun := mt_f hrun hc
    refine lv_iload_n hx hb dX7_week_8 rfl (lv_at hl 2 rfl) ?_
    refine lv_iconst (v := 4) hx hb dX7_week_9 (by decide) ?_
    obtain ⟨x10, hc9, hrun⟩ := m_bind hrun
    refine mr_calli (mr_runS (As := [.int v2, .int 4]) (rest := []) hx hb hml hown hts (c_X7_isBelow l D ids st z hc9) yk_X7_isBelow ys_X7_isBelow wm_1_225 ⟨(Nat.le_of_ble_eq_true rfl), (Nat.le_of_ble_eq_true rfl)⟩ (mr_recvS hR hE hz hS hA) hl.1 rfl (Nat.le_of_ble_eq_true rfl) dX7_week_10 ⟨(Nat.le_of_ble_eq_true rfl), (Nat.le_of_ble_eq_true rfl)⟩) hR hz hS hA (fun H locs hR hz hS => ?_)
    refine lv_if_eq (tgt := 25) hx hb dX7_week_13 (by decide) (fun hc => ?_) (fun hc => ?_)
    · have hrun := mt_t hrun hc
      exact k_X7_week_b25 hx hb hr hml hown hts hlocks hin hE hA hfl hout _ _ _ _ hrun hR hz hS (lv_sub hl [] rfl)
    · have hrun := mt_f hrun hc
      refine lv_iload_n hx hb dX7_week_16 rfl (lv_at hl 3 rfl) ?_
      refine lv_bipush (v := 7) hx hb dX7_week_17 (by decide) ?_
      obtain ⟨x19, hc9, hrun⟩ := m_bind hrun
      refine mr_calli (mr_runS (As := [.int v3, .int 7]) (rest := []) hx hb hml hown hts (c_X7_isBelow l D ids st z hc9) yk_X7_isBelow ys_X7_isBelow wm_1_225 ⟨(Nat.le_of_ble_eq_true rfl), (Nat.le_of_ble_eq_true rfl)⟩ (mr_recvS hR hE hz hS hA) hl.1 rfl (Nat.le_of_ble_eq_true rfl) dX7_week_19 ⟨(Nat.le_of_ble_eq_true rfl), (Nat.le_of_ble_eq_true rfl)⟩) hR hz hS hA (fun H locs hR hz hS => ?_)
      refine lv_if_ne (tgt := 35) hx hb dX7_week_22 (by decide) (fun hc => ?_) (fun hc => ?_)
      · have hrun := mt_f hrun hc
        refine lv_aload_n hx hb dX7_week_35 rfl (lv_at hl 0 rfl) ?_
        refine lv_iload_n hx hb dX7_week_36 rfl (lv_at hl 1 rfl) ?_
        refine lv_iload_n hx hb dX7_week_37 rfl (lv_at hl 2 rfl) ?_
        refine lv_iload_n hx hb dX7_week_38 rfl (lv_at hl 3 rfl) ?_
        obtain ⟨_, ho9, hrun⟩ := m_bind hrun
        obtain ⟨fs9, ho9⟩ := m_is_spec ho9
        obtain ⟨x39, hc9, hrun⟩ := m_bind hrun
        refine mr_calli (mr_runV (As := [.int v1, .int v2, .int v3]) (rest := []) hx hb hml hown hts (c_X7_weekNumber l D ids st z hc9) yk_X7_weekNumber ys_X7_weekNumber wm_1_163 ⟨(Nat.le_of_ble_eq_true rfl), (Nat.le_of_ble_eq_true rfl)⟩ (mr_recv (ci := 5) hR hE hz hS hA rfl ho9) hl.1 rfl (Nat.le_of_ble_eq_true rfl) dX7_week_39 ⟨(Nat.le_of_ble_eq_true rfl), (Nat.le_of_ble_eq_true rfl)⟩) hR hz hS hA (fun H locs hR hz hS => ?_)
        obtain ⟨rfl, rfl⟩ := Prod.mk.inj (Option.some.inj hrun)
        exact mrx_iret hx hb hr hlocks hR hS dX7_week_42 (Nat.le_of_ble_eq_true rfl) (Nat.le_of_ble_eq_true rfl)
      · have hrun := mt_t hrun hc
        exact k_X7_week_b25 hx hb hr hml hown hts hlocks hin hE hA hfl hout _ _ _ _ hrun hR hz hS (lv_sub hl [] rfl)
/-! L_week -/
abbrev rm_L_week : Room := { frames := 7, cells := 1, slots := 6, locals := 135 }
theorem yk_L_week : m_KH yL_week cL_week 6 (some .int) [(0, 12, 15, 13)] 5 := ⟨wm_2_233, wm_0_0, by decide +kernel⟩
theorem ys_L_week : Cond.static yL_week ∈ wT := wm_2_232
set_option maxRecDepth 100000 in
set_option maxHeartbeats 4000000 in
theorem c_L_week (l : Launch) (hfl : l.stackTraces = false) (D : va_G) (ids : m_I3) (st : m_T) (z : Nat) {h : mH} {v0 : Nat} {v1 : Int32} {v2 : Int32} {v3 : Int32} {v4 : Nat} {r : Int32} {hF : mH} (hrun : s_L_week h v0 v1 v2 v3 v4 = some (r, hF)) : Met l yL_week (m_wsH yL_week cL_week 6 (some .int) [(0, 12, 15, 13)]) rm_L_week (mPc D ids st [.ref v0, .int v1, .int v2, .int v3, .ref v4] h z) (mQwi D ids (m_A h z) r hF) rm_L_week.cells rm_L_week.slots (m_A h z) := by
  refine mr_ofH (cc := cL_week) (maxL := 6) (ret := some .int) (hh := [(0, 12, 15, 13)]) (by decide) rfl (Nat.le_of_ble_eq_true rfl) ?_
  intro p e s m below meth c ls hx hb hr hml hown hts hlocks hin htab hR hE hz hl
  have hA : ∀ q, s.heap.size ≤ q → m_A h z q := fun q hq => Or.inr (by rw [← hz]; exact hq)
  have hS : va_S (m_A h z) s.heap s.heap [] := va_S.rf
  have hl : lv_has ls 6 [(0, .ref v0), (1, .int v1), (2, .int v2), (3, .int v3), (4, .ref v4)] := hl
  unfold s_L_week at hrun
  refine lv_aload hx hb dL_week_0 (lv_at hl 4 rfl) ?_
  refine lv_iconst (v := 0) hx hb dL_week_2 (by decide) ?_
  refine lv_aload_n hx hb dL_week_3 rfl (lv_at hl 0 rfl) ?_
  refine lv_iload_n hx hb dL_week_4 rfl (lv_at hl 1 rfl) ?_
  refine lv_iload_n hx hb dL_week_5 rfl (lv_at hl 2 rfl) ?_
  refine lv_iload_n hx hb dL_week_6 rfl (lv_at hl 3 rfl) ?_
  obtain ⟨_, ho9, hrun⟩ := m_bind hrun
  obtain ⟨fs9, ho9⟩ := m_is_spec ho9
  obtain ⟨⟨r7, h7⟩, hc9, hrun⟩ := m_bind hrun
  refine mrx_calli (mrx_runV (As := [.int v1, .int v2, .int v3]) (rest := [.int 0, .ref v4]) hx hb hml hown hts (c_X7_week l hfl D ids st z hc9) yk_X7_week ys_X7_week wm_2_234 ⟨(Nat.le_of_ble_eq_true rfl), (Nat.le_of_ble_eq_true rfl)⟩ (mr_recv (ci := 5) hR hE hz hS hA rfl ho9) hl.1 rfl (Nat.le_of_ble_eq_true rfl) dL_week_7 ⟨(Nat.le_of_ble_eq_true rfl), (Nat.le_of_ble_eq_true rfl)⟩) hR hz hS hA (fun E9 ce9 q9 H locs hr9 hR hS hce hcv hcl => ?_) (fun x7 H locs hr9 hR hS => ?_)
  · subst hr9
    obtain ⟨z, hz⟩ : ∃ z, H.size = z := ⟨_, rfl⟩
    by_cases hc0 : E9 = "java/lang/IllegalArgumentException"
    · have hrun := mt_t hrun hc0
      rw [hc0] at hcl
      refine mr_catch0 hown htab (by decide) (by decide) (hts _ (List.mem_cons_of_mem _ wm_1_216)) hE.2.2.2.2.2.2.2 (List.mem_of_getElem? (i := 0) rfl) hce hcv hcl ?_
      refine lv_astore (lv' := [(5, .ref q9), (0, .ref v0), (1, .int v1), (2, .int v2), (3, .int v3), (4, .ref v4)]) hx hb dL_week_15 hl (by decide) rfl (fun ls hl => ?_)
      refine lv_iconst (v := 1) hx hb dL_week_17 (by decide) ?_
      obtain ⟨rfl, rfl⟩ := Prod.mk.inj (Option.some.inj hrun)
      exact mrw_iret hx hb hr hlocks hR hS dL_week_18 (Nat.le_of_ble_eq_true rfl) (Nat.le_of_ble_eq_true rfl)
    have hrun := mt_f hrun hc0
    exact absurd hrun (fun h9 => nomatch h9)
  · subst hr9
    obtain ⟨z, hz⟩ : ∃ z, H.size = z := ⟨_, rfl⟩
    refine lv_i2l (v := x7.toInt64) hx hb dL_week_10 rfl ?_
    obtain ⟨h11, hc9, hrun⟩ := m_bind hrun
    refine mr_last hx hb hR hz hS hc9 dL_week_11 (fun H locs hR hz hS => ?_)
    refine lv_goto (tgt := 19) hx hb dL_week_12 (by decide) ?_
    refine lv_iconst (v := 0) hx hb dL_week_19 (by decide) ?_
    obtain ⟨rfl, rfl⟩ := Prod.mk.inj (Option.some.inj hrun)
    exact mrw_iret hx hb hr hlocks hR hS dL_week_20 (Nat.le_of_ble_eq_true rfl) (Nat.le_of_ble_eq_true rfl)
/-! X1_sum -/
abbrev rm_X1_sum : Room := { frames := 0, cells := 0, slots := 0, locals := 0 }
theorem yk_X1_sum : m_K yX1_sum cX1_sum 6 (some .int) 1 := ⟨wm_1_109, wm_0_4, by decide +kernel⟩
theorem ys_X1_sum : Cond.static yX1_sum ∈ wT := wm_1_108
set_option maxRecDepth 100000 in
set_option maxHeartbeats 4000000 in
theorem k_X1_sum_L10 {p : Program} {l : Launch} {e : Env} {s : State} {m : MethodId} {args : Array Value} {below : List Frame} {meth : Method} {c : Code} {D : va_G} {ids : m_I3} {st : m_T} {A : Nat → Prop} {z : Nat} {r : Int32} (hx : p.tables.exec = Jvm.exec) (hb : c.code = cX1_sum) (hr : meth.sig.returnType = some .int) (hml : c.maxLocals = 6) (hown : s.vm.findClass RX1 = some m.cls) (hts : ∀ w ∈ (m_ws yX1_sum cX1_sum 6 (some .int)), w.before args s = true) (hlocks : meth.locks = false) (hin : meth.name = yX1_sum.name) (hE : m_EV st A s s.heap) (hA : ∀ q, s.heap.size ≤ q → A q) {h : mH} : ∀ (n : Nat) (v1 : Int32) (v2 : Nat) (v3 : Int32) (v4 : Int32) (H : Heap) (locs : List Loc) (ls : Array Slot), s_X1_sum_L10 h n v1 v2 v3 v4 = some r → Rl D ids A h s H → H.size = z → va_S A s.heap H locs → lv_has ls 6 [(1, .int v1), (2, .ref v2), (3, .int v3), (4, .int v4)] → W p l e rm_X1_sum s m args below meth c H locs 0 0 (MQ below (mQi D ids A r h z) args s 0 0 A) (F0 m 10 ls []) := by
  intro n
  induction n with
  | zero => intro v1 v2 v3 v4 H locs ls hrun; exact absurd hrun (by intro h9; cases h9)
  | succ n ih =>
    intro v1 v2 v3 v4 H locs ls hrun hR hz hS hl
    rw [s_X1_sum_L10] at hrun
    refine lv_iload hx hb dX1_sum_10 (lv_at hl 3 rfl) ?_
    refine lv_iload_n hx hb dX1_sum_12 rfl (lv_at hl 2 rfl) ?_
    refine lv_icmp_ge (tgt := 33) hx hb dX1_sum_13 (by decide) (fun hc => ?_) (fun hc => ?_)
    · have hrun := mt_t hrun hc
      refine lv_iload_n hx hb dX1_sum_33 rfl (lv_at hl 0 rfl) ?_
      obtain rfl := Option.some.inj hrun
      exact mr_iret hx hb hr hlocks hR hz hS dX1_sum_34
    · have hrun := mt_f hrun hc
      refine lv_aload_n hx hb dX1_sum_16 rfl (lv_at hl 1 rfl) ?_
      refine lv_iload hx hb dX1_sum_17 (lv_at hl 3 rfl) ?_
      obtain ⟨x19, hc9, hrun⟩ := m_bind hrun
      refine mr_iald hx hb hR hc9 dX1_sum_19 ?_
      refine lv_istore (lv' := [(5, .int x19), (1, .int v1), (2, .ref v2), (3, .int v3), (4, .int v4)]) hx hb dX1_sum_20 hl (by decide) rfl (fun ls hl => ?_)
      refine lv_iload_n hx hb dX1_sum_22 rfl (lv_at hl 1 rfl) ?_
      refine lv_iload hx hb dX1_sum_23 (lv_at hl 0 rfl) ?_
      refine lv_iadd hx hb dX1_sum_25 ?_
      refine lv_istore_n (lv' := [(1, .int (v1 + x19)), (5, .int x19), (2, .ref v2), (3, .int v3), (4, .int v4)]) hx hb dX1_sum_26 rfl hl (by decide) rfl (fun ls hl => ?_)
      refine lv_iinc (v := v4 + 1) (lv' := [(4, .int (v4 + 1)), (1, .int (v1 + x19)), (5, .int x19), (2, .ref v2), (3, .int v3)]) hx hb dX1_sum_27 hl (k := 4) rfl rfl (by decide) rfl (fun ls hl => ?_)
      refine lv_goto (tgt := 10) hx hb dX1_sum_30 (by decide) ?_
      exact ih _ _ _ _ _ _ _ hrun hR hz hS (lv_sub hl [1, 3, 4, 0] rfl)
set_option maxRecDepth 100000 in
set_option maxHeartbeats 4000000 in
theorem c_X1_sum (l : Launch) (D : va_G) (ids : m_I3) (st : m_T) (z : Nat) {h : mH} {v0 : Nat} {r : Int32} (hrun : s_X1_sum h v0 = some r) : Met l yX1_sum (m_ws yX1_sum cX1_sum 6 (some .int)) rm_X1_sum (mPc D ids st [.ref v0] h z) (mQi D ids (m_A h z) r h z) rm_X1_sum.cells rm_X1_sum.slots (m_A h z) := by
  refine mr_of (cc := cX1_sum) (maxL := 6) (ret := some .int) (by decide) rfl (Nat.le_of_ble_eq_true rfl) ?_
  intro p e s m below meth c ls hx hb hr hml hown hts hlocks hin hR hE hz hl
  have hA : ∀ q, s.heap.size ≤ q → m_A h z q := fun q hq => Or.inr (by rw [← hz]; exact hq)
  have hS : va_S (m_A h z) s.heap s.heap [] := va_S.rf
  have hl : lv_has ls 6 [(0, .ref v0)] := hl
  unfold s_X1_sum at hrun
  refine lv_iconst (v := 0) hx hb dX1_sum_0 (by decide) ?_
  refine lv_istore_n (lv' := [(1, .int 0), (0, .ref v0)]) hx hb dX1_sum_1 rfl hl (by decide) rfl (fun ls hl => ?_)
  refine lv_aload_n hx hb dX1_sum_2 rfl (lv_at hl 1 rfl) ?_
  refine lv_astore_n (lv' := [(2, .ref v0), (1, .int 0), (0, .ref v0)]) hx hb dX1_sum_3 rfl hl (by decide) rfl (fun ls hl => ?_)
  refine lv_aload_n hx hb dX1_sum_4 rfl (lv_at hl 0 rfl) ?_
  obtain ⟨x5, hc9, hrun⟩ := m_bind hrun
  refine mr_ilen hx hb hR hc9 dX1_sum_5 ?_
  refine lv_istore_n (lv' := [(3, .int x5), (2, .ref v0), (1, .int 0), (0, .ref v0)]) hx hb dX1_sum_6 rfl hl (by decide) rfl (fun ls hl => ?_)
  refine lv_iconst (v := 0) hx hb dX1_sum_7 (by decide) ?_
  refine lv_istore (lv' := [(4, .int 0), (3, .int x5), (2, .ref v0), (1, .int 0), (0, .ref v0)]) hx hb dX1_sum_8 hl (by decide) rfl (fun ls hl => ?_)
  exact k_X1_sum_L10 hx hb hr hml hown hts hlocks hin hE hA _ _ _ _ _ _ _ _ hrun hR hz hS (lv_sub hl [3, 2, 1, 0] rfl)
/-! X7_costOfAll -/
abbrev rm_X7_costOfAll : Room := { frames := 4, cells := 0, slots := 0, locals := 89 }
theorem yk_X7_costOfAll : m_K yX7_costOfAll cX7_costOfAll 4 (some .int) 0 := ⟨wm_1_113, wm_0_1, by decide +kernel⟩
theorem ys_X7_costOfAll : Cond.instanceMethod yX7_costOfAll ∈ wT ∧ Cond.selects RX7 yX7_costOfAll yX7_costOfAll ∈ wT := ⟨wm_1_112, wp_0_8⟩
set_option maxRecDepth 100000 in
set_option maxHeartbeats 4000000 in
theorem k_X7_costOfAll_L11 {p : Program} {l : Launch} {e : Env} {s : State} {m : MethodId} {args : Array Value} {below : List Frame} {meth : Method} {c : Code} {D : va_G} {ids : m_I3} {st : m_T} {A : Nat → Prop} {z : Nat} {r : Int32} (hx : p.tables.exec = Jvm.exec) (hb : c.code = cX7_costOfAll) (hr : meth.sig.returnType = some .int) (hml : c.maxLocals = 4) (hown : s.vm.findClass RX7 = some m.cls) (hts : ∀ w ∈ (m_ws yX7_costOfAll cX7_costOfAll 4 (some .int)), w.before args s = true) (hlocks : meth.locks = false) (hin : meth.name = yX7_costOfAll.name) (hE : m_EV st A s s.heap) (hA : ∀ q, s.heap.size ≤ q → A q) {h : mH} {k4 : Nat → Int32 → Int32 → Option (Int32)} (hk4 : ∀ (v0 : Nat) (v1 : Int32) (v2 : Int32) (H : Heap) (locs : List Loc) (ls : Array Slot), k4 v0 v1 v2 = some r → Rl D ids A h s H → H.size = z → va_S A s.heap H locs → lv_has ls 4 [(0, .ref v0), (1, .int v1), (2, .int v2)] → W p l e rm_X7_costOfAll s m args below meth c H locs 0 0 (MQ below (mQi D ids A r h z) args s 0 0 A) (F0 m 4 ls [])) : ∀ (n : Nat) (v0 : Nat) (v1 : Int32) (v2 : Int32) (v3 : Int32) (H : Heap) (locs : List Loc) (ls : Array Slot), s_X7_costOfAll_L11 k4 h n v0 v1 v2 v3 = some r → Rl D ids A h s H → H.size = z → va_S A s.heap H locs → lv_has ls 4 [(0, .ref v0), (1, .int v1), (2, .int v2), (3, .int v3)] → W p l e rm_X7_costOfAll s m args below meth c H locs 0 0 (MQ below (mQi D ids A r h z) args s 0 0 A) (F0 m 11 ls []) := by
  intro n
  induction n with
  | zero => intro v0 v1 v2 v3 H locs ls hrun; exact absurd hrun (by intro h9; cases h9)
  | succ n ih =>
    intro v0 v1 v2 v3 H locs ls hrun hR hz hS hl
    rw [s_X7_costOfAll_L11] at hrun
    refine lv_iload_n hx hb dX7_costOfAll_11 rfl (lv_at hl 3 rfl) ?_
    refine lv_iconst (v := 4) hx hb dX7_costOfAll_12 (by decide) ?_
    refine lv_icmp_ge (tgt := 34) hx hb dX7_costOfAll_13 (by decide) (fun hc => ?_) (fun hc => ?_)
    · have hrun := mt_t hrun hc
      refine lv_iinc (v := v2 + 1) (lv' := [(2, .int (v2 + 1)), (0, .ref v0), (1, .int v1), (3, .int v3)]) hx hb dX7_costOfAll_34 hl (k := 2) rfl rfl (by decide) rfl (fun ls hl => ?_)
      refine lv_goto (tgt := 4) hx hb dX7_costOfAll_37 (by decide) ?_
      exact hk4 _ _ _ _ _ _ hrun hR hz hS (lv_sub hl [1, 2, 0] rfl)
    · have hrun := mt_f hrun hc
      refine lv_iload_n hx hb dX7_costOfAll_16 rfl (lv_at hl 1 rfl) ?_
      refine lv_aload_n hx hb dX7_costOfAll_17 rfl (lv_at hl 0 rfl) ?_
      obtain ⟨x18, hc9, hrun⟩ := m_bind hrun
      refine mr_get (C := RX7) (T := TX7) (N := 8) (ci := 5) hx hb hts (fun w q => m_ws_in (wi_X7 w q)) hown hR rfl 1 (by decide) (hts _ (m_ws_in wm_1_12)) (fun _ h9 => h9) (m_gr_spec hc9) dX7_costOfAll_18 ?_
      refine lv_iload_n hx hb dX7_costOfAll_21 rfl (lv_at hl 2 rfl) ?_
      refine lv_iload_n hx hb dX7_costOfAll_22 rfl (lv_at hl 3 rfl) ?_
      obtain ⟨_, ho9, hrun⟩ := m_bind hrun
      obtain ⟨fs9, ho9⟩ := m_is_spec ho9
      obtain ⟨x23, hc9, hrun⟩ := m_bind hrun
      refine mr_calli (mr_runV (As := [.int v2, .int v3]) (rest := [.int v1]) hx hb hml hown hts (c_X0_weekCost l D ids st z hc9) yk_X0_weekCost ys_X0_weekCost wm_1_85 ⟨(Nat.le_of_ble_eq_true rfl), (Nat.le_of_ble_eq_true rfl)⟩ (mr_recv (ci := 0) hR hE hz hS hA rfl ho9) hl.1 rfl (Nat.le_of_ble_eq_true rfl) dX7_costOfAll_23 ⟨(Nat.le_of_ble_eq_true rfl), (Nat.le_of_ble_eq_true rfl)⟩) hR hz hS hA (fun H locs hR hz hS => ?_)
      refine lv_iadd hx hb dX7_costOfAll_26 ?_
      refine lv_istore_n (lv' := [(1, .int (v1 + x23)), (0, .ref v0), (2, .int v2), (3, .int v3)]) hx hb dX7_costOfAll_27 rfl hl (by decide) rfl (fun ls hl => ?_)
      refine lv_iinc (v := v3 + 1) (lv' := [(3, .int (v3 + 1)), (1, .int (v1 + x23)), (0, .ref v0), (2, .int v2)]) hx hb dX7_costOfAll_28 hl (k := 3) rfl rfl (by decide) rfl (fun ls hl => ?_)
      refine lv_goto (tgt := 11) hx hb dX7_costOfAll_31 (by decide) ?_
      exact ih _ _ _ _ _ _ _ hrun hR hz hS (lv_sub hl [2, 1, 3, 0] rfl)
set_option maxRecDepth 100000 in
set_option maxHeartbeats 4000000 in
theorem k_X7_costOfAll_L4 {p : Program} {l : Launch} {e : Env} {s : State} {m : MethodId} {args : Array Value} {below : List Frame} {meth : Method} {c : Code} {D : va_G} {ids : m_I3} {st : m_T} {A : Nat → Prop} {z : Nat} {r : Int32} (hx : p.tables.exec = Jvm.exec) (hb : c.code = cX7_costOfAll) (hr : meth.sig.returnType = some .int) (hml : c.maxLocals = 4) (hown : s.vm.findClass RX7 = some m.cls) (hts : ∀ w ∈ (m_ws yX7_costOfAll cX7_costOfAll 4 (some .int)), w.before args s = true) (hlocks : meth.locks = false) (hin : meth.name = yX7_costOfAll.name) (hE : m_EV st A s s.heap) (hA : ∀ q, s.heap.size ≤ q → A q) {h : mH} : ∀ (n : Nat) (v0 : Nat) (v1 : Int32) (v2 : Int32) (H : Heap) (locs : List Loc) (ls : Array Slot), s_X7_costOfAll_L4 h n v0 v1 v2 = some r → Rl D ids A h s H → H.size = z → va_S A s.heap H locs → lv_has ls 4 [(0, .ref v0), (1, .int v1), (2, .int v2)] → W p l e rm_X7_costOfAll s m args below meth c H locs 0 0 (MQ below (mQi D ids A r h z) args s 0 0 A) (F0 m 4 ls []) := by
  intro n
  induction n with
  | zero => intro v0 v1 v2 H locs ls hrun; exact absurd hrun (by intro h9; cases h9)
  | succ n ih =>
    intro v0 v1 v2 H locs ls hrun hR hz hS hl
    rw [s_X7_costOfAll_L4] at hrun
    refine lv_iload_n hx hb dX7_costOfAll_4 rfl (lv_at hl 2 rfl) ?_
    refine lv_iconst (v := 4) hx hb dX7_costOfAll_5 (by decide) ?_
    refine lv_icmp_ge (tgt := 40) hx hb dX7_costOfAll_6 (by decide) (fun hc => ?_) (fun hc => ?_)
    · have hrun := mt_t hrun hc
      refine lv_iload_n hx hb dX7_costOfAll_40 rfl (lv_at hl 1 rfl) ?_
      obtain rfl := Option.some.inj hrun
      exact mr_iret hx hb hr hlocks hR hz hS dX7_costOfAll_41
    · have hrun := mt_f hrun hc
      refine lv_iconst (v := 0) hx hb dX7_costOfAll_9 (by decide) ?_
      refine lv_istore_n (lv' := [(3, .int 0), (0, .ref v0), (1, .int v1), (2, .int v2)]) hx hb dX7_costOfAll_10 rfl hl (by decide) rfl (fun ls hl => ?_)
      exact k_X7_costOfAll_L11 hx hb hr hml hown hts hlocks hin hE hA ih _ _ _ _ _ _ _ _ hrun hR hz hS (lv_sub hl [1, 2, 3, 0] rfl)
set_option maxRecDepth 100000 in
set_option maxHeartbeats 4000000 in
theorem c_X7_costOfAll (l : Launch) (D : va_G) (ids : m_I3) (st : m_T) (z : Nat) {h : mH} {v0 : Nat} {r : Int32} (hrun : s_X7_costOfAll h v0 = some r) : Met l yX7_costOfAll (m_ws yX7_costOfAll cX7_costOfAll 4 (some .int)) rm_X7_costOfAll (mPc D ids st [.ref v0] h z) (mQi D ids (m_A h z) r h z) rm_X7_costOfAll.cells rm_X7_costOfAll.slots (m_A h z) := by
  refine mr_of (cc := cX7_costOfAll) (maxL := 4) (ret := some .int) (by decide) rfl (Nat.le_of_ble_eq_true rfl) ?_
  intro p e s m below meth c ls hx hb hr hml hown hts hlocks hin hR hE hz hl
  have hA : ∀ q, s.heap.size ≤ q → m_A h z q := fun q hq => Or.inr (by rw [← hz]; exact hq)
  have hS : va_S (m_A h z) s.heap s.heap [] := va_S.rf
  have hl : lv_has ls 4 [(0, .ref v0)] := hl
  unfold s_X7_costOfAll at hrun
  refine lv_iconst (v := 0) hx hb dX7_costOfAll_0 (by decide) ?_
  refine lv_istore_n (lv' := [(1, .int 0), (0, .ref v0)]) hx hb dX7_costOfAll_1 rfl hl (by decide) rfl (fun ls hl => ?_)
  refine lv_iconst (v := 0) hx hb dX7_costOfAll_2 (by decide) ?_
  refine lv_istore_n (lv' := [(2, .int 0), (1, .int 0), (0, .ref v0)]) hx hb dX7_costOfAll_3 rfl hl (by decide) rfl (fun ls hl => ?_)
  exact k_X7_costOfAll_L4 hx hb hr hml hown hts hlocks hin hE hA _ _ _ _ _ _ _ hrun hR hz hS (lv_sub hl [2, 1, 0] rfl)
/-! X7_weeksToSettleAnew -/
abbrev rm_X7_weeksToSettleAnew : Room := { frames := 4, cells := 0, slots := 0, locals := 89 }
theorem yk_X7_weeksToSettleAnew : m_K yX7_weeksToSettleAnew cX7_weeksToSettleAnew 6 (some .int) 0 := ⟨wm_1_126, wm_0_1, by decide +kernel⟩
theorem ys_X7_weeksToSettleAnew : Cond.instanceMethod yX7_weeksToSettleAnew ∈ wT ∧ Cond.selects RX7 yX7_weeksToSettleAnew yX7_weeksToSettleAnew ∈ wT := ⟨wm_1_125, wp_0_10⟩
set_option maxRecDepth 100000 in
set_option maxHeartbeats 4000000 in
theorem k_X7_weeksToSettleAnew_b77 {p : Program} {l : Launch} {e : Env} {s : State} {m : MethodId} {args : Array Value} {below : List Frame} {meth : Method} {c : Code} {D : va_G} {ids : m_I3} {st : m_T} {A : Nat → Prop} {z : Nat} {r : Int32} (hx : p.tables.exec = Jvm.exec) (hb : c.code = cX7_weeksToSettleAnew) (hr : meth.sig.returnType = some .int) (hml : c.maxLocals = 6) (hown : s.vm.findClass RX7 = some m.cls) (hts : ∀ w ∈ (m_ws yX7_weeksToSettleAnew cX7_weeksToSettleAnew 6 (some .int)), w.before args s = true) (hlocks : meth.locks = false) (hin : meth.name = yX7_weeksToSettleAnew.name) (hE : m_EV st A s s.heap) (hA : ∀ q, s.heap.size ≤ q → A q) {h : mH} {k4 : Nat → Int32 → Int32 → Option (Int32)} {k11 : Nat → Int32 → Int32 → Int32 → Option (Int32)} (hk4 : ∀ (v0 : Nat) (v1 : Int32) (v2 : Int32) (H : Heap) (locs : List Loc) (ls : Array Slot), k4 v0 v1 v2 = some r → Rl D ids A h s H → H.size = z → va_S A s.heap H locs → lv_has ls 6 [(0, .ref v0), (1, .int v1), (2, .int v2)] → W p l e rm_X7_weeksToSettleAnew s m args below meth c H locs 0 0 (MQ below (mQi D ids A r h z) args s 0 0 A) (F0 m 4 ls [])) (hk11 : ∀ (v0 : Nat) (v1 : Int32) (v2 : Int32) (v3 : Int32) (H : Heap) (locs : List Loc) (ls : Array Slot), k11 v0 v1 v2 v3 = some r → Rl D ids A h s H → H.size = z → va_S A s.heap H locs → lv_has ls 6 [(0, .ref v0), (1, .int v1), (2, .int v2), (3, .int v3)] → W p l e rm_X7_weeksToSettleAnew s m args below meth c H locs 0 0 (MQ below (mQi D ids A r h z) args s 0 0 A) (F0 m 11 ls [])) (v0 : Nat) (v1 : Int32) (v2 : Int32) (v3 : Int32) (H : Heap) (locs : List Loc) (ls : Array Slot) (hrun : s_X7_weeksToSettleAnew_b77 k4 k11 h v0 v1 v2 v3 = some r) (hR : Rl D ids A h s H) (hz : H.size = z) (hS : va_S A s.heap H locs) (hl : lv_has ls 6 [(0, .ref v0), (1, .int v1), (2, .int v2), (3, .int v3)]) : W p l e rm_X7_weeksToSettleAnew s m args below meth c H locs 0 0 (MQ below (mQi D ids A r h z) args s 0 0 A) (F0 m 77 ls []) := by
  unfold s_X7_weeksToSettleAnew_b77 at hrun
  refine lv_iinc (v := v3 + 1) (lv' := [(3, .int (v3 + 1)), (0, .ref v0), (1, .int v1), (2, .int v2)]) hx hb dX7_weeksToSettleAnew_77 hl (k := 3) rfl rfl (by decide) rfl (fun ls hl => ?_)
  refine lv_goto (tgt := 11) hx hb dX7_weeksToSettleAnew_80 (by decide) ?_
  exact hk11 _ _ _ _ _ _ _ hrun hR hz hS (lv_sub hl [1, 2, 3, 0] rfl)
set_option maxRecDepth 100000 in
set_option maxHeartbeats 4000000 in
theorem k_X7_weeksToSettleAnew_b43 {p : Program} {l : Launch} {e : Env} {s : State} {m : MethodId} {args : Array Value} {below : List Frame} {meth : Method} {c : Code} {D : va_G} {ids : m_I3} {st : m_T} {A : Nat → Prop} {z : Nat} {r : Int32} (hx : p.tables.exec = Jvm.exec) (hb : c.code = cX7_weeksToSettleAnew) (hr : meth.sig.returnType = some .int) (hml : c.maxLocals = 6) (hown : s.vm.findClass RX7 = some m.cls) (hts : ∀ w ∈ (m_ws yX7_weeksToSettleAnew cX7_weeksToSettleAnew 6 (some .int)), w.before args s = true) (hlocks : meth.locks = false) (hin : meth.name = yX7_weeksToSettleAnew.name) (hE : m_EV st A s s.heap) (hA : ∀ q, s.heap.size ≤ q → A q) {h : mH} {k4 : Nat → Int32 → Int32 → Option (Int32)} {k11 : Nat → Int32 → Int32 → Int32 → Option (Int32)} (hk4 : ∀ (v0 : Nat) (v1 : Int32) (v2 : Int32) (H : Heap) (locs : List Loc) (ls : Array Slot), k4 v0 v1 v2 = some r → Rl D ids A h s H → H.size = z → va_S A s.heap H locs → lv_has ls 6 [(0, .ref v0), (1, .int v1), (2, .int v2)] → W p l e rm_X7_weeksToSettleAnew s m args below meth c H locs 0 0 (MQ below (mQi D ids A r h z) args s 0 0 A) (F0 m 4 ls [])) (hk11 : ∀ (v0 : Nat) (v1 : Int32) (v2 : Int32) (v3 : Int32) (H : Heap) (locs : List Loc) (ls : Array Slot), k11 v0 v1 v2 v3 = some r → Rl D ids A h s H → H.size = z → va_S A s.heap H locs → lv_has ls 6 [(0, .ref v0), (1, .int v1), (2, .int v2), (3, .int v3)] → W p l e rm_X7_weeksToSettleAnew s m args below meth c H locs 0 0 (MQ below (mQi D ids A r h z) args s 0 0 A) (F0 m 11 ls [])) (v0 : Nat) (v1 : Int32) (v2 : Int32) (v3 : Int32) (v4 : Int32) (t0 : Int32) (H : Heap) (locs : List Loc) (ls : Array Slot) (hrun : s_X7_weeksToSettleAnew_b43 k4 k11 h v0 v1 v2 v3 v4 t0 = some r) (hR : Rl D ids A h s H) (hz : H.size = z) (hS : va_S A s.heap H locs) (hl : lv_has ls 6 [(0, .ref v0), (1, .int v1), (2, .int v2), (3, .int v3), (4, .int v4)]) : W p l e rm_X7_weeksToSettleAnew s m args below meth c H locs 0 0 (MQ below (mQi D ids A r h z) args s 0 0 A) (F0 m 43 ls [.int t0]) := by
  unfold s_X7_weeksToSettleAnew_b43 at hrun
  refine lv_istore (lv' := [(5, .int t0), (0, .ref v0), (1, .int v1), (2, .int v2), (3, .int v3), (4, .int v4)]) hx hb dX7_weeksToSettleAnew_43 hl (by decide) rfl (fun ls hl => ?_)
  refine lv_iload hx hb dX7_weeksToSettleAnew_45 (lv_at hl 0 rfl) ?_
  refine lv_if_eq (tgt := 77) hx hb dX7_weeksToSettleAnew_47 (by decide) (fun hc => ?_) (fun hc => ?_)
  · have hrun := mt_t hrun hc
    exact k_X7_weeksToSettleAnew_b77 hx hb hr hml hown hts hlocks hin hE hA hk4 hk11 _ _ _ _ _ _ _ hrun hR hz hS (lv_sub hl [1, 2, 3, 4] rfl)
  · have hrun := mt_f hrun hc
    refine lv_aload_n hx hb dX7_weeksToSettleAnew_50 rfl (lv_at hl 1 rfl) ?_
    obtain ⟨x51, hc9, hrun⟩ := m_bind hrun
    refine mr_get (C := RX7) (T := TX7) (N := 8) (ci := 5) hx hb hts (fun w q => m_ws_in (wi_X7 w q)) hown hR rfl 0 (by decide) (hts _ (m_ws_in wm_1_11)) (fun _ h9 => h9) (m_gr_spec hc9) dX7_weeksToSettleAnew_51 ?_
    obtain ⟨x54, hc9, hrun⟩ := m_bind hrun
    refine mr_getN (C := RX3) (T := TX3) (N := 10) (ci := 2) hx hb hts (fun w q => m_ws_in (wi_X3 w q)) hown hR rfl 2 (by decide) (hE.nf (i := 5) rfl) (fun _ h9 => h9) (m_gr_spec hc9) dX7_weeksToSettleAnew_54 ?_
    refine lv_iload hx hb dX7_weeksToSettleAnew_57 (lv_at hl 5 rfl) ?_
    obtain ⟨x59, hc9, hrun⟩ := m_bind hrun
    refine mr_calli (mr_runS (As := [.ref x54, .int v4]) (rest := []) hx hb hml hown hts (c_X1_at l D ids st z hc9) yk_X1_at ys_X1_at wm_1_80 ⟨(Nat.le_of_ble_eq_true rfl), (Nat.le_of_ble_eq_true rfl)⟩ (mr_recvS hR hE hz hS hA) hl.1 rfl (Nat.le_of_ble_eq_true rfl) dX7_weeksToSettleAnew_59 ⟨(Nat.le_of_ble_eq_true rfl), (Nat.le_of_ble_eq_true rfl)⟩) hR hz hS hA (fun H locs hR hz hS => ?_)
    refine lv_aload_n hx hb dX7_weeksToSettleAnew_62 rfl (lv_at hl 1 rfl) ?_
    obtain ⟨x63, hc9, hrun⟩ := m_bind hrun
    refine mr_get (C := RX7) (T := TX7) (N := 8) (ci := 5) hx hb hts (fun w q => m_ws_in (wi_X7 w q)) hown hR rfl 1 (by decide) (hts _ (m_ws_in wm_1_12)) (fun _ h9 => h9) (m_gr_spec hc9) dX7_weeksToSettleAnew_63 ?_
    refine lv_iload_n hx hb dX7_weeksToSettleAnew_66 rfl (lv_at hl 3 rfl) ?_
    refine lv_iload_n hx hb dX7_weeksToSettleAnew_67 rfl (lv_at hl 4 rfl) ?_
    obtain ⟨_, ho9, hrun⟩ := m_bind hrun
    obtain ⟨fs9, ho9⟩ := m_is_spec ho9
    obtain ⟨x68, hc9, hrun⟩ := m_bind hrun
    refine mr_calli (mr_runV (As := [.int v2, .int v3]) (rest := [.int x59]) hx hb hml hown hts (c_X0_weekCost l D ids st z hc9) yk_X0_weekCost ys_X0_weekCost wm_1_85 ⟨(Nat.le_of_ble_eq_true rfl), (Nat.le_of_ble_eq_true rfl)⟩ (mr_recv (ci := 0) hR hE hz hS hA rfl ho9) hl.1 rfl (Nat.le_of_ble_eq_true rfl) dX7_weeksToSettleAnew_68 ⟨(Nat.le_of_ble_eq_true rfl), (Nat.le_of_ble_eq_true rfl)⟩) hR hz hS hA (fun H locs hR hz hS => ?_)
    refine lv_icmp_eq (tgt := 77) hx hb dX7_weeksToSettleAnew_71 (by decide) (fun hc => ?_) (fun hc => ?_)
    · have hrun := mt_t hrun hc
      exact k_X7_weeksToSettleAnew_b77 hx hb hr hml hown hts hlocks hin hE hA hk4 hk11 _ _ _ _ _ _ _ hrun hR hz hS (lv_sub hl [1, 2, 3, 4] rfl)
    · have hrun := mt_f hrun hc
      refine lv_iinc (v := v1 + 1) (lv' := [(1, .int (v1 + 1)), (5, .int t0), (0, .ref v0), (2, .int v2), (3, .int v3), (4, .int v4)]) hx hb dX7_weeksToSettleAnew_74 hl (k := 2) rfl rfl (by decide) rfl (fun ls hl => ?_)
      exact k_X7_weeksToSettleAnew_b77 hx hb hr hml hown hts hlocks hin hE hA hk4 hk11 _ _ _ _ _ _ _ hrun hR hz hS (lv_sub hl [2, 0, 3, 4] rfl)
set_option maxRecDepth 100000 in
set_option maxHeartbeats 4000000 in
theorem k_X7_weeksToSettleAnew_L11 {p : Program} {l : Launch} {e : Env} {s : State} {m : MethodId} {args : Array Value} {below : List Frame} {meth : Method} {c : Code} {D : va_G} {ids : m_I3} {st : m_T} {A : Nat → Prop} {z : Nat} {r : Int32} (hx : p.tables.exec = Jvm.exec) (hb : c.code = cX7_weeksToSettleAnew) (hr : meth.sig.returnType = some .int) (hml : c.maxLocals = 6) (hown : s.vm.findClass RX7 = some m.cls) (hts : ∀ w ∈ (m_ws yX7_weeksToSettleAnew cX7_weeksToSettleAnew 6 (some .int)), w.before args s = true) (hlocks : meth.locks = false) (hin : meth.name = yX7_weeksToSettleAnew.name) (hE : m_EV st A s s.heap) (hA : ∀ q, s.heap.size ≤ q → A q) {h : mH} {k4 : Nat → Int32 → Int32 → Option (Int32)} (hk4 : ∀ (v0 : Nat) (v1 : Int32) (v2 : Int32) (H : Heap) (locs : List Loc) (ls : Array Slot), k4 v0 v1 v2 = some r → Rl D ids A h s H → H.size = z → va_S A s.heap H locs → lv_has ls 6 [(0, .ref v0), (1, .int v1), (2, .int v2)] → W p l e rm_X7_weeksToSettleAnew s m args below meth c H locs 0 0 (MQ below (mQi D ids A r h z) args s 0 0 A) (F0 m 4 ls [])) : ∀ (n : Nat) (v0 : Nat) (v1 : Int32) (v2 : Int32) (v3 : Int32) (H : Heap) (locs : List Loc) (ls : Array Slot), s_X7_weeksToSettleAnew_L11 k4 h n v0 v1 v2 v3 = some r → Rl D ids A h s H → H.size = z → va_S A s.heap H locs → lv_has ls 6 [(0, .ref v0), (1, .int v1), (2, .int v2), (3, .int v3)] → W p l e rm_X7_weeksToSettleAnew s m args below meth c H locs 0 0 (MQ below (mQi D ids A r h z) args s 0 0 A) (F0 m 11 ls []) := by
  intro n
  induction n with
  | zero => intro v0 v1 v2 v3 H locs ls hrun; exact absurd hrun (by intro h9; cases h9)
  | succ n ih =>
    intro v0 v1 v2 v3 H locs ls hrun hR hz hS hl
    rw [s_X7_weeksToSettleAnew_L11] at hrun
    refine lv_iload_n hx hb dX7_weeksToSettleAnew_11 rfl (lv_at hl 3 rfl) ?_
    refine lv_iconst (v := 4) hx hb dX7_weeksToSettleAnew_12 (by decide) ?_
    refine lv_icmp_ge (tgt := 83) hx hb dX7_weeksToSettleAnew_13 (by decide) (fun hc => ?_) (fun hc => ?_)
    · have hrun := mt_t hrun hc
      refine lv_iinc (v := v2 + 1) (lv' := [(2, .int (v2 + 1)), (0, .ref v0), (1, .int v1), (3, .int v3)]) hx hb dX7_weeksToSettleAnew_83 hl (k := 2) rfl rfl (by decide) rfl (fun ls hl => ?_)
      refine lv_goto (tgt := 4) hx hb dX7_weeksToSettleAnew_86 (by decide) ?_
      exact hk4 _ _ _ _ _ _ hrun hR hz hS (lv_sub hl [1, 2, 0] rfl)
    · have hrun := mt_f hrun hc
      refine lv_iload_n hx hb dX7_weeksToSettleAnew_16 rfl (lv_at hl 2 rfl) ?_
      refine lv_iload_n hx hb dX7_weeksToSettleAnew_17 rfl (lv_at hl 3 rfl) ?_
      obtain ⟨x18, hc9, hrun⟩ := m_bind hrun
      refine mr_calli (mr_runS (As := [.int v2, .int v3]) (rest := []) hx hb hml hown hts (c_X7_weekCell l D ids st z hc9) yk_X7_weekCell ys_X7_weekCell wm_1_127 ⟨(Nat.le_of_ble_eq_true rfl), (Nat.le_of_ble_eq_true rfl)⟩ (mr_recvS hR hE hz hS hA) hl.1 rfl (Nat.le_of_ble_eq_true rfl) dX7_weeksToSettleAnew_18 ⟨(Nat.le_of_ble_eq_true rfl), (Nat.le_of_ble_eq_true rfl)⟩) hR hz hS hA (fun H locs hR hz hS => ?_)
      refine lv_istore (lv' := [(4, .int x18), (0, .ref v0), (1, .int v1), (2, .int v2), (3, .int v3)]) hx hb dX7_weeksToSettleAnew_21 hl (by decide) rfl (fun ls hl => ?_)
      refine lv_aload_n hx hb dX7_weeksToSettleAnew_23 rfl (lv_at hl 1 rfl) ?_
      obtain ⟨x24, hc9, hrun⟩ := m_bind hrun
      refine mr_get (C := RX7) (T := TX7) (N := 8) (ci := 5) hx hb hts (fun w q => m_ws_in (wi_X7 w q)) hown hR rfl 0 (by decide) (hts _ (m_ws_in wm_1_11)) (fun _ h9 => h9) (m_gr_spec hc9) dX7_weeksToSettleAnew_24 ?_
      obtain ⟨x27, hc9, hrun⟩ := m_bind hrun
      refine mr_getN (C := RX3) (T := TX3) (N := 10) (ci := 2) hx hb hts (fun w q => m_ws_in (wi_X3 w q)) hown hR rfl 4 (by decide) (hE.nf (i := 7) rfl) (fun _ h9 => h9) (m_gr_spec hc9) dX7_weeksToSettleAnew_27 ?_
      refine lv_iload hx hb dX7_weeksToSettleAnew_30 (lv_at hl 0 rfl) ?_
      obtain ⟨x32, hc9, hrun⟩ := m_bind hrun
      refine mr_calli (mr_runS (As := [.ref x27, .int x18]) (rest := []) hx hb hml hown hts (c_X1_at l D ids st z hc9) yk_X1_at ys_X1_at wm_1_80 ⟨(Nat.le_of_ble_eq_true rfl), (Nat.le_of_ble_eq_true rfl)⟩ (mr_recvS hR hE hz hS hA) hl.1 rfl (Nat.le_of_ble_eq_true rfl) dX7_weeksToSettleAnew_32 ⟨(Nat.le_of_ble_eq_true rfl), (Nat.le_of_ble_eq_true rfl)⟩) hR hz hS hA (fun H locs hR hz hS => ?_)
      refine lv_if_le (tgt := 42) hx hb dX7_weeksToSettleAnew_35 (by decide) (fun hc => ?_) (fun hc => ?_)
      · have hrun := mt_t hrun hc
        refine lv_iconst (v := 0) hx hb dX7_weeksToSettleAnew_42 (by decide) ?_
        exact k_X7_weeksToSettleAnew_b43 hx hb hr hml hown hts hlocks hin hE hA hk4 ih _ _ _ _ _ _ _ _ _ hrun hR hz hS (lv_sub hl [1, 2, 3, 4, 0] rfl)
      · have hrun := mt_f hrun hc
        refine lv_iconst (v := 1) hx hb dX7_weeksToSettleAnew_38 (by decide) ?_
        refine lv_goto (tgt := 43) hx hb dX7_weeksToSettleAnew_39 (by decide) ?_
        exact k_X7_weeksToSettleAnew_b43 hx hb hr hml hown hts hlocks hin hE hA hk4 ih _ _ _ _ _ _ _ _ _ hrun hR hz hS (lv_sub hl [1, 2, 3, 4, 0] rfl)
set_option maxRecDepth 100000 in
set_option maxHeartbeats 4000000 in
theorem k_X7_weeksToSettleAnew_L4 {p : Program} {l : Launch} {e : Env} {s : State} {m : MethodId} {args : Array Value} {below : List Frame} {meth : Method} {c : Code} {D : va_G} {ids : m_I3} {st : m_T} {A : Nat → Prop} {z : Nat} {r : Int32} (hx : p.tables.exec = Jvm.exec) (hb : c.code = cX7_weeksToSettleAnew) (hr : meth.sig.returnType = some .int) (hml : c.maxLocals = 6) (hown : s.vm.findClass RX7 = some m.cls) (hts : ∀ w ∈ (m_ws yX7_weeksToSettleAnew cX7_weeksToSettleAnew 6 (some .int)), w.before args s = true) (hlocks : meth.locks = false) (hin : meth.name = yX7_weeksToSettleAnew.name) (hE : m_EV st A s s.heap) (hA : ∀ q, s.heap.size ≤ q → A q) {h : mH} : ∀ (n : Nat) (v0 : Nat) (v1 : Int32) (v2 : Int32) (H : Heap) (locs : List Loc) (ls : Array Slot), s_X7_weeksToSettleAnew_L4 h n v0 v1 v2 = some r → Rl D ids A h s H → H.size = z → va_S A s.heap H locs → lv_has ls 6 [(0, .ref v0), (1, .int v1), (2, .int v2)] → W p l e rm_X7_weeksToSettleAnew s m args below meth c H locs 0 0 (MQ below (mQi D ids A r h z) args s 0 0 A) (F0 m 4 ls []) := by
  intro n
  induction n with
  | zero => intro v0 v1 v2 H locs ls hrun; exact absurd hrun (by intro h9; cases h9)
  | succ n ih =>
    intro v0 v1 v2 H locs ls hrun hR hz hS hl
    rw [s_X7_weeksToSettleAnew_L4] at hrun
    refine lv_iload_n hx hb dX7_weeksToSettleAnew_4 rfl (lv_at hl 2 rfl) ?_
    refine lv_iconst (v := 4) hx hb dX7_weeksToSettleAnew_5 (by decide) ?_
    refine lv_icmp_ge (tgt := 89) hx hb dX7_weeksToSettleAnew_6 (by decide) (fun hc => ?_) (fun hc => ?_)
    · have hrun := mt_t hrun hc
      refine lv_iload_n hx hb dX7_weeksToSettleAnew_89 rfl (lv_at hl 1 rfl) ?_
      obtain rfl := Option.some.inj hrun
      exact mr_iret hx hb hr hlocks hR hz hS dX7_weeksToSettleAnew_90
    · have hrun := mt_f hrun hc
      refine lv_iconst (v := 0) hx hb dX7_weeksToSettleAnew_9 (by decide) ?_
      refine lv_istore_n (lv' := [(3, .int 0), (0, .ref v0), (1, .int v1), (2, .int v2)]) hx hb dX7_weeksToSettleAnew_10 rfl hl (by decide) rfl (fun ls hl => ?_)
      exact k_X7_weeksToSettleAnew_L11 hx hb hr hml hown hts hlocks hin hE hA ih _ _ _ _ _ _ _ _ hrun hR hz hS (lv_sub hl [1, 2, 3, 0] rfl)
set_option maxRecDepth 100000 in
set_option maxHeartbeats 4000000 in
theorem c_X7_weeksToSettleAnew (l : Launch) (D : va_G) (ids : m_I3) (st : m_T) (z : Nat) {h : mH} {v0 : Nat} {r : Int32} (hrun : s_X7_weeksToSettleAnew h v0 = some r) : Met l yX7_weeksToSettleAnew (m_ws yX7_weeksToSettleAnew cX7_weeksToSettleAnew 6 (some .int)) rm_X7_weeksToSettleAnew (mPc D ids st [.ref v0] h z) (mQi D ids (m_A h z) r h z) rm_X7_weeksToSettleAnew.cells rm_X7_weeksToSettleAnew.slots (m_A h z) := by
  refine mr_of (cc := cX7_weeksToSettleAnew) (maxL := 6) (ret := some .int) (by decide) rfl (Nat.le_of_ble_eq_true rfl) ?_
  intro p e s m below meth c ls hx hb hr hml hown hts hlocks hin hR hE hz hl
  have hA : ∀ q, s.heap.size ≤ q → m_A h z q := fun q hq => Or.inr (by rw [← hz]; exact hq)
  have hS : va_S (m_A h z) s.heap s.heap [] := va_S.rf
  have hl : lv_has ls 6 [(0, .ref v0)] := hl
  unfold s_X7_weeksToSettleAnew at hrun
  refine lv_iconst (v := 0) hx hb dX7_weeksToSettleAnew_0 (by decide) ?_
  refine lv_istore_n (lv' := [(1, .int 0), (0, .ref v0)]) hx hb dX7_weeksToSettleAnew_1 rfl hl (by decide) rfl (fun ls hl => ?_)
  refine lv_iconst (v := 0) hx hb dX7_weeksToSettleAnew_2 (by decide) ?_
  refine lv_istore_n (lv' := [(2, .int 0), (1, .int 0), (0, .ref v0)]) hx hb dX7_weeksToSettleAnew_3 rfl hl (by decide) rfl (fun ls hl => ?_)
  exact k_X7_weeksToSettleAnew_L4 hx hb hr hml hown hts hlocks hin hE hA _ _ _ _ _ _ _ hrun hR hz hS (lv_sub hl [2, 1, 0] rfl)
/-! X7_countNumber -/
abbrev rm_X7_countNumber : Room := { frames := 5, cells := 0, slots := 0, locals := 114 }
theorem yk_X7_countNumber : m_K yX7_countNumber cX7_countNumber 2 (some .int) 1 := ⟨wm_1_122, wm_0_1, by decide +kernel⟩
theorem ys_X7_countNumber : Cond.instanceMethod yX7_countNumber ∈ wT ∧ Cond.selects RX7 yX7_countNumber yX7_countNumber ∈ wT := ⟨wm_1_121, wp_0_9⟩
set_option maxRecDepth 100000 in
set_option maxHeartbeats 4000000 in
theorem c_X7_countNumber (l : Launch) (D : va_G) (ids : m_I3) (st : m_T) (z : Nat) {h : mH} {v0 : Nat} {v1 : Int32} {r : Int32} (hrun : s_X7_countNumber h v0 v1 = some r) : Met l yX7_countNumber (m_ws yX7_countNumber cX7_countNumber 2 (some .int)) rm_X7_countNumber (mPc D ids st [.ref v0, .int v1] h z) (mQi D ids (m_A h z) r h z) rm_X7_countNumber.cells rm_X7_countNumber.slots (m_A h z) := by
  refine mr_of (cc := cX7_countNumber) (maxL := 2) (ret := some .int) (by decide) rfl (Nat.le_of_ble_eq_true rfl) ?_
  intro p e s m below meth c ls hx hb hr hml hown hts hlocks hin hR hE hz hl
  have hA : ∀ q, s.heap.size ≤ q → m_A h z q := fun q hq => Or.inr (by rw [← hz]; exact hq)
  have hS : va_S (m_A h z) s.heap s.heap [] := va_S.rf
  have hl : lv_has ls 2 [(0, .ref v0), (1, .int v1)] := hl
  unfold s_X7_countNumber at hrun
  refine lv_iload_n hx hb dX7_countNumber_0 rfl (lv_at hl 1 rfl) ?_
  by_cases hc0 : v1 = 0
  · have hrun := mt_t hrun hc0
    refine lv_tableIn (tgt := 52) (off := 51) hx hb dX7_countNumber_1 (by rw [hc0]; decide) (by rw [hc0]; decide) (by rw [hc0]; rfl) (by decide) ?_
    refine lv_aload_n hx hb dX7_countNumber_52 rfl (lv_at hl 0 rfl) ?_
    obtain ⟨x53, hc9, hrun⟩ := m_bind hrun
    refine mr_get (C := RX7) (T := TX7) (N := 8) (ci := 5) hx hb hts (fun w q => m_ws_in (wi_X7 w q)) hown hR rfl 0 (by decide) (hts _ (m_ws_in wm_1_11)) (fun _ h9 => h9) (m_gr_spec hc9) dX7_countNumber_53 ?_
    obtain ⟨x56, hc9, hrun⟩ := m_bind hrun
    refine mr_getN (C := RX3) (T := TX3) (N := 10) (ci := 2) hx hb hts (fun w q => m_ws_in (wi_X3 w q)) hown hR rfl 0 (by decide) (hE.nf (i := 3) rfl) (fun _ h9 => h9) (m_gr_spec hc9) dX7_countNumber_56 ?_
    obtain ⟨x59, hc9, hrun⟩ := m_bind hrun
    refine mr_getN (C := RX5) (T := TX5) (N := 2) (ci := 3) hx hb hts (fun w q => m_ws_in (wi_X5 w q)) hown hR rfl 1 (by decide) (hE.nf (i := 0) rfl) (fun _ h9 => h9) (m_gi_spec hc9) dX7_countNumber_59 ?_
    obtain rfl := Option.some.inj hrun
    exact mr_iret hx hb hr hlocks hR hz hS dX7_countNumber_62
  have hrun := mt_f hrun hc0
  have hn0 : ¬ (v1).toInt = 0 := lv_neT hc0 rfl
  by_cases hc1 : v1 = 1
  · have hrun := mt_t hrun hc1
    refine lv_tableIn (tgt := 63) (off := 62) hx hb dX7_countNumber_1 (by rw [hc1]; decide) (by rw [hc1]; decide) (by rw [hc1]; rfl) (by decide) ?_
    refine lv_aload_n hx hb dX7_countNumber_63 rfl (lv_at hl 0 rfl) ?_
    obtain ⟨x64, hc9, hrun⟩ := m_bind hrun
    refine mr_get (C := RX7) (T := TX7) (N := 8) (ci := 5) hx hb hts (fun w q => m_ws_in (wi_X7 w q)) hown hR rfl 1 (by decide) (hts _ (m_ws_in wm_1_12)) (fun _ h9 => h9) (m_gr_spec hc9) dX7_countNumber_64 ?_
    obtain ⟨x67, hc9, hrun⟩ := m_bind hrun
    refine mr_getN (C := RX0) (T := TX0) (N := 9) (ci := 0) hx hb hts (fun w q => m_ws_in (wi_X0 w q)) hown hR rfl 2 (by decide) (hE.nf (i := 13) rfl) (fun _ h9 => h9) (m_gr_spec hc9) dX7_countNumber_67 ?_
    obtain ⟨x70, hc9, hrun⟩ := m_bind hrun
    refine mr_calli (mr_runS (As := [.ref x67]) (rest := []) hx hb hml hown hts (c_X1_sum l D ids st z hc9) yk_X1_sum ys_X1_sum wm_1_107 ⟨(Nat.le_of_ble_eq_true rfl), (Nat.le_of_ble_eq_true rfl)⟩ (mr_recvS hR hE hz hS hA) hl.1 rfl (Nat.le_of_ble_eq_true rfl) dX7_countNumber_70 ⟨(Nat.le_of_ble_eq_true rfl), (Nat.le_of_ble_eq_true rfl)⟩) hR hz hS hA (fun H locs hR hz hS => ?_)
    obtain rfl := Option.some.inj hrun
    exact mr_iret hx hb hr hlocks hR hz hS dX7_countNumber_73
  have hrun := mt_f hrun hc1
  have hn1 : ¬ (v1).toInt = 1 := lv_neT hc1 rfl
  by_cases hc2 : v1 = 2
  · have hrun := mt_t hrun hc2
    refine lv_tableIn (tgt := 74) (off := 73) hx hb dX7_countNumber_1 (by rw [hc2]; decide) (by rw [hc2]; decide) (by rw [hc2]; rfl) (by decide) ?_
    refine lv_aload_n hx hb dX7_countNumber_74 rfl (lv_at hl 0 rfl) ?_
    obtain ⟨x75, hc9, hrun⟩ := m_bind hrun
    refine mr_get (C := RX7) (T := TX7) (N := 8) (ci := 5) hx hb hts (fun w q => m_ws_in (wi_X7 w q)) hown hR rfl 1 (by decide) (hts _ (m_ws_in wm_1_12)) (fun _ h9 => h9) (m_gr_spec hc9) dX7_countNumber_75 ?_
    obtain ⟨x78, hc9, hrun⟩ := m_bind hrun
    refine mr_getN (C := RX0) (T := TX0) (N := 9) (ci := 0) hx hb hts (fun w q => m_ws_in (wi_X0 w q)) hown hR rfl 3 (by decide) (hE.nf (i := 14) rfl) (fun _ h9 => h9) (m_gr_spec hc9) dX7_countNumber_78 ?_
    obtain ⟨x81, hc9, hrun⟩ := m_bind hrun
    refine mr_calli (mr_runS (As := [.ref x78]) (rest := []) hx hb hml hown hts (c_X1_sum l D ids st z hc9) yk_X1_sum ys_X1_sum wm_1_107 ⟨(Nat.le_of_ble_eq_true rfl), (Nat.le_of_ble_eq_true rfl)⟩ (mr_recvS hR hE hz hS hA) hl.1 rfl (Nat.le_of_ble_eq_true rfl) dX7_countNumber_81 ⟨(Nat.le_of_ble_eq_true rfl), (Nat.le_of_ble_eq_true rfl)⟩) hR hz hS hA (fun H locs hR hz hS => ?_)
    obtain rfl := Option.some.inj hrun
    exact mr_iret hx hb hr hlocks hR hz hS dX7_countNumber_84
  have hrun := mt_f hrun hc2
  have hn2 : ¬ (v1).toInt = 2 := lv_neT hc2 rfl
  by_cases hc3 : v1 = 3
  · have hrun := mt_t hrun hc3
    refine lv_tableIn (tgt := 85) (off := 84) hx hb dX7_countNumber_1 (by rw [hc3]; decide) (by rw [hc3]; decide) (by rw [hc3]; rfl) (by decide) ?_
    refine lv_aload_n hx hb dX7_countNumber_85 rfl (lv_at hl 0 rfl) ?_
    obtain ⟨_, ho9, hrun⟩ := m_bind hrun
    obtain ⟨fs9, ho9⟩ := m_is_spec ho9
    obtain ⟨x86, hc9, hrun⟩ := m_bind hrun
    refine mr_calli (mr_runV (As := []) (rest := []) hx hb hml hown hts (c_X7_costOfAll l D ids st z hc9) yk_X7_costOfAll ys_X7_costOfAll wm_1_110 ⟨(Nat.le_of_ble_eq_true rfl), (Nat.le_of_ble_eq_true rfl)⟩ (mr_recv (ci := 5) hR hE hz hS hA rfl ho9) hl.1 rfl (Nat.le_of_ble_eq_true rfl) dX7_countNumber_86 ⟨(Nat.le_of_ble_eq_true rfl), (Nat.le_of_ble_eq_true rfl)⟩) hR hz hS hA (fun H locs hR hz hS => ?_)
    obtain rfl := Option.some.inj hrun
    exact mr_iret hx hb hr hlocks hR hz hS dX7_countNumber_89
  have hrun := mt_f hrun hc3
  have hn3 : ¬ (v1).toInt = 3 := lv_neT hc3 rfl
  by_cases hc4 : v1 = 4
  · have hrun := mt_t hrun hc4
    refine lv_tableIn (tgt := 90) (off := 89) hx hb dX7_countNumber_1 (by rw [hc4]; decide) (by rw [hc4]; decide) (by rw [hc4]; rfl) (by decide) ?_
    refine lv_aload_n hx hb dX7_countNumber_90 rfl (lv_at hl 0 rfl) ?_
    obtain ⟨x91, hc9, hrun⟩ := m_bind hrun
    refine mr_get (C := RX7) (T := TX7) (N := 8) (ci := 5) hx hb hts (fun w q => m_ws_in (wi_X7 w q)) hown hR rfl 0 (by decide) (hts _ (m_ws_in wm_1_11)) (fun _ h9 => h9) (m_gr_spec hc9) dX7_countNumber_91 ?_
    obtain ⟨x94, hc9, hrun⟩ := m_bind hrun
    refine mr_getN (C := RX3) (T := TX3) (N := 10) (ci := 2) hx hb hts (fun w q => m_ws_in (wi_X3 w q)) hown hR rfl 2 (by decide) (hE.nf (i := 5) rfl) (fun _ h9 => h9) (m_gr_spec hc9) dX7_countNumber_94 ?_
    obtain ⟨x97, hc9, hrun⟩ := m_bind hrun
    refine mr_calli (mr_runS (As := [.ref x94]) (rest := []) hx hb hml hown hts (c_X1_sum l D ids st z hc9) yk_X1_sum ys_X1_sum wm_1_107 ⟨(Nat.le_of_ble_eq_true rfl), (Nat.le_of_ble_eq_true rfl)⟩ (mr_recvS hR hE hz hS hA) hl.1 rfl (Nat.le_of_ble_eq_true rfl) dX7_countNumber_97 ⟨(Nat.le_of_ble_eq_true rfl), (Nat.le_of_ble_eq_true rfl)⟩) hR hz hS hA (fun H locs hR hz hS => ?_)
    obtain rfl := Option.some.inj hrun
    exact mr_iret hx hb hr hlocks hR hz hS dX7_countNumber_100
  have hrun := mt_f hrun hc4
  have hn4 : ¬ (v1).toInt = 4 := lv_neT hc4 rfl
  by_cases hc5 : v1 = 5
  · have hrun := mt_t hrun hc5
    refine lv_tableIn (tgt := 101) (off := 100) hx hb dX7_countNumber_1 (by rw [hc5]; decide) (by rw [hc5]; decide) (by rw [hc5]; rfl) (by decide) ?_
    refine lv_aload_n hx hb dX7_countNumber_101 rfl (lv_at hl 0 rfl) ?_
    obtain ⟨x102, hc9, hrun⟩ := m_bind hrun
    refine mr_get (C := RX7) (T := TX7) (N := 8) (ci := 5) hx hb hts (fun w q => m_ws_in (wi_X7 w q)) hown hR rfl 0 (by decide) (hts _ (m_ws_in wm_1_11)) (fun _ h9 => h9) (m_gr_spec hc9) dX7_countNumber_102 ?_
    obtain ⟨x105, hc9, hrun⟩ := m_bind hrun
    refine mr_getN (C := RX3) (T := TX3) (N := 10) (ci := 2) hx hb hts (fun w q => m_ws_in (wi_X3 w q)) hown hR rfl 7 (by decide) (hE.nf (i := 8) rfl) (fun _ h9 => h9) (m_gi_spec hc9) dX7_countNumber_105 ?_
    obtain rfl := Option.some.inj hrun
    exact mr_iret hx hb hr hlocks hR hz hS dX7_countNumber_108
  have hrun := mt_f hrun hc5
  have hn5 : ¬ (v1).toInt = 5 := lv_neT hc5 rfl
  by_cases hc6 : v1 = 6
  · have hrun := mt_t hrun hc6
    refine lv_tableIn (tgt := 109) (off := 108) hx hb dX7_countNumber_1 (by rw [hc6]; decide) (by rw [hc6]; decide) (by rw [hc6]; rfl) (by decide) ?_
    refine lv_aload_n hx hb dX7_countNumber_109 rfl (lv_at hl 0 rfl) ?_
    obtain ⟨x110, hc9, hrun⟩ := m_bind hrun
    refine mr_get (C := RX7) (T := TX7) (N := 8) (ci := 5) hx hb hts (fun w q => m_ws_in (wi_X7 w q)) hown hR rfl 0 (by decide) (hts _ (m_ws_in wm_1_11)) (fun _ h9 => h9) (m_gr_spec hc9) dX7_countNumber_110 ?_
    obtain ⟨x113, hc9, hrun⟩ := m_bind hrun
    refine mr_getN (C := RX3) (T := TX3) (N := 10) (ci := 2) hx hb hts (fun w q => m_ws_in (wi_X3 w q)) hown hR rfl 8 (by decide) (hE.nf (i := 9) rfl) (fun _ h9 => h9) (m_gi_spec hc9) dX7_countNumber_113 ?_
    obtain rfl := Option.some.inj hrun
    exact mr_iret hx hb hr hlocks hR hz hS dX7_countNumber_116
  have hrun := mt_f hrun hc6
  have hn6 : ¬ (v1).toInt = 6 := lv_neT hc6 rfl
  by_cases hc7 : v1 = 7
  · have hrun := mt_t hrun hc7
    refine lv_tableIn (tgt := 117) (off := 116) hx hb dX7_countNumber_1 (by rw [hc7]; decide) (by rw [hc7]; decide) (by rw [hc7]; rfl) (by decide) ?_
    refine lv_aload_n hx hb dX7_countNumber_117 rfl (lv_at hl 0 rfl) ?_
    obtain ⟨x118, hc9, hrun⟩ := m_bind hrun
    refine mr_get (C := RX7) (T := TX7) (N := 8) (ci := 5) hx hb hts (fun w q => m_ws_in (wi_X7 w q)) hown hR rfl 0 (by decide) (hts _ (m_ws_in wm_1_11)) (fun _ h9 => h9) (m_gr_spec hc9) dX7_countNumber_118 ?_
    obtain ⟨x121, hc9, hrun⟩ := m_bind hrun
    refine mr_getN (C := RX3) (T := TX3) (N := 10) (ci := 2) hx hb hts (fun w q => m_ws_in (wi_X3 w q)) hown hR rfl 9 (by decide) (hE.nf (i := 10) rfl) (fun _ h9 => h9) (m_gi_spec hc9) dX7_countNumber_121 ?_
    obtain rfl := Option.some.inj hrun
    exact mr_iret hx hb hr hlocks hR hz hS dX7_countNumber_124
  have hrun := mt_f hrun hc7
  have hn7 : ¬ (v1).toInt = 7 := lv_neT hc7 rfl
  by_cases hc8 : v1 = 8
  · have hrun := mt_t hrun hc8
    refine lv_tableIn (tgt := 125) (off := 124) hx hb dX7_countNumber_1 (by rw [hc8]; decide) (by rw [hc8]; decide) (by rw [hc8]; rfl) (by decide) ?_
    refine lv_aload_n hx hb dX7_countNumber_125 rfl (lv_at hl 0 rfl) ?_
    obtain ⟨_, ho9, hrun⟩ := m_bind hrun
    obtain ⟨fs9, ho9⟩ := m_is_spec ho9
    obtain ⟨x126, hc9, hrun⟩ := m_bind hrun
    refine mr_calli (mr_runV (As := []) (rest := []) hx hb hml hown hts (c_X7_weeksToSettleAnew l D ids st z hc9) yk_X7_weeksToSettleAnew ys_X7_weeksToSettleAnew wm_1_123 ⟨(Nat.le_of_ble_eq_true rfl), (Nat.le_of_ble_eq_true rfl)⟩ (mr_recv (ci := 5) hR hE hz hS hA rfl ho9) hl.1 rfl (Nat.le_of_ble_eq_true rfl) dX7_countNumber_126 ⟨(Nat.le_of_ble_eq_true rfl), (Nat.le_of_ble_eq_true rfl)⟩) hR hz hS hA (fun H locs hR hz hS => ?_)
    obtain rfl := Option.some.inj hrun
    exact mr_iret hx hb hr hlocks hR hz hS dX7_countNumber_129
  have hrun := mt_f hrun hc8
  have hn8 : ¬ (v1).toInt = 8 := lv_neT hc8 rfl
  refine lv_tableOut (tgt := 130) hx hb dX7_countNumber_1 (by omega) (by decide) ?_
  refine lv_aload_n hx hb dX7_countNumber_130 rfl (lv_at hl 0 rfl) ?_
  obtain ⟨x131, hc9, hrun⟩ := m_bind hrun
  refine mr_get (C := RX7) (T := TX7) (N := 8) (ci := 5) hx hb hts (fun w q => m_ws_in (wi_X7 w q)) hown hR rfl 2 (by decide) (hts _ (m_ws_in wm_1_13)) (fun _ h9 => h9) (m_gr_spec hc9) dX7_countNumber_131 ?_
  obtain ⟨x134, hc9, hrun⟩ := m_bind hrun
  refine mr_getN (C := RX2) (T := TX2) (N := 3) (ci := 1) hx hb hts (fun w q => m_ws_in (wi_X2 w q)) hown hR rfl 2 (by decide) (hE.nf (i := 17) rfl) (fun _ h9 => h9) (m_gi_spec hc9) dX7_countNumber_134 ?_
  obtain rfl := Option.some.inj hrun
  exact mr_iret hx hb hr hlocks hR hz hS dX7_countNumber_137
/-! X7_count -/
abbrev rm_X7_count : Room := { frames := 6, cells := 1, slots := 6, locals := 135 }
theorem yk_X7_count : m_K yX7_count cX7_count 2 (some .int) 1 := ⟨wm_3_4, wm_0_1, by decide +kernel⟩
theorem ys_X7_count : Cond.instanceMethod yX7_count ∈ wT ∧ Cond.selects RX7 yX7_count yX7_count ∈ wT := ⟨wm_3_2, wm_3_3⟩
set_option maxRecDepth 100000 in
set_option maxHeartbeats 4000000 in
theorem c_X7_count (l : Launch) (hfl : l.stackTraces = false) (D : va_G) (ids : m_I3) (st : m_T) (z : Nat) {h : mH} {v0 : Nat} {v1 : Int32} {r : (String ⊕ Int32)} {hF : mH} (hrun : s_X7_count h v0 v1 = some (r, hF)) : vx_Met l yX7_count (m_ws yX7_count cX7_count 2 (some .int)) rm_X7_count (mPc D ids st [.ref v0, .int v1] h z) (mQxi D ids (m_A h z) r hF) (mXx D ids (m_A h z) r hF) rm_X7_count.cells rm_X7_count.slots (m_A h z) := by
  refine mrx_of (cc := cX7_count) (maxL := 2) (ret := some .int) (by decide) rfl (Nat.le_of_ble_eq_true rfl) ?_
  intro p e s m below meth c ls hx hb hr hml hown hts hlocks hin hout hR hE hz hl
  have hA : ∀ q, s.heap.size ≤ q → m_A h z q := fun q hq => Or.inr (by rw [← hz]; exact hq)
  have hS : va_S (m_A h z) s.heap s.heap [] := va_S.rf
  have hl : lv_has ls 2 [(0, .ref v0), (1, .int v1)] := hl
  unfold s_X7_count at hrun
  refine lv_iload_n hx hb dX7_count_0 rfl (lv_at hl 1 rfl) ?_
  refine lv_bipush (v := 10) hx hb dX7_count_1 (by decide) ?_
  obtain ⟨x3, hc9, hrun⟩ := m_bind hrun
  refine mr_calli (mr_runS (As := [.int v1, .int 10]) (rest := []) hx hb hml hown hts (c_X7_isBelow l D ids st z hc9) yk_X7_isBelow ys_X7_isBelow wm_1_225 ⟨(Nat.le_of_ble_eq_true rfl), (Nat.le_of_ble_eq_true rfl)⟩ (mr_recvS hR hE hz hS hA) hl.1 rfl (Nat.le_of_ble_eq_true rfl) dX7_count_3 ⟨(Nat.le_of_ble_eq_true rfl), (Nat.le_of_ble_eq_true rfl)⟩) hR hz hS hA (fun H locs hR hz hS => ?_)
  refine lv_if_ne (tgt := 19) hx hb dX7_count_6 (by decide) (fun hc => ?_) (fun hc => ?_)
  · have hrun := mt_f hrun hc
    refine lv_aload_n hx hb dX7_count_19 rfl (lv_at hl 0 rfl) ?_
    refine lv_iload_n hx hb dX7_count_20 rfl (lv_at hl 1 rfl) ?_
    obtain ⟨_, ho9, hrun⟩ := m_bind hrun
    obtain ⟨fs9, ho9⟩ := m_is_spec ho9
    obtain ⟨x21, hc9, hrun⟩ := m_bind hrun
    refine mr_calli (mr_runV (As := [.int v1]) (rest := []) hx hb hml hown hts (c_X7_countNumber l D ids st z hc9) yk_X7_countNumber ys_X7_countNumber wm_1_119 ⟨(Nat.le_of_ble_eq_true rfl), (Nat.le_of_ble_eq_true rfl)⟩ (mr_recv (ci := 5) hR hE hz hS hA rfl ho9) hl.1 rfl (Nat.le_of_ble_eq_true rfl) dX7_count_21 ⟨(Nat.le_of_ble_eq_true rfl), (Nat.le_of_ble_eq_true rfl)⟩) hR hz hS hA (fun H locs hR hz hS => ?_)
    obtain ⟨rfl, rfl⟩ := Prod.mk.inj (Option.some.inj hrun)
    exact mrx_iret hx hb hr hlocks hR hS dX7_count_24 (Nat.le_of_ble_eq_true rfl) (Nat.le_of_ble_eq_true rfl)
  · have hrun := mt_t hrun hc
    obtain ⟨rfl, rfl⟩ := Prod.mk.inj (Option.some.inj hrun)
    exact mr_throw (text := "what is not 0 to 9") hx hb hfl hown hts hml hE yt_72 (List.mem_of_getElem? (i := 12) rfl) hR hS hl.1 dX7_count_9 dX7_count_12 dX7_count_13 dX7_count_15 dX7_count_18 hout hlocks (Nat.le_of_ble_eq_true rfl) (Nat.le_of_ble_eq_true rfl) (Nat.le_of_ble_eq_true rfl) (Nat.le_of_ble_eq_true rfl) (Nat.le_of_ble_eq_true rfl) (Nat.le_of_ble_eq_true rfl)
/-! L_count -/
abbrev rm_L_count : Room := { frames := 7, cells := 1, slots := 6, locals := 156 }
theorem yk_L_count : m_KH yL_count cL_count 4 (some .int) [(0, 9, 12, 13)] 3 := ⟨wm_3_0, wm_0_0, by decide +kernel⟩
theorem ys_L_count : Cond.static yL_count ∈ wT := wm_2_239
set_option maxRecDepth 100000 in
set_option maxHeartbeats 4000000 in
theorem c_L_count (l : Launch) (hfl : l.stackTraces = false) (D : va_G) (ids : m_I3) (st : m_T) (z : Nat) {h : mH} {v0 : Nat} {v1 : Int32} {v2 : Nat} {r : Int32} {hF : mH} (hrun : s_L_count h v0 v1 v2 = some (r, hF)) : Met l yL_count (m_wsH yL_count cL_count 4 (some .int) [(0, 9, 12, 13)]) rm_L_count (mPc D ids st [.ref v0, .int v1, .ref v2] h z) (mQwi D ids (m_A h z) r hF) rm_L_count.cells rm_L_count.slots (m_A h z) := by
  refine mr_ofH (cc := cL_count) (maxL := 4) (ret := some .int) (hh := [(0, 9, 12, 13)]) (by decide) rfl (Nat.le_of_ble_eq_true rfl) ?_
  intro p e s m below meth c ls hx hb hr hml hown hts hlocks hin htab hR hE hz hl
  have hA : ∀ q, s.heap.size ≤ q → m_A h z q := fun q hq => Or.inr (by rw [← hz]; exact hq)
  have hS : va_S (m_A h z) s.heap s.heap [] := va_S.rf
  have hl : lv_has ls 4 [(0, .ref v0), (1, .int v1), (2, .ref v2)] := hl
  unfold s_L_count at hrun
  refine lv_aload_n hx hb dL_count_0 rfl (lv_at hl 2 rfl) ?_
  refine lv_iconst (v := 0) hx hb dL_count_1 (by decide) ?_
  refine lv_aload_n hx hb dL_count_2 rfl (lv_at hl 0 rfl) ?_
  refine lv_iload_n hx hb dL_count_3 rfl (lv_at hl 1 rfl) ?_
  obtain ⟨_, ho9, hrun⟩ := m_bind hrun
  obtain ⟨fs9, ho9⟩ := m_is_spec ho9
  obtain ⟨⟨r4, h4⟩, hc9, hrun⟩ := m_bind hrun
  refine mrx_calli (mrx_runV (As := [.int v1]) (rest := [.int 0, .ref v2]) hx hb hml hown hts (c_X7_count l hfl D ids st z hc9) yk_X7_count ys_X7_count wm_3_1 ⟨(Nat.le_of_ble_eq_true rfl), (Nat.le_of_ble_eq_true rfl)⟩ (mr_recv (ci := 5) hR hE hz hS hA rfl ho9) hl.1 rfl (Nat.le_of_ble_eq_true rfl) dL_count_4 ⟨(Nat.le_of_ble_eq_true rfl), (Nat.le_of_ble_eq_true rfl)⟩) hR hz hS hA (fun E9 ce9 q9 H locs hr9 hR hS hce hcv hcl => ?_) (fun x4 H locs hr9 hR hS => ?_)
  · subst hr9
    obtain ⟨z, hz⟩ : ∃ z, H.size = z := ⟨_, rfl⟩
    by_cases hc0 : E9 = "java/lang/IllegalArgumentException"
    · have hrun := mt_t hrun hc0
      rw [hc0] at hcl
      refine mr_catch0 hown htab (by decide) (by decide) (hts _ (List.mem_cons_of_mem _ wm_1_216)) hE.2.2.2.2.2.2.2 (List.mem_of_getElem? (i := 0) rfl) hce hcv hcl ?_
      refine lv_astore_n (lv' := [(3, .ref q9), (0, .ref v0), (1, .int v1), (2, .ref v2)]) hx hb dL_count_12 rfl hl (by decide) rfl (fun ls hl => ?_)
      refine lv_iconst (v := 1) hx hb dL_count_13 (by decide) ?_
      obtain ⟨rfl, rfl⟩ := Prod.mk.inj (Option.some.inj hrun)
      exact mrw_iret hx hb hr hlocks hR hS dL_count_14 (Nat.le_of_ble_eq_true rfl) (Nat.le_of_ble_eq_true rfl)
    have hrun := mt_f hrun hc0
    exact absurd hrun (fun h9 => nomatch h9)
  · subst hr9
    obtain ⟨z, hz⟩ : ∃ z, H.size = z := ⟨_, rfl⟩
    refine lv_i2l (v := x4.toInt64) hx hb dL_count_7 rfl ?_
    obtain ⟨h8, hc9, hrun⟩ := m_bind hrun
    refine mr_last hx hb hR hz hS hc9 dL_count_8 (fun H locs hR hz hS => ?_)
    refine lv_goto (tgt := 15) hx hb dL_count_9 (by decide) ?_
    refine lv_iconst (v := 0) hx hb dL_count_15 (by decide) ?_
    obtain ⟨rfl, rfl⟩ := Prod.mk.inj (Option.some.inj hrun)
    exact mrw_iret hx hb hr hlocks hR hS dL_count_16 (Nat.le_of_ble_eq_true rfl) (Nat.le_of_ble_eq_true rfl)
/-! X3_ledgerNumber -/
abbrev rm_X3_ledgerNumber : Room := { frames := 1, cells := 0, slots := 0, locals := 21 }
theorem yk_X3_ledgerNumber : m_K yX3_ledgerNumber cX3_ledgerNumber 4 (some .int) 3 := ⟨wm_1_174, wm_0_2, by decide +kernel⟩
theorem ys_X3_ledgerNumber : Cond.instanceMethod yX3_ledgerNumber ∈ wT ∧ Cond.selects RX3 yX3_ledgerNumber yX3_ledgerNumber ∈ wT := ⟨wm_1_172, wm_1_173⟩
set_option maxRecDepth 100000 in
set_option maxHeartbeats 4000000 in
theorem k_X3_ledgerNumber_b15 {p : Program} {l : Launch} {e : Env} {s : State} {m : MethodId} {args : Array Value} {below : List Frame} {meth : Method} {c : Code} {D : va_G} {ids : m_I3} {st : m_T} {A : Nat → Prop} {z : Nat} {r : Int32} (hx : p.tables.exec = Jvm.exec) (hb : c.code = cX3_ledgerNumber) (hr : meth.sig.returnType = some .int) (hml : c.maxLocals = 4) (hown : s.vm.findClass RX3 = some m.cls) (hts : ∀ w ∈ (m_ws yX3_ledgerNumber cX3_ledgerNumber 4 (some .int)), w.before args s = true) (hlocks : meth.locks = false) (hin : meth.name = yX3_ledgerNumber.name) (hE : m_EV st A s s.heap) (hA : ∀ q, s.heap.size ≤ q → A q) {h : mH} (v1 : Int32) (v2 : Int32) (t0 : Nat) (H : Heap) (locs : List Loc) (ls : Array Slot) (hrun : s_X3_ledgerNumber_b15 h v1 v2 t0 = some r) (hR : Rl D ids A h s H) (hz : H.size = z) (hS : va_S A s.heap H locs) (hl : lv_has ls 4 [(1, .int v1), (2, .int v2)]) : W p l e rm_X3_ledgerNumber s m args below meth c H locs 0 0 (MQ below (mQi D ids A r h z) args s 0 0 A) (F0 m 15 ls [.ref t0]) := by
  unfold s_X3_ledgerNumber_b15 at hrun
  refine lv_iload_n hx hb dX3_ledgerNumber_15 rfl (lv_at hl 0 rfl) ?_
  refine lv_bipush (v := 8) hx hb dX3_ledgerNumber_16 (by decide) ?_
  refine lv_imul hx hb dX3_ledgerNumber_18 ?_
  refine lv_iload_n hx hb dX3_ledgerNumber_19 rfl (lv_at hl 1 rfl) ?_
  refine lv_iadd hx hb dX3_ledgerNumber_20 ?_
  obtain ⟨x21, hc9, hrun⟩ := m_bind hrun
  refine mr_calli (mr_runS (As := [.ref t0, .int ((v1 * 8) + v2)]) (rest := []) hx hb hml hown hts (c_X1_at l D ids st z hc9) yk_X1_at ys_X1_at wm_1_175 ⟨(Nat.le_of_ble_eq_true rfl), (Nat.le_of_ble_eq_true rfl)⟩ (mr_recvS hR hE hz hS hA) hl.1 rfl (Nat.le_of_ble_eq_true rfl) dX3_ledgerNumber_21 ⟨(Nat.le_of_ble_eq_true rfl), (Nat.le_of_ble_eq_true rfl)⟩) hR hz hS hA (fun H locs hR hz hS => ?_)
  obtain rfl := Option.some.inj hrun
  exact mr_iret hx hb hr hlocks hR hz hS dX3_ledgerNumber_24
set_option maxRecDepth 100000 in
set_option maxHeartbeats 4000000 in
theorem c_X3_ledgerNumber (l : Launch) (D : va_G) (ids : m_I3) (st : m_T) (z : Nat) {h : mH} {v0 : Nat} {v1 : Int32} {v2 : Int32} {v3 : Int32} {r : Int32} (hrun : s_X3_ledgerNumber h v0 v1 v2 v3 = some r) : Met l yX3_ledgerNumber (m_ws yX3_ledgerNumber cX3_ledgerNumber 4 (some .int)) rm_X3_ledgerNumber (mPc D ids st [.ref v0, .int v1, .int v2, .int v3] h z) (mQi D ids (m_A h z) r h z) rm_X3_ledgerNumber.cells rm_X3_ledgerNumber.slots (m_A h z) := by
  refine mr_of (cc := cX3_ledgerNumber) (maxL := 4) (ret := some .int) (by decide) rfl (Nat.le_of_ble_eq_true rfl) ?_
  intro p e s m below meth c ls hx hb hr hml hown hts hlocks hin hR hE hz hl
  have hA : ∀ q, s.heap.size ≤ q → m_A h z q := fun q hq => Or.inr (by rw [← hz]; exact hq)
  have hS : va_S (m_A h z) s.heap s.heap [] := va_S.rf
  have hl : lv_has ls 4 [(0, .ref v0), (1, .int v1), (2, .int v2), (3, .int v3)] := hl
  unfold s_X3_ledgerNumber at hrun
  refine lv_iload_n hx hb dX3_ledgerNumber_0 rfl (lv_at hl 3 rfl) ?_
  refine lv_if_ne (tgt := 11) hx hb dX3_ledgerNumber_1 (by decide) (fun hc => ?_) (fun hc => ?_)
  · have hrun := mt_f hrun hc
    refine lv_aload_n hx hb dX3_ledgerNumber_11 rfl (lv_at hl 0 rfl) ?_
    obtain ⟨x12, hc9, hrun⟩ := m_bind hrun
    refine mr_get (C := RX3) (T := TX3) (N := 10) (ci := 2) hx hb hts (fun w q => m_ws_in (wi_X3 w q)) hown hR rfl 6 (by decide) (hts _ (m_ws_in wm_0_67)) (fun _ h9 => h9) (m_gr_spec hc9) dX3_ledgerNumber_12 ?_
    exact k_X3_ledgerNumber_b15 hx hb hr hml hown hts hlocks hin hE hA _ _ _ _ _ _ hrun hR hz hS (lv_sub hl [1, 2] rfl)
  · have hrun := mt_t hrun hc
    refine lv_aload_n hx hb dX3_ledgerNumber_4 rfl (lv_at hl 0 rfl) ?_
    obtain ⟨x5, hc9, hrun⟩ := m_bind hrun
    refine mr_get (C := RX3) (T := TX3) (N := 10) (ci := 2) hx hb hts (fun w q => m_ws_in (wi_X3 w q)) hown hR rfl 5 (by decide) (hts _ (m_ws_in wm_0_66)) (fun _ h9 => h9) (m_gr_spec hc9) dX3_ledgerNumber_5 ?_
    refine lv_goto (tgt := 15) hx hb dX3_ledgerNumber_8 (by decide) ?_
    exact k_X3_ledgerNumber_b15 hx hb hr hml hown hts hlocks hin hE hA _ _ _ _ _ _ hrun hR hz hS (lv_sub hl [1, 2] rfl)
/-! X7_ledger -/
abbrev rm_X7_ledger : Room := { frames := 6, cells := 1, slots := 6, locals := 90 }
theorem yk_X7_ledger : m_K yX7_ledger cX7_ledger 4 (some .int) 3 := ⟨wm_3_12, wm_0_1, by decide +kernel⟩
theorem ys_X7_ledger : Cond.instanceMethod yX7_ledger ∈ wT ∧ Cond.selects RX7 yX7_ledger yX7_ledger ∈ wT := ⟨wm_3_10, wm_3_11⟩
set_option maxRecDepth 100000 in
set_option maxHeartbeats 4000000 in
theorem k_X7_ledger_b25 {p : Program} {l : Launch} {e : Env} {s : State} {m : MethodId} {args : Array Value} {below : List Frame} {meth : Method} {c : Code} {D : va_G} {ids : m_I3} {st : m_T} {A : Nat → Prop} {z : Nat} {r : (String ⊕ Int32)} {hF : mH} (hx : p.tables.exec = Jvm.exec) (hb : c.code = cX7_ledger) (hr : meth.sig.returnType = some .int) (hml : c.maxLocals = 4) (hown : s.vm.findClass RX7 = some m.cls) (hts : ∀ w ∈ (m_ws yX7_ledger cX7_ledger 4 (some .int)), w.before args s = true) (hlocks : meth.locks = false) (hin : meth.name = yX7_ledger.name) (hE : m_EV st A s s.heap) (hA : ∀ q, s.heap.size ≤ q → A q) (hfl : l.stackTraces = false) (hout : ∀ x ∈ c.exceptionTable.toList, ∀ q, covers x q = false) (h : mH) (H : Heap) (locs : List Loc) (ls : Array Slot) (hrun : s_X7_ledger_b25 h = some (r, hF)) (hR : Rl D ids A h s H) (hz : H.size = z) (hS : va_S A s.heap H locs) (hl : lv_has ls 4 []) : W p l e rm_X7_ledger s m args below meth c H locs 0 0 (vx_MQ below (mQxi D ids A r hF) (mXx D ids A r hF) args s 1 6 A) (F0 m 25 ls []) := by
  unfold s_X7_ledger_b25 at hrun
  obtain ⟨rfl, rfl⟩ := Prod.mk.inj (Option.some.inj hrun)
  exact mr_throw (text := "an argument is out of range") hx hb hfl hown hts hml hE yt_72 (List.mem_of_getElem? (i := 0) rfl) hR hS hl.1 dX7_ledger_25 dX7_ledger_28 dX7_ledger_29 dX7_ledger_31 dX7_ledger_34 hout hlocks (Nat.le_of_ble_eq_true rfl) (Nat.le_of_ble_eq_true rfl) (Nat.le_of_ble_eq_true rfl) (Nat.le_of_ble_eq_true rfl) (Nat.le_of_ble_eq_true rfl) (Nat.le_of_ble_eq_true rfl)
set_option maxRecDepth 100000 in
set_option maxHeartbeats 4000000 in
theorem c_X7_ledger (l : Launch) (hfl : l.stackTraces = false) (D : va_G) (ids : m_I3) (st : m_T) (z : Nat) {h : mH} {v0 : Nat} {v1 : Int32} {v2 : Int32} {v3 : Int32} {r : (String ⊕ Int32)} {hF : mH} (hrun : s_X7_ledger h v0 v1 v2 v3 = some (r, hF)) : vx_Met l yX7_ledger (m_ws yX7_ledger cX7_ledger 4 (some .int)) rm_X7_ledger (mPc D ids st [.ref v0, .int v1, .int v2, .int v3] h z) (mQxi D ids (m_A h z) r hF) (mXx D ids (m_A h z) r hF) rm_X7_ledger.cells rm_X7_ledger.slots (m_A h z) := by
  refine mrx_of (cc := cX7_ledger) (maxL := 4) (ret := some .int) (by decide) rfl (Nat.le_of_ble_eq_true rfl) ?_
  intro p e s m below meth c ls hx hb hr hml hown hts hlocks hin hout hR hE hz hl
  have hA : ∀ q, s.heap.size ≤ q → m_A h z q := fun q hq => Or.inr (by rw [← hz]; exact hq)
  have hS : va_S (m_A h z) s.heap s.heap [] := va_S.rf
  have hl : lv_has ls 4 [(0, .ref v0), (1, .int v1), (2, .int v2), (3, .int v3)] := hl
  unfold s_X7_ledger at hrun
  refine lv_iload_n hx hb dX7_ledger_0 rfl (lv_at hl 1 rfl) ?_
  refine lv_iconst (v := 4) hx hb dX7_ledger_1 (by decide) ?_
  obtain ⟨x2, hc9, hrun⟩ := m_bind hrun
  refine mr_calli (mr_runS (As := [.int v1, .int 4]) (rest := []) hx hb hml hown hts (c_X7_isBelow l D ids st z hc9) yk_X7_isBelow ys_X7_isBelow wm_1_225 ⟨(Nat.le_of_ble_eq_true rfl), (Nat.le_of_ble_eq_true rfl)⟩ (mr_recvS hR hE hz hS hA) hl.1 rfl (Nat.le_of_ble_eq_true rfl) dX7_ledger_2 ⟨(Nat.le_of_ble_eq_true rfl), (Nat.le_of_ble_eq_true rfl)⟩) hR hz hS hA (fun H locs hR hz hS => ?_)
  refine lv_if_eq (tgt := 25) hx hb dX7_ledger_5 (by decide) (fun hc => ?_) (fun hc => ?_)
  · have hrun := mt_t hrun hc
    exact k_X7_ledger_b25 hx hb hr hml hown hts hlocks hin hE hA hfl hout _ _ _ _ hrun hR hz hS (lv_sub hl [] rfl)
  · have hrun := mt_f hrun hc
    refine lv_iload_n hx hb dX7_ledger_8 rfl (lv_at hl 2 rfl) ?_
    refine lv_bipush (v := 8) hx hb dX7_ledger_9 (by decide) ?_
    obtain ⟨x11, hc9, hrun⟩ := m_bind hrun
    refine mr_calli (mr_runS (As := [.int v2, .int 8]) (rest := []) hx hb hml hown hts (c_X7_isBelow l D ids st z hc9) yk_X7_isBelow ys_X7_isBelow wm_1_225 ⟨(Nat.le_of_ble_eq_true rfl), (Nat.le_of_ble_eq_true rfl)⟩ (mr_recvS hR hE hz hS hA) hl.1 rfl (Nat.le_of_ble_eq_true rfl) dX7_ledger_11 ⟨(Nat.le_of_ble_eq_true rfl), (Nat.le_of_ble_eq_true rfl)⟩) hR hz hS hA (fun H locs hR hz hS => ?_)
    refine lv_if_eq (tgt := 25) hx hb dX7_ledger_14 (by decide) (fun hc => ?_) (fun hc => ?_)
    · have hrun := mt_t hrun hc
      exact k_X7_ledger_b25 hx hb hr hml hown hts hlocks hin hE hA hfl hout _ _ _ _ hrun hR hz hS (lv_sub hl [] rfl)
    · have hrun := mt_f hrun hc
      refine lv_iload_n hx hb dX7_ledger_17 rfl (lv_at hl 3 rfl) ?_
      refine lv_iconst (v := 2) hx hb dX7_ledger_18 (by decide) ?_
      obtain ⟨x19, hc9, hrun⟩ := m_bind hrun
      refine mr_calli (mr_runS (As := [.int v3, .int 2]) (rest := []) hx hb hml hown hts (c_X7_isBelow l D ids st z hc9) yk_X7_isBelow ys_X7_isBelow wm_1_225 ⟨(Nat.le_of_ble_eq_true rfl), (Nat.le_of_ble_eq_true rfl)⟩ (mr_recvS hR hE hz hS hA) hl.1 rfl (Nat.le_of_ble_eq_true rfl) dX7_ledger_19 ⟨(Nat.le_of_ble_eq_true rfl), (Nat.le_of_ble_eq_true rfl)⟩) hR hz hS hA (fun H locs hR hz hS => ?_)
      refine lv_if_ne (tgt := 35) hx hb dX7_ledger_22 (by decide) (fun hc => ?_) (fun hc => ?_)
      · have hrun := mt_f hrun hc
        refine lv_aload_n hx hb dX7_ledger_35 rfl (lv_at hl 0 rfl) ?_
        obtain ⟨x36, hc9, hrun⟩ := m_bind hrun
        refine mr_get (C := RX7) (T := TX7) (N := 8) (ci := 5) hx hb hts (fun w q => m_ws_in (wi_X7 w q)) hown hR rfl 0 (by decide) (hts _ (m_ws_in wm_1_11)) (fun _ h9 => h9) (m_gr_spec hc9) dX7_ledger_36 ?_
        refine lv_iload_n hx hb dX7_ledger_39 rfl (lv_at hl 1 rfl) ?_
        refine lv_iload_n hx hb dX7_ledger_40 rfl (lv_at hl 2 rfl) ?_
        refine lv_iload_n hx hb dX7_ledger_41 rfl (lv_at hl 3 rfl) ?_
        obtain ⟨_, ho9, hrun⟩ := m_bind hrun
        obtain ⟨fs9, ho9⟩ := m_is_spec ho9
        obtain ⟨x42, hc9, hrun⟩ := m_bind hrun
        refine mr_calli (mr_runV (As := [.int v1, .int v2, .int v3]) (rest := []) hx hb hml hown hts (c_X3_ledgerNumber l D ids st z hc9) yk_X3_ledgerNumber ys_X3_ledgerNumber wm_1_171 ⟨(Nat.le_of_ble_eq_true rfl), (Nat.le_of_ble_eq_true rfl)⟩ (mr_recv (ci := 2) hR hE hz hS hA rfl ho9) hl.1 rfl (Nat.le_of_ble_eq_true rfl) dX7_ledger_42 ⟨(Nat.le_of_ble_eq_true rfl), (Nat.le_of_ble_eq_true rfl)⟩) hR hz hS hA (fun H locs hR hz hS => ?_)
        obtain ⟨rfl, rfl⟩ := Prod.mk.inj (Option.some.inj hrun)
        exact mrx_iret hx hb hr hlocks hR hS dX7_ledger_45 (Nat.le_of_ble_eq_true rfl) (Nat.le_of_ble_eq_true rfl)
      · have hrun := mt_t hrun hc
        exact k_X7_ledger_b25 hx hb hr hml hown hts hlocks hin hE hA hfl hout _ _ _ _ hrun hR hz hS (lv_sub hl [] rfl)
/-! L_ledger -/
abbrev rm_L_ledger : Room := { frames := 7, cells := 1, slots := 6, locals := 113 }
theorem yk_L_ledger : m_KH yL_ledger cL_ledger 6 (some .int) [(0, 12, 15, 13)] 5 := ⟨wm_3_8, wm_0_0, by decide +kernel⟩
theorem ys_L_ledger : Cond.static yL_ledger ∈ wT := wm_3_7
set_option maxRecDepth 100000 in
set_option maxHeartbeats 4000000 in
theorem c_L_ledger (l : Launch) (hfl : l.stackTraces = false) (D : va_G) (ids : m_I3) (st : m_T) (z : Nat) {h : mH} {v0 : Nat} {v1 : Int32} {v2 : Int32} {v3 : Int32} {v4 : Nat} {r : Int32} {hF : mH} (hrun : s_L_ledger h v0 v1 v2 v3 v4 = some (r, hF)) : Met l yL_ledger (m_wsH yL_ledger cL_ledger 6 (some .int) [(0, 12, 15, 13)]) rm_L_ledger (mPc D ids st [.ref v0, .int v1, .int v2, .int v3, .ref v4] h z) (mQwi D ids (m_A h z) r hF) rm_L_ledger.cells rm_L_ledger.slots (m_A h z) := by
  refine mr_ofH (cc := cL_ledger) (maxL := 6) (ret := some .int) (hh := [(0, 12, 15, 13)]) (by decide) rfl (Nat.le_of_ble_eq_true rfl) ?_
  intro p e s m below meth c ls hx hb hr hml hown hts hlocks hin htab hR hE hz hl
  have hA : ∀ q, s.heap.size ≤ q → m_A h z q := fun q hq => Or.inr (by rw [← hz]; exact hq)
  have hS : va_S (m_A h z) s.heap s.heap [] := va_S.rf
  have hl : lv_has ls 6 [(0, .ref v0), (1, .int v1), (2, .int v2), (3, .int v3), (4, .ref v4)] := hl
  unfold s_L_ledger at hrun
  refine lv_aload hx hb dL_ledger_0 (lv_at hl 4 rfl) ?_
  refine lv_iconst (v := 0) hx hb dL_ledger_2 (by decide) ?_
  refine lv_aload_n hx hb dL_ledger_3 rfl (lv_at hl 0 rfl) ?_
  refine lv_iload_n hx hb dL_ledger_4 rfl (lv_at hl 1 rfl) ?_
  refine lv_iload_n hx hb dL_ledger_5 rfl (lv_at hl 2 rfl) ?_
  refine lv_iload_n hx hb dL_ledger_6 rfl (lv_at hl 3 rfl) ?_
  obtain ⟨_, ho9, hrun⟩ := m_bind hrun
  obtain ⟨fs9, ho9⟩ := m_is_spec ho9
  obtain ⟨⟨r7, h7⟩, hc9, hrun⟩ := m_bind hrun
  refine mrx_calli (mrx_runV (As := [.int v1, .int v2, .int v3]) (rest := [.int 0, .ref v4]) hx hb hml hown hts (c_X7_ledger l hfl D ids st z hc9) yk_X7_ledger ys_X7_ledger wm_3_9 ⟨(Nat.le_of_ble_eq_true rfl), (Nat.le_of_ble_eq_true rfl)⟩ (mr_recv (ci := 5) hR hE hz hS hA rfl ho9) hl.1 rfl (Nat.le_of_ble_eq_true rfl) dL_ledger_7 ⟨(Nat.le_of_ble_eq_true rfl), (Nat.le_of_ble_eq_true rfl)⟩) hR hz hS hA (fun E9 ce9 q9 H locs hr9 hR hS hce hcv hcl => ?_) (fun x7 H locs hr9 hR hS => ?_)
  · subst hr9
    obtain ⟨z, hz⟩ : ∃ z, H.size = z := ⟨_, rfl⟩
    by_cases hc0 : E9 = "java/lang/IllegalArgumentException"
    · have hrun := mt_t hrun hc0
      rw [hc0] at hcl
      refine mr_catch0 hown htab (by decide) (by decide) (hts _ (List.mem_cons_of_mem _ wm_1_216)) hE.2.2.2.2.2.2.2 (List.mem_of_getElem? (i := 0) rfl) hce hcv hcl ?_
      refine lv_astore (lv' := [(5, .ref q9), (0, .ref v0), (1, .int v1), (2, .int v2), (3, .int v3), (4, .ref v4)]) hx hb dL_ledger_15 hl (by decide) rfl (fun ls hl => ?_)
      refine lv_iconst (v := 1) hx hb dL_ledger_17 (by decide) ?_
      obtain ⟨rfl, rfl⟩ := Prod.mk.inj (Option.some.inj hrun)
      exact mrw_iret hx hb hr hlocks hR hS dL_ledger_18 (Nat.le_of_ble_eq_true rfl) (Nat.le_of_ble_eq_true rfl)
    have hrun := mt_f hrun hc0
    exact absurd hrun (fun h9 => nomatch h9)
  · subst hr9
    obtain ⟨z, hz⟩ : ∃ z, H.size = z := ⟨_, rfl⟩
    refine lv_i2l (v := x7.toInt64) hx hb dL_ledger_10 rfl ?_
    obtain ⟨h11, hc9, hrun⟩ := m_bind hrun
    refine mr_last hx hb hR hz hS hc9 dL_ledger_11 (fun H locs hR hz hS => ?_)
    refine lv_goto (tgt := 19) hx hb dL_ledger_12 (by decide) ?_
    refine lv_iconst (v := 0) hx hb dL_ledger_19 (by decide) ?_
    obtain ⟨rfl, rfl⟩ := Prod.mk.inj (Option.some.inj hrun)
    exact mrw_iret hx hb hr hlocks hR hS dL_ledger_20 (Nat.le_of_ble_eq_true rfl) (Nat.le_of_ble_eq_true rfl)
/-! X7_isWalletDay -/
abbrev rm_X7_isWalletDay : Room := { frames := 1, cells := 0, slots := 0, locals := 21 }
theorem yk_X7_isWalletDay : m_K yX7_isWalletDay cX7_isWalletDay 2 (some .boolean) 2 := ⟨wm_1_224, wm_0_1, by decide +kernel⟩
theorem ys_X7_isWalletDay : Cond.static yX7_isWalletDay ∈ wT := wm_1_223
set_option maxRecDepth 100000 in
set_option maxHeartbeats 4000000 in
theorem k_X7_isWalletDay_b22 {p : Program} {l : Launch} {e : Env} {s : State} {m : MethodId} {args : Array Value} {below : List Frame} {meth : Method} {c : Code} {D : va_G} {ids : m_I3} {st : m_T} {A : Nat → Prop} {z : Nat} {r : Int32} (hx : p.tables.exec = Jvm.exec) (hb : c.code = cX7_isWalletDay) (hr : meth.sig.returnType = some .boolean) (hml : c.maxLocals = 2) (hown : s.vm.findClass RX7 = some m.cls) (hts : ∀ w ∈ (m_ws yX7_isWalletDay cX7_isWalletDay 2 (some .boolean)), w.before args s = true) (hlocks : meth.locks = false) (hin : meth.name = yX7_isWalletDay.name) (hE : m_EV st A s s.heap) (hA : ∀ q, s.heap.size ≤ q → A q) {h : mH} (t0 : Int32) (H : Heap) (locs : List Loc) (ls : Array Slot) (hrun : s_X7_isWalletDay_b22 h t0 = some r) (hR : Rl D ids A h s H) (hz : H.size = z) (hS : va_S A s.heap H locs) (hl : lv_has ls 2 []) : W p l e rm_X7_isWalletDay s m args below meth c H locs 0 0 (MQ below (mQi D ids A r h z) args s 0 0 A) (F0 m 22 ls [.int t0]) := by
  unfold s_X7_isWalletDay_b22 at hrun
  obtain ⟨w9, hzr, hrun⟩ := m_bind hrun
  obtain rfl := Option.some.inj hrun
  exact mr_zret hzr hx hb hr hlocks hR hz hS dX7_isWalletDay_22
set_option maxRecDepth 100000 in
set_option maxHeartbeats 4000000 in
theorem k_X7_isWalletDay_b21 {p : Program} {l : Launch} {e : Env} {s : State} {m : MethodId} {args : Array Value} {below : List Frame} {meth : Method} {c : Code} {D : va_G} {ids : m_I3} {st : m_T} {A : Nat → Prop} {z : Nat} {r : Int32} (hx : p.tables.exec = Jvm.exec) (hb : c.code = cX7_isWalletDay) (hr : meth.sig.returnType = some .boolean) (hml : c.maxLocals = 2) (hown : s.vm.findClass RX7 = some m.cls) (hts : ∀ w ∈ (m_ws yX7_isWalletDay cX7_isWalletDay 2 (some .boolean)), w.before args s = true) (hlocks : meth.locks = false) (hin : meth.name = yX7_isWalletDay.name) (hE : m_EV st A s s.heap) (hA : ∀ q, s.heap.size ≤ q → A q) {h : mH} (H : Heap) (locs : List Loc) (ls : Array Slot) (hrun : s_X7_isWalletDay_b21 h  = some r) (hR : Rl D ids A h s H) (hz : H.size = z) (hS : va_S A s.heap H locs) (hl : lv_has ls 2 []) : W p l e rm_X7_isWalletDay s m args below meth c H locs 0 0 (MQ below (mQi D ids A r h z) args s 0 0 A) (F0 m 21 ls []) := by
  unfold s_X7_isWalletDay_b21 at hrun
  refine lv_iconst (v := 0) hx hb dX7_isWalletDay_21 (by decide) ?_
  exact k_X7_isWalletDay_b22 hx hb hr hml hown hts hlocks hin hE hA _ _ _ _ hrun hR hz hS (lv_sub hl [] rfl)
set_option maxRecDepth 100000 in
set_option maxHeartbeats 4000000 in
theorem c_X7_isWalletDay (l : Launch) (D : va_G) (ids : m_I3) (st : m_T) (z : Nat) {h : mH} {v0 : Int32} {v1 : Int32} {r : Int32} (hrun : s_X7_isWalletDay h v0 v1 = some r) : Met l yX7_isWalletDay (m_ws yX7_isWalletDay cX7_isWalletDay 2 (some .boolean)) rm_X7_isWalletDay (mPc D ids st [.int v0, .int v1] h z) (mQi D ids (m_A h z) r h z) rm_X7_isWalletDay.cells rm_X7_isWalletDay.slots (m_A h z) := by
  refine mr_of (cc := cX7_isWalletDay) (maxL := 2) (ret := some .boolean) (by decide) rfl (Nat.le_of_ble_eq_true rfl) ?_
  intro p e s m below meth c ls hx hb hr hml hown hts hlocks hin hR hE hz hl
  have hA : ∀ q, s.heap.size ≤ q → m_A h z q := fun q hq => Or.inr (by rw [← hz]; exact hq)
  have hS : va_S (m_A h z) s.heap s.heap [] := va_S.rf
  have hl : lv_has ls 2 [(0, .int v0), (1, .int v1)] := hl
  unfold s_X7_isWalletDay at hrun
  refine lv_iload_n hx hb dX7_isWalletDay_0 rfl (lv_at hl 0 rfl) ?_
  refine lv_iconst (v := 4) hx hb dX7_isWalletDay_1 (by decide) ?_
  obtain ⟨x2, hc9, hrun⟩ := m_bind hrun
  refine mr_calli (mr_runS (As := [.int v0, .int 4]) (rest := []) hx hb hml hown hts (c_X7_isBelow l D ids st z hc9) yk_X7_isBelow ys_X7_isBelow wm_1_225 ⟨(Nat.le_of_ble_eq_true rfl), (Nat.le_of_ble_eq_true rfl)⟩ (mr_recvS hR hE hz hS hA) hl.1 rfl (Nat.le_of_ble_eq_true rfl) dX7_isWalletDay_2 ⟨(Nat.le_of_ble_eq_true rfl), (Nat.le_of_ble_eq_true rfl)⟩) hR hz hS hA (fun H locs hR hz hS => ?_)
  refine lv_if_eq (tgt := 21) hx hb dX7_isWalletDay_5 (by decide) (fun hc => ?_) (fun hc => ?_)
  · have hrun := mt_t hrun hc
    exact k_X7_isWalletDay_b21 hx hb hr hml hown hts hlocks hin hE hA _ _ _ hrun hR hz hS (lv_sub hl [] rfl)
  · have hrun := mt_f hrun hc
    refine lv_iload_n hx hb dX7_isWalletDay_8 rfl (lv_at hl 1 rfl) ?_
    refine lv_bipush (v := 28) hx hb dX7_isWalletDay_9 (by decide) ?_
    obtain ⟨x11, hc9, hrun⟩ := m_bind hrun
    refine mr_calli (mr_runS (As := [.int v1, .int 28]) (rest := []) hx hb hml hown hts (c_X7_isBelow l D ids st z hc9) yk_X7_isBelow ys_X7_isBelow wm_1_225 ⟨(Nat.le_of_ble_eq_true rfl), (Nat.le_of_ble_eq_true rfl)⟩ (mr_recvS hR hE hz hS hA) hl.1 rfl (Nat.le_of_ble_eq_true rfl) dX7_isWalletDay_11 ⟨(Nat.le_of_ble_eq_true rfl), (Nat.le_of_ble_eq_true rfl)⟩) hR hz hS hA (fun H locs hR hz hS => ?_)
    refine lv_if_eq (tgt := 21) hx hb dX7_isWalletDay_14 (by decide) (fun hc => ?_) (fun hc => ?_)
    · have hrun := mt_t hrun hc
      exact k_X7_isWalletDay_b21 hx hb hr hml hown hts hlocks hin hE hA _ _ _ hrun hR hz hS (lv_sub hl [] rfl)
    · have hrun := mt_f hrun hc
      refine lv_iconst (v := 1) hx hb dX7_isWalletDay_17 (by decide) ?_
      refine lv_goto (tgt := 22) hx hb dX7_isWalletDay_18 (by decide) ?_
      exact k_X7_isWalletDay_b22 hx hb hr hml hown hts hlocks hin hE hA _ _ _ _ hrun hR hz hS (lv_sub hl [] rfl)
/-! X7_isMinuteStation -/
abbrev rm_X7_isMinuteStation : Room := { frames := 1, cells := 0, slots := 0, locals := 21 }
theorem yk_X7_isMinuteStation : m_K yX7_isMinuteStation cX7_isMinuteStation 2 (some .boolean) 2 := ⟨wm_1_228, wm_0_1, by decide +kernel⟩
theorem ys_X7_isMinuteStation : Cond.static yX7_isMinuteStation ∈ wT := wm_1_227
set_option maxRecDepth 100000 in
set_option maxHeartbeats 4000000 in
theorem k_X7_isMinuteStation_b24 {p : Program} {l : Launch} {e : Env} {s : State} {m : MethodId} {args : Array Value} {below : List Frame} {meth : Method} {c : Code} {D : va_G} {ids : m_I3} {st : m_T} {A : Nat → Prop} {z : Nat} {r : Int32} (hx : p.tables.exec = Jvm.exec) (hb : c.code = cX7_isMinuteStation) (hr : meth.sig.returnType = some .boolean) (hml : c.maxLocals = 2) (hown : s.vm.findClass RX7 = some m.cls) (hts : ∀ w ∈ (m_ws yX7_isMinuteStation cX7_isMinuteStation 2 (some .boolean)), w.before args s = true) (hlocks : meth.locks = false) (hin : meth.name = yX7_isMinuteStation.name) (hE : m_EV st A s s.heap) (hA : ∀ q, s.heap.size ≤ q → A q) {h : mH} (t0 : Int32) (H : Heap) (locs : List Loc) (ls : Array Slot) (hrun : s_X7_isMinuteStation_b24 h t0 = some r) (hR : Rl D ids A h s H) (hz : H.size = z) (hS : va_S A s.heap H locs) (hl : lv_has ls 2 []) : W p l e rm_X7_isMinuteStation s m args below meth c H locs 0 0 (MQ below (mQi D ids A r h z) args s 0 0 A) (F0 m 24 ls [.int t0]) := by
  unfold s_X7_isMinuteStation_b24 at hrun
  obtain ⟨w9, hzr, hrun⟩ := m_bind hrun
  obtain rfl := Option.some.inj hrun
  exact mr_zret hzr hx hb hr hlocks hR hz hS dX7_isMinuteStation_24
set_option maxRecDepth 100000 in
set_option maxHeartbeats 4000000 in
theorem k_X7_isMinuteStation_b23 {p : Program} {l : Launch} {e : Env} {s : State} {m : MethodId} {args : Array Value} {below : List Frame} {meth : Method} {c : Code} {D : va_G} {ids : m_I3} {st : m_T} {A : Nat → Prop} {z : Nat} {r : Int32} (hx : p.tables.exec = Jvm.exec) (hb : c.code = cX7_isMinuteStation) (hr : meth.sig.returnType = some .boolean) (hml : c.maxLocals = 2) (hown : s.vm.findClass RX7 = some m.cls) (hts : ∀ w ∈ (m_ws yX7_isMinuteStation cX7_isMinuteStation 2 (some .boolean)), w.before args s = true) (hlocks : meth.locks = false) (hin : meth.name = yX7_isMinuteStation.name) (hE : m_EV st A s s.heap) (hA : ∀ q, s.heap.size ≤ q → A q) {h : mH} (H : Heap) (locs : List Loc) (ls : Array Slot) (hrun : s_X7_isMinuteStation_b23 h  = some r) (hR : Rl D ids A h s H) (hz : H.size = z) (hS : va_S A s.heap H locs) (hl : lv_has ls 2 []) : W p l e rm_X7_isMinuteStation s m args below meth c H locs 0 0 (MQ below (mQi D ids A r h z) args s 0 0 A) (F0 m 23 ls []) := by
  unfold s_X7_isMinuteStation_b23 at hrun
  refine lv_iconst (v := 0) hx hb dX7_isMinuteStation_23 (by decide) ?_
  exact k_X7_isMinuteStation_b24 hx hb hr hml hown hts hlocks hin hE hA _ _ _ _ hrun hR hz hS (lv_sub hl [] rfl)
set_option maxRecDepth 100000 in
set_option maxHeartbeats 4000000 in
theorem c_X7_isMinuteStation (l : Launch) (D : va_G) (ids : m_I3) (st : m_T) (z : Nat) {h : mH} {v0 : Int32} {v1 : Int32} {r : Int32} (hrun : s_X7_isMinuteStation h v0 v1 = some r) : Met l yX7_isMinuteStation (m_ws yX7_isMinuteStation cX7_isMinuteStation 2 (some .boolean)) rm_X7_isMinuteStation (mPc D ids st [.int v0, .int v1] h z) (mQi D ids (m_A h z) r h z) rm_X7_isMinuteStation.cells rm_X7_isMinuteStation.slots (m_A h z) := by
  refine mr_of (cc := cX7_isMinuteStation) (maxL := 2) (ret := some .boolean) (by decide) rfl (Nat.le_of_ble_eq_true rfl) ?_
  intro p e s m below meth c ls hx hb hr hml hown hts hlocks hin hR hE hz hl
  have hA : ∀ q, s.heap.size ≤ q → m_A h z q := fun q hq => Or.inr (by rw [← hz]; exact hq)
  have hS : va_S (m_A h z) s.heap s.heap [] := va_S.rf
  have hl : lv_has ls 2 [(0, .int v0), (1, .int v1)] := hl
  unfold s_X7_isMinuteStation at hrun
  refine lv_iload_n hx hb dX7_isMinuteStation_0 rfl (lv_at hl 0 rfl) ?_
  refine lv_sipush (v := 1440) hx hb dX7_isMinuteStation_1 (by decide) ?_
  obtain ⟨x4, hc9, hrun⟩ := m_bind hrun
  refine mr_calli (mr_runS (As := [.int v0, .int 1440]) (rest := []) hx hb hml hown hts (c_X7_isBelow l D ids st z hc9) yk_X7_isBelow ys_X7_isBelow wm_1_225 ⟨(Nat.le_of_ble_eq_true rfl), (Nat.le_of_ble_eq_true rfl)⟩ (mr_recvS hR hE hz hS hA) hl.1 rfl (Nat.le_of_ble_eq_true rfl) dX7_isMinuteStation_4 ⟨(Nat.le_of_ble_eq_true rfl), (Nat.le_of_ble_eq_true rfl)⟩) hR hz hS hA (fun H locs hR hz hS => ?_)
  refine lv_if_eq (tgt := 23) hx hb dX7_isMinuteStation_7 (by decide) (fun hc => ?_) (fun hc => ?_)
  · have hrun := mt_t hrun hc
    exact k_X7_isMinuteStation_b23 hx hb hr hml hown hts hlocks hin hE hA _ _ _ hrun hR hz hS (lv_sub hl [] rfl)
  · have hrun := mt_f hrun hc
    refine lv_iload_n hx hb dX7_isMinuteStation_10 rfl (lv_at hl 1 rfl) ?_
    refine lv_bipush (v := 10) hx hb dX7_isMinuteStation_11 (by decide) ?_
    obtain ⟨x13, hc9, hrun⟩ := m_bind hrun
    refine mr_calli (mr_runS (As := [.int v1, .int 10]) (rest := []) hx hb hml hown hts (c_X7_isBelow l D ids st z hc9) yk_X7_isBelow ys_X7_isBelow wm_1_225 ⟨(Nat.le_of_ble_eq_true rfl), (Nat.le_of_ble_eq_true rfl)⟩ (mr_recvS hR hE hz hS hA) hl.1 rfl (Nat.le_of_ble_eq_true rfl) dX7_isMinuteStation_13 ⟨(Nat.le_of_ble_eq_true rfl), (Nat.le_of_ble_eq_true rfl)⟩) hR hz hS hA (fun H locs hR hz hS => ?_)
    refine lv_if_eq (tgt := 23) hx hb dX7_isMinuteStation_16 (by decide) (fun hc => ?_) (fun hc => ?_)
    · have hrun := mt_t hrun hc
      exact k_X7_isMinuteStation_b23 hx hb hr hml hown hts hlocks hin hE hA _ _ _ hrun hR hz hS (lv_sub hl [] rfl)
    · have hrun := mt_f hrun hc
      refine lv_iconst (v := 1) hx hb dX7_isMinuteStation_19 (by decide) ?_
      refine lv_goto (tgt := 24) hx hb dX7_isMinuteStation_20 (by decide) ?_
      exact k_X7_isMinuteStation_b24 hx hb hr hml hown hts hlocks hin hE hA _ _ _ _ hrun hR hz hS (lv_sub hl [] rfl)
/-! X4_make -/
abbrev rm_X4_make : Room := { frames := 0, cells := 0, slots := 0, locals := 0 }
theorem yk_X4_make : m_K yX4_make cX4_make 5 (some .int) 5 := ⟨wm_1_74, wm_0_8, by decide +kernel⟩
theorem ys_X4_make : Cond.static yX4_make ∈ wT := wm_1_73
set_option maxRecDepth 100000 in
set_option maxHeartbeats 4000000 in
theorem k_X4_make_b28 {p : Program} {l : Launch} {e : Env} {s : State} {m : MethodId} {args : Array Value} {below : List Frame} {meth : Method} {c : Code} {D : va_G} {ids : m_I3} {st : m_T} {A : Nat → Prop} {z : Nat} {r : Int32} (hx : p.tables.exec = Jvm.exec) (hb : c.code = cX4_make) (hr : meth.sig.returnType = some .int) (hml : c.maxLocals = 5) (hown : s.vm.findClass RX4 = some m.cls) (hts : ∀ w ∈ (m_ws yX4_make cX4_make 5 (some .int)), w.before args s = true) (hlocks : meth.locks = false) (hin : meth.name = yX4_make.name) (hE : m_EV st A s s.heap) (hA : ∀ q, s.heap.size ≤ q → A q) {h : mH} (t0 : Int32) (t1 : Int32) (H : Heap) (locs : List Loc) (ls : Array Slot) (hrun : s_X4_make_b28 h t0 t1 = some r) (hR : Rl D ids A h s H) (hz : H.size = z) (hS : va_S A s.heap H locs) (hl : lv_has ls 5 []) : W p l e rm_X4_make s m args below meth c H locs 0 0 (MQ below (mQi D ids A r h z) args s 0 0 A) (F0 m 28 ls [.int t1, .int t0]) := by
  unfold s_X4_make_b28 at hrun
  refine lv_ior hx hb dX4_make_28 ?_
  obtain rfl := Option.some.inj hrun
  exact mr_iret hx hb hr hlocks hR hz hS dX4_make_29
set_option maxRecDepth 100000 in
set_option maxHeartbeats 4000000 in
theorem c_X4_make (l : Launch) (D : va_G) (ids : m_I3) (st : m_T) (z : Nat) {h : mH} {v0 : Int32} {v1 : Int32} {v2 : Int32} {v3 : Int32} {v4 : Int32} {r : Int32} (hrun : s_X4_make h v0 v1 v2 v3 v4 = some r) : Met l yX4_make (m_ws yX4_make cX4_make 5 (some .int)) rm_X4_make (mPc D ids st [.int v0, .int v1, .int v2, .int v3, .int v4] h z) (mQi D ids (m_A h z) r h z) rm_X4_make.cells rm_X4_make.slots (m_A h z) := by
  refine mr_of (cc := cX4_make) (maxL := 5) (ret := some .int) (by decide) rfl (Nat.le_of_ble_eq_true rfl) ?_
  intro p e s m below meth c ls hx hb hr hml hown hts hlocks hin hR hE hz hl
  have hA : ∀ q, s.heap.size ≤ q → m_A h z q := fun q hq => Or.inr (by rw [← hz]; exact hq)
  have hS : va_S (m_A h z) s.heap s.heap [] := va_S.rf
  have hl : lv_has ls 5 [(0, .int v0), (1, .int v1), (2, .int v2), (3, .int v3), (4, .int v4)] := hl
  unfold s_X4_make at hrun
  refine lv_iload_n hx hb dX4_make_0 rfl (lv_at hl 1 rfl) ?_
  refine lv_bipush (v := 19) hx hb dX4_make_1 (by decide) ?_
  refine lv_ishl hx hb dX4_make_3 ?_
  refine lv_iload_n hx hb dX4_make_4 rfl (lv_at hl 2 rfl) ?_
  refine lv_bipush (v := 8) hx hb dX4_make_5 (by decide) ?_
  refine lv_ishl hx hb dX4_make_7 ?_
  refine lv_ior hx hb dX4_make_8 ?_
  refine lv_iload_n hx hb dX4_make_9 rfl (lv_at hl 0 rfl) ?_
  refine lv_bipush (v := 6) hx hb dX4_make_10 (by decide) ?_
  refine lv_ishl hx hb dX4_make_12 ?_
  refine lv_ior hx hb dX4_make_13 ?_
  refine lv_iload_n hx hb dX4_make_14 rfl (lv_at hl 3 rfl) ?_
  refine lv_iconst (v := 2) hx hb dX4_make_15 (by decide) ?_
  refine lv_ishl hx hb dX4_make_16 ?_
  refine lv_ior hx hb dX4_make_17 ?_
  refine lv_iload hx hb dX4_make_18 (lv_at hl 4 rfl) ?_
  refine lv_if_eq (tgt := 27) hx hb dX4_make_20 (by decide) (fun hc => ?_) (fun hc => ?_)
  · have hrun := mt_t hrun hc
    refine lv_iconst (v := 0) hx hb dX4_make_27 (by decide) ?_
    exact k_X4_make_b28 hx hb hr hml hown hts hlocks hin hE hA _ _ _ _ _ hrun hR hz hS (lv_sub hl [] rfl)
  · have hrun := mt_f hrun hc
    refine lv_iconst (v := 2) hx hb dX4_make_23 (by decide) ?_
    refine lv_goto (tgt := 28) hx hb dX4_make_24 (by decide) ?_
    exact k_X4_make_b28 hx hb hr hml hown hts hlocks hin hE hA _ _ _ _ _ hrun hR hz hS (lv_sub hl [] rfl)
/-! X1_copy -/
abbrev rm_X1_copy : Room := { frames := 0, cells := 0, slots := 0, locals := 0 }
theorem yk_X1_copy : m_K yX1_copy cX1_copy 3 (none) 2 := ⟨wm_0_52, wm_0_4, by decide +kernel⟩
theorem ys_X1_copy : Cond.static yX1_copy ∈ wT := wm_0_51
set_option maxRecDepth 100000 in
set_option maxHeartbeats 4000000 in
theorem k_X1_copy_b26 {p : Program} {l : Launch} {e : Env} {s : State} {m : MethodId} {args : Array Value} {below : List Frame} {meth : Method} {c : Code} {D : va_G} {ids : m_I3} {st : m_T} {A : Nat → Prop} {z : Nat} {hF : mH} (hx : p.tables.exec = Jvm.exec) (hb : c.code = cX1_copy) (hr : meth.sig.returnType = none) (hml : c.maxLocals = 3) (hown : s.vm.findClass RX1 = some m.cls) (hts : ∀ w ∈ (m_ws yX1_copy cX1_copy 3 (none)), w.before args s = true) (hlocks : meth.locks = false) (hin : meth.name = yX1_copy.name) (hE : m_EV st A s s.heap) (hA : ∀ q, s.heap.size ≤ q → A q) (h : mH) (H : Heap) (locs : List Loc) (ls : Array Slot) (hrun : s_X1_copy_b26 h = some hF) (hR : Rl D ids A h s H) (hz : H.size = z) (hS : va_S A s.heap H locs) (hl : lv_has ls 3 []) : W p l e rm_X1_copy s m args below meth c H locs 0 0 (MQ below (mQv D ids A hF z) args s 0 0 A) (F0 m 26 ls []) := by
  unfold s_X1_copy_b26 at hrun
  obtain rfl := Option.some.inj hrun
  exact mr_vret hx hb hr hlocks hR hz hS dX1_copy_26
set_option maxRecDepth 100000 in
set_option maxHeartbeats 4000000 in
theorem k_X1_copy_L2 {p : Program} {l : Launch} {e : Env} {s : State} {m : MethodId} {args : Array Value} {below : List Frame} {meth : Method} {c : Code} {D : va_G} {ids : m_I3} {st : m_T} {A : Nat → Prop} {z : Nat} {hF : mH} (hx : p.tables.exec = Jvm.exec) (hb : c.code = cX1_copy) (hr : meth.sig.returnType = none) (hml : c.maxLocals = 3) (hown : s.vm.findClass RX1 = some m.cls) (hts : ∀ w ∈ (m_ws yX1_copy cX1_copy 3 (none)), w.before args s = true) (hlocks : meth.locks = false) (hin : meth.name = yX1_copy.name) (hE : m_EV st A s s.heap) (hA : ∀ q, s.heap.size ≤ q → A q) : ∀ (n : Nat) (h : mH) (v0 : Nat) (v1 : Nat) (v2 : Int32) (H : Heap) (locs : List Loc) (ls : Array Slot), s_X1_copy_L2 n h v0 v1 v2 = some hF → Rl D ids A h s H → H.size = z → va_S A s.heap H locs → lv_has ls 3 [(0, .ref v0), (1, .ref v1), (2, .int v2)] → W p l e rm_X1_copy s m args below meth c H locs 0 0 (MQ below (mQv D ids A hF z) args s 0 0 A) (F0 m 2 ls []) := by
  intro n
  induction n with
  | zero => intro h v0 v1 v2 H locs ls hrun; exact absurd hrun (by intro h9; cases h9)
  | succ n ih =>
    intro h v0 v1 v2 H locs ls hrun hR hz hS hl
    rw [s_X1_copy_L2] at hrun
    refine lv_iload_n hx hb dX1_copy_2 rfl (lv_at hl 2 rfl) ?_
    refine lv_aload_n hx hb dX1_copy_3 rfl (lv_at hl 0 rfl) ?_
    obtain ⟨x4, hc9, hrun⟩ := m_bind hrun
    refine mr_ilen hx hb hR hc9 dX1_copy_4 ?_
    refine lv_icmp_ge (tgt := 26) hx hb dX1_copy_5 (by decide) (fun hc => ?_) (fun hc => ?_)
    · have hrun := mt_t hrun hc
      exact k_X1_copy_b26 hx hb hr hml hown hts hlocks hin hE hA _ _ _ _ hrun hR hz hS (lv_sub hl [] rfl)
    · have hrun := mt_f hrun hc
      refine lv_iload_n hx hb dX1_copy_8 rfl (lv_at hl 2 rfl) ?_
      refine lv_aload_n hx hb dX1_copy_9 rfl (lv_at hl 1 rfl) ?_
      obtain ⟨x10, hc9, hrun⟩ := m_bind hrun
      refine mr_ilen hx hb hR hc9 dX1_copy_10 ?_
      refine lv_icmp_ge (tgt := 26) hx hb dX1_copy_11 (by decide) (fun hc => ?_) (fun hc => ?_)
      · have hrun := mt_t hrun hc
        exact k_X1_copy_b26 hx hb hr hml hown hts hlocks hin hE hA _ _ _ _ hrun hR hz hS (lv_sub hl [] rfl)
      · have hrun := mt_f hrun hc
        refine lv_aload_n hx hb dX1_copy_14 rfl (lv_at hl 1 rfl) ?_
        refine lv_iload_n hx hb dX1_copy_15 rfl (lv_at hl 2 rfl) ?_
        refine lv_aload_n hx hb dX1_copy_16 rfl (lv_at hl 0 rfl) ?_
        refine lv_iload_n hx hb dX1_copy_17 rfl (lv_at hl 2 rfl) ?_
        obtain ⟨x18, hc9, hrun⟩ := m_bind hrun
        refine mr_iald hx hb hR hc9 dX1_copy_18 ?_
        obtain ⟨h19, hc9, hrun⟩ := m_bind hrun
        refine mr_iast hx hb hR hz hS hc9 dX1_copy_19 (fun H locs hR hz hS => ?_)
        refine lv_iinc (v := v2 + 1) (lv' := [(2, .int (v2 + 1)), (0, .ref v0), (1, .ref v1)]) hx hb dX1_copy_20 hl (k := 2) rfl rfl (by decide) rfl (fun ls hl => ?_)
        refine lv_goto (tgt := 2) hx hb dX1_copy_23 (by decide) ?_
        exact ih _ _ _ _ _ _ _ hrun hR hz hS (lv_sub hl [1, 2, 0] rfl)
set_option maxRecDepth 100000 in
set_option maxHeartbeats 4000000 in
theorem c_X1_copy (l : Launch) (D : va_G) (ids : m_I3) (st : m_T) (z : Nat) {h : mH} {v0 : Nat} {v1 : Nat} {hF : mH} (hrun : s_X1_copy h v0 v1 = some hF) : Met l yX1_copy (m_ws yX1_copy cX1_copy 3 (none)) rm_X1_copy (mPc D ids st [.ref v0, .ref v1] h z) (mQv D ids (m_A h z) hF z) rm_X1_copy.cells rm_X1_copy.slots (m_A h z) := by
  refine mr_of (cc := cX1_copy) (maxL := 3) (ret := none) (by decide) rfl (Nat.le_of_ble_eq_true rfl) ?_
  intro p e s m below meth c ls hx hb hr hml hown hts hlocks hin hR hE hz hl
  have hA : ∀ q, s.heap.size ≤ q → m_A h z q := fun q hq => Or.inr (by rw [← hz]; exact hq)
  have hS : va_S (m_A h z) s.heap s.heap [] := va_S.rf
  have hl : lv_has ls 3 [(0, .ref v0), (1, .ref v1)] := hl
  unfold s_X1_copy at hrun
  refine lv_iconst (v := 0) hx hb dX1_copy_0 (by decide) ?_
  refine lv_istore_n (lv' := [(2, .int 0), (0, .ref v0), (1, .ref v1)]) hx hb dX1_copy_1 rfl hl (by decide) rfl (fun ls hl => ?_)
  exact k_X1_copy_L2 hx hb hr hml hown hts hlocks hin hE hA _ _ _ _ _ _ _ _ hrun hR hz hS (lv_sub hl [1, 2, 0] rfl)
/-! X5_copyFrom -/
abbrev rm_X5_copyFrom : Room := { frames := 1, cells := 0, slots := 0, locals := 22 }
theorem yk_X5_copyFrom : m_K yX5_copyFrom cX5_copyFrom 2 (none) 1 := ⟨wm_1_188, wm_0_3, by decide +kernel⟩
theorem ys_X5_copyFrom : Cond.instanceMethod yX5_copyFrom ∈ wT ∧ Cond.selects RX5 yX5_copyFrom yX5_copyFrom ∈ wT := ⟨wm_1_186, wm_1_187⟩
set_option maxRecDepth 100000 in
set_option maxHeartbeats 4000000 in
theorem c_X5_copyFrom (l : Launch) (D : va_G) (ids : m_I3) (st : m_T) (z : Nat) {h : mH} {v0 : Nat} {v1 : Nat} {hF : mH} (hrun : s_X5_copyFrom h v0 v1 = some hF) : Met l yX5_copyFrom (m_ws yX5_copyFrom cX5_copyFrom 2 (none)) rm_X5_copyFrom (mPc D ids st [.ref v0, .ref v1] h z) (mQv D ids (m_A h z) hF z) rm_X5_copyFrom.cells rm_X5_copyFrom.slots (m_A h z) := by
  refine mr_of (cc := cX5_copyFrom) (maxL := 2) (ret := none) (by decide) rfl (Nat.le_of_ble_eq_true rfl) ?_
  intro p e s m below meth c ls hx hb hr hml hown hts hlocks hin hR hE hz hl
  have hA : ∀ q, s.heap.size ≤ q → m_A h z q := fun q hq => Or.inr (by rw [← hz]; exact hq)
  have hS : va_S (m_A h z) s.heap s.heap [] := va_S.rf
  have hl : lv_has ls 2 [(0, .ref v0), (1, .ref v1)] := hl
  unfold s_X5_copyFrom at hrun
  refine lv_aload_n hx hb dX5_copyFrom_0 rfl (lv_at hl 1 rfl) ?_
  obtain ⟨x1, hc9, hrun⟩ := m_bind hrun
  refine mr_get (C := RX5) (T := TX5) (N := 2) (ci := 3) hx hb hts (fun w q => m_ws_in (wi_X5 w q)) hown hR rfl 0 (by decide) (hts _ (m_ws_in wm_0_38)) (fun _ h9 => h9) (m_gr_spec hc9) dX5_copyFrom_1 ?_
  refine lv_aload_n hx hb dX5_copyFrom_4 rfl (lv_at hl 0 rfl) ?_
  obtain ⟨x5, hc9, hrun⟩ := m_bind hrun
  refine mr_get (C := RX5) (T := TX5) (N := 2) (ci := 3) hx hb hts (fun w q => m_ws_in (wi_X5 w q)) hown hR rfl 0 (by decide) (hts _ (m_ws_in wm_0_38)) (fun _ h9 => h9) (m_gr_spec hc9) dX5_copyFrom_5 ?_
  obtain ⟨h8, hc9, hrun⟩ := m_bind hrun
  refine mr_callv (mr_runS (As := [.ref x1, .ref x5]) (rest := []) hx hb hml hown hts (c_X1_copy l D ids st z hc9) yk_X1_copy ys_X1_copy wm_1_189 ⟨(Nat.le_of_ble_eq_true rfl), (Nat.le_of_ble_eq_true rfl)⟩ (mr_recvS hR hE hz hS hA) hl.1 rfl (Nat.le_of_ble_eq_true rfl) dX5_copyFrom_8 ⟨(Nat.le_of_ble_eq_true rfl), (Nat.le_of_ble_eq_true rfl)⟩) hR hz hS hA (fun H locs hR hz hS => ?_)
  refine lv_aload_n hx hb dX5_copyFrom_11 rfl (lv_at hl 0 rfl) ?_
  refine lv_aload_n hx hb dX5_copyFrom_12 rfl (lv_at hl 1 rfl) ?_
  obtain ⟨x13, hc9, hrun⟩ := m_bind hrun
  refine mr_get (C := RX5) (T := TX5) (N := 2) (ci := 3) hx hb hts (fun w q => m_ws_in (wi_X5 w q)) hown hR rfl 1 (by decide) (hts _ (m_ws_in wm_0_39)) (fun _ h9 => h9) (m_gi_spec hc9) dX5_copyFrom_13 ?_
  obtain ⟨h16, hc9, hrun⟩ := m_bind hrun
  refine mr_put (C := RX5) (T := TX5) (N := 2) (ci := 3) hx hb hts (fun w q => m_ws_in (wi_X5 w q)) tyX5 tyX5_ok nmX5 hown hR hz hS rfl 1 (by decide) (hts _ (m_ws_in wm_0_39)) (fun _ h9 => h9) rfl (tyX5_ok 1 (by decide)) rfl rfl hc9 dX5_copyFrom_16 (fun H locs hR hz hS => ?_)
  obtain rfl := Option.some.inj hrun
  exact mr_vret hx hb hr hlocks hR hz hS dX5_copyFrom_19
/-! X5_tapAt -/
abbrev rm_X5_tapAt : Room := { frames := 1, cells := 0, slots := 0, locals := 21 }
theorem yk_X5_tapAt : m_K yX5_tapAt cX5_tapAt 2 (some .int) 1 := ⟨wm_0_205, wm_0_3, by decide +kernel⟩
theorem ys_X5_tapAt : Cond.instanceMethod yX5_tapAt ∈ wT ∧ Cond.selects RX5 yX5_tapAt yX5_tapAt ∈ wT := ⟨wm_0_203, wm_0_204⟩
set_option maxRecDepth 100000 in
set_option maxHeartbeats 4000000 in
theorem c_X5_tapAt (l : Launch) (D : va_G) (ids : m_I3) (st : m_T) (z : Nat) {h : mH} {v0 : Nat} {v1 : Int32} {r : Int32} (hrun : s_X5_tapAt h v0 v1 = some r) : Met l yX5_tapAt (m_ws yX5_tapAt cX5_tapAt 2 (some .int)) rm_X5_tapAt (mPc D ids st [.ref v0, .int v1] h z) (mQi D ids (m_A h z) r h z) rm_X5_tapAt.cells rm_X5_tapAt.slots (m_A h z) := by
  refine mr_of (cc := cX5_tapAt) (maxL := 2) (ret := some .int) (by decide) rfl (Nat.le_of_ble_eq_true rfl) ?_
  intro p e s m below meth c ls hx hb hr hml hown hts hlocks hin hR hE hz hl
  have hA : ∀ q, s.heap.size ≤ q → m_A h z q := fun q hq => Or.inr (by rw [← hz]; exact hq)
  have hS : va_S (m_A h z) s.heap s.heap [] := va_S.rf
  have hl : lv_has ls 2 [(0, .ref v0), (1, .int v1)] := hl
  unfold s_X5_tapAt at hrun
  refine lv_aload_n hx hb dX5_tapAt_0 rfl (lv_at hl 0 rfl) ?_
  obtain ⟨x1, hc9, hrun⟩ := m_bind hrun
  refine mr_get (C := RX5) (T := TX5) (N := 2) (ci := 3) hx hb hts (fun w q => m_ws_in (wi_X5 w q)) hown hR rfl 0 (by decide) (hts _ (m_ws_in wm_0_38)) (fun _ h9 => h9) (m_gr_spec hc9) dX5_tapAt_1 ?_
  refine lv_iload_n hx hb dX5_tapAt_4 rfl (lv_at hl 1 rfl) ?_
  obtain ⟨x5, hc9, hrun⟩ := m_bind hrun
  refine mr_calli (mr_runS (As := [.ref x1, .int v1]) (rest := []) hx hb hml hown hts (c_X1_at l D ids st z hc9) yk_X1_at ys_X1_at wm_0_206 ⟨(Nat.le_of_ble_eq_true rfl), (Nat.le_of_ble_eq_true rfl)⟩ (mr_recvS hR hE hz hS hA) hl.1 rfl (Nat.le_of_ble_eq_true rfl) dX5_tapAt_5 ⟨(Nat.le_of_ble_eq_true rfl), (Nat.le_of_ble_eq_true rfl)⟩) hR hz hS hA (fun H locs hR hz hS => ?_)
  obtain rfl := Option.some.inj hrun
  exact mr_iret hx hb hr hlocks hR hz hS dX5_tapAt_8
/-! X4_timeOf -/
abbrev rm_X4_timeOf : Room := { frames := 0, cells := 0, slots := 0, locals := 0 }
theorem yk_X4_timeOf : m_K yX4_timeOf cX4_timeOf 1 (some .int) 1 := ⟨wm_1_197, wm_0_8, by decide +kernel⟩
theorem ys_X4_timeOf : Cond.static yX4_timeOf ∈ wT := wm_1_196
set_option maxRecDepth 100000 in
set_option maxHeartbeats 4000000 in
theorem c_X4_timeOf (l : Launch) (D : va_G) (ids : m_I3) (st : m_T) (z : Nat) {h : mH} {v0 : Int32} {r : Int32} (hrun : s_X4_timeOf h v0 = some r) : Met l yX4_timeOf (m_ws yX4_timeOf cX4_timeOf 1 (some .int)) rm_X4_timeOf (mPc D ids st [.int v0] h z) (mQi D ids (m_A h z) r h z) rm_X4_timeOf.cells rm_X4_timeOf.slots (m_A h z) := by
  refine mr_of (cc := cX4_timeOf) (maxL := 1) (ret := some .int) (by decide) rfl (Nat.le_of_ble_eq_true rfl) ?_
  intro p e s m below meth c ls hx hb hr hml hown hts hlocks hin hR hE hz hl
  have hA : ∀ q, s.heap.size ≤ q → m_A h z q := fun q hq => Or.inr (by rw [← hz]; exact hq)
  have hS : va_S (m_A h z) s.heap s.heap [] := va_S.rf
  have hl : lv_has ls 1 [(0, .int v0)] := hl
  unfold s_X4_timeOf at hrun
  refine lv_iload_n hx hb dX4_timeOf_0 rfl (lv_at hl 0 rfl) ?_
  refine lv_bipush (v := 8) hx hb dX4_timeOf_1 (by decide) ?_
  refine lv_ishr hx hb dX4_timeOf_3 ?_
  obtain rfl := Option.some.inj hrun
  exact mr_iret hx hb hr hlocks hR hz hS dX4_timeOf_4
/-! X1_put -/
abbrev rm_X1_put : Room := { frames := 0, cells := 0, slots := 0, locals := 0 }
theorem yk_X1_put : m_K yX1_put cX1_put 3 (none) 3 := ⟨wm_0_224, wm_0_4, by decide +kernel⟩
theorem ys_X1_put : Cond.static yX1_put ∈ wT := wm_0_223
set_option maxRecDepth 100000 in
set_option maxHeartbeats 4000000 in
theorem k_X1_put_b14 {p : Program} {l : Launch} {e : Env} {s : State} {m : MethodId} {args : Array Value} {below : List Frame} {meth : Method} {c : Code} {D : va_G} {ids : m_I3} {st : m_T} {A : Nat → Prop} {z : Nat} {hF : mH} (hx : p.tables.exec = Jvm.exec) (hb : c.code = cX1_put) (hr : meth.sig.returnType = none) (hml : c.maxLocals = 3) (hown : s.vm.findClass RX1 = some m.cls) (hts : ∀ w ∈ (m_ws yX1_put cX1_put 3 (none)), w.before args s = true) (hlocks : meth.locks = false) (hin : meth.name = yX1_put.name) (hE : m_EV st A s s.heap) (hA : ∀ q, s.heap.size ≤ q → A q) (h : mH) (H : Heap) (locs : List Loc) (ls : Array Slot) (hrun : s_X1_put_b14 h = some hF) (hR : Rl D ids A h s H) (hz : H.size = z) (hS : va_S A s.heap H locs) (hl : lv_has ls 3 []) : W p l e rm_X1_put s m args below meth c H locs 0 0 (MQ below (mQv D ids A hF z) args s 0 0 A) (F0 m 14 ls []) := by
  unfold s_X1_put_b14 at hrun
  obtain rfl := Option.some.inj hrun
  exact mr_vret hx hb hr hlocks hR hz hS dX1_put_14
set_option maxRecDepth 100000 in
set_option maxHeartbeats 4000000 in
theorem c_X1_put (l : Launch) (D : va_G) (ids : m_I3) (st : m_T) (z : Nat) {h : mH} {v0 : Nat} {v1 : Int32} {v2 : Int32} {hF : mH} (hrun : s_X1_put h v0 v1 v2 = some hF) : Met l yX1_put (m_ws yX1_put cX1_put 3 (none)) rm_X1_put (mPc D ids st [.ref v0, .int v1, .int v2] h z) (mQv D ids (m_A h z) hF z) rm_X1_put.cells rm_X1_put.slots (m_A h z) := by
  refine mr_of (cc := cX1_put) (maxL := 3) (ret := none) (by decide) rfl (Nat.le_of_ble_eq_true rfl) ?_
  intro p e s m below meth c ls hx hb hr hml hown hts hlocks hin hR hE hz hl
  have hA : ∀ q, s.heap.size ≤ q → m_A h z q := fun q hq => Or.inr (by rw [← hz]; exact hq)
  have hS : va_S (m_A h z) s.heap s.heap [] := va_S.rf
  have hl : lv_has ls 3 [(0, .ref v0), (1, .int v1), (2, .int v2)] := hl
  unfold s_X1_put at hrun
  refine lv_iload_n hx hb dX1_put_0 rfl (lv_at hl 1 rfl) ?_
  refine lv_if_lt (tgt := 14) hx hb dX1_put_1 (by decide) (fun hc => ?_) (fun hc => ?_)
  · have hrun := mt_t hrun hc
    exact k_X1_put_b14 hx hb hr hml hown hts hlocks hin hE hA _ _ _ _ hrun hR hz hS (lv_sub hl [] rfl)
  · have hrun := mt_f hrun hc
    refine lv_iload_n hx hb dX1_put_4 rfl (lv_at hl 1 rfl) ?_
    refine lv_aload_n hx hb dX1_put_5 rfl (lv_at hl 0 rfl) ?_
    obtain ⟨x6, hc9, hrun⟩ := m_bind hrun
    refine mr_ilen hx hb hR hc9 dX1_put_6 ?_
    refine lv_icmp_ge (tgt := 14) hx hb dX1_put_7 (by decide) (fun hc => ?_) (fun hc => ?_)
    · have hrun := mt_t hrun hc
      exact k_X1_put_b14 hx hb hr hml hown hts hlocks hin hE hA _ _ _ _ hrun hR hz hS (lv_sub hl [] rfl)
    · have hrun := mt_f hrun hc
      refine lv_aload_n hx hb dX1_put_10 rfl (lv_at hl 0 rfl) ?_
      refine lv_iload_n hx hb dX1_put_11 rfl (lv_at hl 1 rfl) ?_
      refine lv_iload_n hx hb dX1_put_12 rfl (lv_at hl 2 rfl) ?_
      obtain ⟨h13, hc9, hrun⟩ := m_bind hrun
      refine mr_iast hx hb hR hz hS hc9 dX1_put_13 (fun H locs hR hz hS => ?_)
      exact k_X1_put_b14 hx hb hr hml hown hts hlocks hin hE hA _ _ _ _ hrun hR hz hS (lv_sub hl [] rfl)
/-! X5_insert -/
abbrev rm_X5_insert : Room := { frames := 2, cells := 0, slots := 0, locals := 42 }
theorem yk_X5_insert : m_K yX5_insert cX5_insert 3 (some .int) 1 := ⟨wm_1_193, wm_0_3, by decide +kernel⟩
theorem ys_X5_insert : Cond.instanceMethod yX5_insert ∈ wT ∧ Cond.selects RX5 yX5_insert yX5_insert ∈ wT := ⟨wm_1_191, wm_1_192⟩
set_option maxRecDepth 100000 in
set_option maxHeartbeats 4000000 in
theorem k_X5_insert_b61 {p : Program} {l : Launch} {e : Env} {s : State} {m : MethodId} {args : Array Value} {below : List Frame} {meth : Method} {c : Code} {D : va_G} {ids : m_I3} {st : m_T} {A : Nat → Prop} {z : Nat} {r : Int32} {hF : mH} (hx : p.tables.exec = Jvm.exec) (hb : c.code = cX5_insert) (hr : meth.sig.returnType = some .int) (hml : c.maxLocals = 3) (hown : s.vm.findClass RX5 = some m.cls) (hts : ∀ w ∈ (m_ws yX5_insert cX5_insert 3 (some .int)), w.before args s = true) (hlocks : meth.locks = false) (hin : meth.name = yX5_insert.name) (hE : m_EV st A s s.heap) (hA : ∀ q, s.heap.size ≤ q → A q) (h : mH) (v0 : Nat) (v1 : Int32) (v2 : Int32) (H : Heap) (locs : List Loc) (ls : Array Slot) (hrun : s_X5_insert_b61 h v0 v1 v2 = some (r, hF)) (hR : Rl D ids A h s H) (hz : H.size = z) (hS : va_S A s.heap H locs) (hl : lv_has ls 3 [(0, .ref v0), (1, .int v1), (2, .int v2)]) : W p l e rm_X5_insert s m args below meth c H locs 0 0 (MQ below (mQi D ids A r hF z) args s 0 0 A) (F0 m 61 ls []) := by
  unfold s_X5_insert_b61 at hrun
  refine lv_aload_n hx hb dX5_insert_61 rfl (lv_at hl 0 rfl) ?_
  obtain ⟨x62, hc9, hrun⟩ := m_bind hrun
  refine mr_get (C := RX5) (T := TX5) (N := 2) (ci := 3) hx hb hts (fun w q => m_ws_in (wi_X5 w q)) hown hR rfl 0 (by decide) (hts _ (m_ws_in wm_0_38)) (fun _ h9 => h9) (m_gr_spec hc9) dX5_insert_62 ?_
  refine lv_iload_n hx hb dX5_insert_65 rfl (lv_at hl 2 rfl) ?_
  refine lv_iload_n hx hb dX5_insert_66 rfl (lv_at hl 1 rfl) ?_
  obtain ⟨h67, hc9, hrun⟩ := m_bind hrun
  refine mr_callv (mr_runS (As := [.ref x62, .int v2, .int v1]) (rest := []) hx hb hml hown hts (c_X1_put l D ids st z hc9) yk_X1_put ys_X1_put wm_1_198 ⟨(Nat.le_of_ble_eq_true rfl), (Nat.le_of_ble_eq_true rfl)⟩ (mr_recvS hR hE hz hS hA) hl.1 rfl (Nat.le_of_ble_eq_true rfl) dX5_insert_67 ⟨(Nat.le_of_ble_eq_true rfl), (Nat.le_of_ble_eq_true rfl)⟩) hR hz hS hA (fun H locs hR hz hS => ?_)
  refine lv_aload_n hx hb dX5_insert_70 rfl (lv_at hl 0 rfl) ?_
  refine lv_dup hx hb dX5_insert_71 rfl ?_
  obtain ⟨x72, hc9, hrun⟩ := m_bind hrun
  refine mr_get (C := RX5) (T := TX5) (N := 2) (ci := 3) hx hb hts (fun w q => m_ws_in (wi_X5 w q)) hown hR rfl 1 (by decide) (hts _ (m_ws_in wm_0_39)) (fun _ h9 => h9) (m_gi_spec hc9) dX5_insert_72 ?_
  refine lv_iconst (v := 1) hx hb dX5_insert_75 (by decide) ?_
  refine lv_iadd hx hb dX5_insert_76 ?_
  obtain ⟨h77, hc9, hrun⟩ := m_bind hrun
  refine mr_put (C := RX5) (T := TX5) (N := 2) (ci := 3) hx hb hts (fun w q => m_ws_in (wi_X5 w q)) tyX5 tyX5_ok nmX5 hown hR hz hS rfl 1 (by decide) (hts _ (m_ws_in wm_0_39)) (fun _ h9 => h9) rfl (tyX5_ok 1 (by decide)) rfl rfl hc9 dX5_insert_77 (fun H locs hR hz hS => ?_)
  refine lv_iload_n hx hb dX5_insert_80 rfl (lv_at hl 2 rfl) ?_
  obtain ⟨rfl, rfl⟩ := Prod.mk.inj (Option.some.inj hrun)
  exact mr_iret hx hb hr hlocks hR hz hS dX5_insert_81
set_option maxRecDepth 100000 in
set_option maxHeartbeats 4000000 in
theorem k_X5_insert_L19 {p : Program} {l : Launch} {e : Env} {s : State} {m : MethodId} {args : Array Value} {below : List Frame} {meth : Method} {c : Code} {D : va_G} {ids : m_I3} {st : m_T} {A : Nat → Prop} {z : Nat} {r : Int32} {hF : mH} (hx : p.tables.exec = Jvm.exec) (hb : c.code = cX5_insert) (hr : meth.sig.returnType = some .int) (hml : c.maxLocals = 3) (hown : s.vm.findClass RX5 = some m.cls) (hts : ∀ w ∈ (m_ws yX5_insert cX5_insert 3 (some .int)), w.before args s = true) (hlocks : meth.locks = false) (hin : meth.name = yX5_insert.name) (hE : m_EV st A s s.heap) (hA : ∀ q, s.heap.size ≤ q → A q) : ∀ (n : Nat) (h : mH) (v0 : Nat) (v1 : Int32) (v2 : Int32) (H : Heap) (locs : List Loc) (ls : Array Slot), s_X5_insert_L19 n h v0 v1 v2 = some (r, hF) → Rl D ids A h s H → H.size = z → va_S A s.heap H locs → lv_has ls 3 [(0, .ref v0), (1, .int v1), (2, .int v2)] → W p l e rm_X5_insert s m args below meth c H locs 0 0 (MQ below (mQi D ids A r hF z) args s 0 0 A) (F0 m 19 ls []) := by
  intro n
  induction n with
  | zero => intro h v0 v1 v2 H locs ls hrun; exact absurd hrun (by intro h9; cases h9)
  | succ n ih =>
    intro h v0 v1 v2 H locs ls hrun hR hz hS hl
    rw [s_X5_insert_L19] at hrun
    refine lv_iload_n hx hb dX5_insert_19 rfl (lv_at hl 2 rfl) ?_
    refine lv_if_le (tgt := 61) hx hb dX5_insert_20 (by decide) (fun hc => ?_) (fun hc => ?_)
    · have hrun := mt_t hrun hc
      exact k_X5_insert_b61 hx hb hr hml hown hts hlocks hin hE hA _ _ _ _ _ _ _ hrun hR hz hS (lv_sub hl [0, 1, 2] rfl)
    · have hrun := mt_f hrun hc
      refine lv_aload_n hx hb dX5_insert_23 rfl (lv_at hl 0 rfl) ?_
      refine lv_iload_n hx hb dX5_insert_24 rfl (lv_at hl 2 rfl) ?_
      refine lv_iconst (v := 1) hx hb dX5_insert_25 (by decide) ?_
      refine lv_isub hx hb dX5_insert_26 ?_
      obtain ⟨_, ho9, hrun⟩ := m_bind hrun
      obtain ⟨fs9, ho9⟩ := m_is_spec ho9
      obtain ⟨x27, hc9, hrun⟩ := m_bind hrun
      refine mr_calli (mr_runV (As := [.int (v2 - 1)]) (rest := []) hx hb hml hown hts (c_X5_tapAt l D ids st z hc9) yk_X5_tapAt ys_X5_tapAt wm_1_194 ⟨(Nat.le_of_ble_eq_true rfl), (Nat.le_of_ble_eq_true rfl)⟩ (mr_recv (ci := 3) hR hE hz hS hA rfl ho9) hl.1 rfl (Nat.le_of_ble_eq_true rfl) dX5_insert_27 ⟨(Nat.le_of_ble_eq_true rfl), (Nat.le_of_ble_eq_true rfl)⟩) hR hz hS hA (fun H locs hR hz hS => ?_)
      obtain ⟨x30, hc9, hrun⟩ := m_bind hrun
      refine mr_calli (mr_runS (As := [.int x27]) (rest := []) hx hb hml hown hts (c_X4_timeOf l D ids st z hc9) yk_X4_timeOf ys_X4_timeOf wm_1_195 ⟨(Nat.le_of_ble_eq_true rfl), (Nat.le_of_ble_eq_true rfl)⟩ (mr_recvS hR hE hz hS hA) hl.1 rfl (Nat.le_of_ble_eq_true rfl) dX5_insert_30 ⟨(Nat.le_of_ble_eq_true rfl), (Nat.le_of_ble_eq_true rfl)⟩) hR hz hS hA (fun H locs hR hz hS => ?_)
      refine lv_iload_n hx hb dX5_insert_33 rfl (lv_at hl 1 rfl) ?_
      obtain ⟨x34, hc9, hrun⟩ := m_bind hrun
      refine mr_calli (mr_runS (As := [.int v1]) (rest := [.int x30]) hx hb hml hown hts (c_X4_timeOf l D ids st z hc9) yk_X4_timeOf ys_X4_timeOf wm_1_195 ⟨(Nat.le_of_ble_eq_true rfl), (Nat.le_of_ble_eq_true rfl)⟩ (mr_recvS hR hE hz hS hA) hl.1 rfl (Nat.le_of_ble_eq_true rfl) dX5_insert_34 ⟨(Nat.le_of_ble_eq_true rfl), (Nat.le_of_ble_eq_true rfl)⟩) hR hz hS hA (fun H locs hR hz hS => ?_)
      refine lv_icmp_le (tgt := 61) hx hb dX5_insert_37 (by decide) (fun hc => ?_) (fun hc => ?_)
      · have hrun := mt_t hrun hc
        exact k_X5_insert_b61 hx hb hr hml hown hts hlocks hin hE hA _ _ _ _ _ _ _ hrun hR hz hS (lv_sub hl [0, 1, 2] rfl)
      · have hrun := mt_f hrun hc
        refine lv_aload_n hx hb dX5_insert_40 rfl (lv_at hl 0 rfl) ?_
        obtain ⟨x41, hc9, hrun⟩ := m_bind hrun
        refine mr_get (C := RX5) (T := TX5) (N := 2) (ci := 3) hx hb hts (fun w q => m_ws_in (wi_X5 w q)) hown hR rfl 0 (by decide) (hts _ (m_ws_in wm_0_38)) (fun _ h9 => h9) (m_gr_spec hc9) dX5_insert_41 ?_
        refine lv_iload_n hx hb dX5_insert_44 rfl (lv_at hl 2 rfl) ?_
        refine lv_aload_n hx hb dX5_insert_45 rfl (lv_at hl 0 rfl) ?_
        refine lv_iload_n hx hb dX5_insert_46 rfl (lv_at hl 2 rfl) ?_
        refine lv_iconst (v := 1) hx hb dX5_insert_47 (by decide) ?_
        refine lv_isub hx hb dX5_insert_48 ?_
        obtain ⟨_, ho9, hrun⟩ := m_bind hrun
        obtain ⟨fs9, ho9⟩ := m_is_spec ho9
        obtain ⟨x49, hc9, hrun⟩ := m_bind hrun
        refine mr_calli (mr_runV (As := [.int (v2 - 1)]) (rest := [.int v2, .ref x41]) hx hb hml hown hts (c_X5_tapAt l D ids st z hc9) yk_X5_tapAt ys_X5_tapAt wm_1_194 ⟨(Nat.le_of_ble_eq_true rfl), (Nat.le_of_ble_eq_true rfl)⟩ (mr_recv (ci := 3) hR hE hz hS hA rfl ho9) hl.1 rfl (Nat.le_of_ble_eq_true rfl) dX5_insert_49 ⟨(Nat.le_of_ble_eq_true rfl), (Nat.le_of_ble_eq_true rfl)⟩) hR hz hS hA (fun H locs hR hz hS => ?_)
        obtain ⟨h52, hc9, hrun⟩ := m_bind hrun
        refine mr_callv (mr_runS (As := [.ref x41, .int v2, .int x49]) (rest := []) hx hb hml hown hts (c_X1_put l D ids st z hc9) yk_X1_put ys_X1_put wm_1_198 ⟨(Nat.le_of_ble_eq_true rfl), (Nat.le_of_ble_eq_true rfl)⟩ (mr_recvS hR hE hz hS hA) hl.1 rfl (Nat.le_of_ble_eq_true rfl) dX5_insert_52 ⟨(Nat.le_of_ble_eq_true rfl), (Nat.le_of_ble_eq_true rfl)⟩) hR hz hS hA (fun H locs hR hz hS => ?_)
        refine lv_iinc (v := v2 + (-1)) (lv' := [(2, .int (v2 + (-1))), (0, .ref v0), (1, .int v1)]) hx hb dX5_insert_55 hl (k := 2) rfl rfl (by decide) rfl (fun ls hl => ?_)
        refine lv_goto (tgt := 19) hx hb dX5_insert_58 (by decide) ?_
        exact ih _ _ _ _ _ _ _ hrun hR hz hS (lv_sub hl [1, 2, 0] rfl)
set_option maxRecDepth 100000 in
set_option maxHeartbeats 4000000 in
theorem c_X5_insert (l : Launch) (D : va_G) (ids : m_I3) (st : m_T) (z : Nat) {h : mH} {v0 : Nat} {v1 : Int32} {r : Int32} {hF : mH} (hrun : s_X5_insert h v0 v1 = some (r, hF)) : Met l yX5_insert (m_ws yX5_insert cX5_insert 3 (some .int)) rm_X5_insert (mPc D ids st [.ref v0, .int v1] h z) (mQi D ids (m_A h z) r hF z) rm_X5_insert.cells rm_X5_insert.slots (m_A h z) := by
  refine mr_of (cc := cX5_insert) (maxL := 3) (ret := some .int) (by decide) rfl (Nat.le_of_ble_eq_true rfl) ?_
  intro p e s m below meth c ls hx hb hr hml hown hts hlocks hin hR hE hz hl
  have hA : ∀ q, s.heap.size ≤ q → m_A h z q := fun q hq => Or.inr (by rw [← hz]; exact hq)
  have hS : va_S (m_A h z) s.heap s.heap [] := va_S.rf
  have hl : lv_has ls 3 [(0, .ref v0), (1, .int v1)] := hl
  unfold s_X5_insert at hrun
  refine lv_aload_n hx hb dX5_insert_0 rfl (lv_at hl 0 rfl) ?_
  obtain ⟨x1, hc9, hrun⟩ := m_bind hrun
  refine mr_get (C := RX5) (T := TX5) (N := 2) (ci := 3) hx hb hts (fun w q => m_ws_in (wi_X5 w q)) hown hR rfl 1 (by decide) (hts _ (m_ws_in wm_0_39)) (fun _ h9 => h9) (m_gi_spec hc9) dX5_insert_1 ?_
  refine lv_aload_n hx hb dX5_insert_4 rfl (lv_at hl 0 rfl) ?_
  obtain ⟨x5, hc9, hrun⟩ := m_bind hrun
  refine mr_get (C := RX5) (T := TX5) (N := 2) (ci := 3) hx hb hts (fun w q => m_ws_in (wi_X5 w q)) hown hR rfl 0 (by decide) (hts _ (m_ws_in wm_0_38)) (fun _ h9 => h9) (m_gr_spec hc9) dX5_insert_5 ?_
  obtain ⟨x8, hc9, hrun⟩ := m_bind hrun
  refine mr_ilen hx hb hR hc9 dX5_insert_8 ?_
  refine lv_icmp_lt (tgt := 14) hx hb dX5_insert_9 (by decide) (fun hc => ?_) (fun hc => ?_)
  · have hrun := mt_t hrun hc
    refine lv_aload_n hx hb dX5_insert_14 rfl (lv_at hl 0 rfl) ?_
    obtain ⟨x15, hc9, hrun⟩ := m_bind hrun
    refine mr_get (C := RX5) (T := TX5) (N := 2) (ci := 3) hx hb hts (fun w q => m_ws_in (wi_X5 w q)) hown hR rfl 1 (by decide) (hts _ (m_ws_in wm_0_39)) (fun _ h9 => h9) (m_gi_spec hc9) dX5_insert_15 ?_
    refine lv_istore_n (lv' := [(2, .int x15), (0, .ref v0), (1, .int v1)]) hx hb dX5_insert_18 rfl hl (by decide) rfl (fun ls hl => ?_)
    exact k_X5_insert_L19 hx hb hr hml hown hts hlocks hin hE hA _ _ _ _ _ _ _ _ hrun hR hz hS (lv_sub hl [1, 2, 0] rfl)
  · have hrun := mt_f hrun hc
    refine lv_iconst (v := (-1)) hx hb dX5_insert_12 (by decide) ?_
    obtain ⟨rfl, rfl⟩ := Prod.mk.inj (Option.some.inj hrun)
    exact mr_iret hx hb hr hlocks hR hz hS dX5_insert_13
/-! X1_fill -/
abbrev rm_X1_fill : Room := { frames := 0, cells := 0, slots := 0, locals := 0 }
theorem yk_X1_fill : m_K yX1_fill cX1_fill 3 (none) 2 := ⟨wm_0_55, wm_0_4, by decide +kernel⟩
theorem ys_X1_fill : Cond.static yX1_fill ∈ wT := wm_0_54
set_option maxRecDepth 100000 in
set_option maxHeartbeats 4000000 in
theorem k_X1_fill_L2 {p : Program} {l : Launch} {e : Env} {s : State} {m : MethodId} {args : Array Value} {below : List Frame} {meth : Method} {c : Code} {D : va_G} {ids : m_I3} {st : m_T} {A : Nat → Prop} {z : Nat} {hF : mH} (hx : p.tables.exec = Jvm.exec) (hb : c.code = cX1_fill) (hr : meth.sig.returnType = none) (hml : c.maxLocals = 3) (hown : s.vm.findClass RX1 = some m.cls) (hts : ∀ w ∈ (m_ws yX1_fill cX1_fill 3 (none)), w.before args s = true) (hlocks : meth.locks = false) (hin : meth.name = yX1_fill.name) (hE : m_EV st A s s.heap) (hA : ∀ q, s.heap.size ≤ q → A q) : ∀ (n : Nat) (h : mH) (v0 : Nat) (v1 : Int32) (v2 : Int32) (H : Heap) (locs : List Loc) (ls : Array Slot), s_X1_fill_L2 n h v0 v1 v2 = some hF → Rl D ids A h s H → H.size = z → va_S A s.heap H locs → lv_has ls 3 [(0, .ref v0), (1, .int v1), (2, .int v2)] → W p l e rm_X1_fill s m args below meth c H locs 0 0 (MQ below (mQv D ids A hF z) args s 0 0 A) (F0 m 2 ls []) := by
  intro n
  induction n with
  | zero => intro h v0 v1 v2 H locs ls hrun; exact absurd hrun (by intro h9; cases h9)
  | succ n ih =>
    intro h v0 v1 v2 H locs ls hrun hR hz hS hl
    rw [s_X1_fill_L2] at hrun
    refine lv_iload_n hx hb dX1_fill_2 rfl (lv_at hl 2 rfl) ?_
    refine lv_aload_n hx hb dX1_fill_3 rfl (lv_at hl 0 rfl) ?_
    obtain ⟨x4, hc9, hrun⟩ := m_bind hrun
    refine mr_ilen hx hb hR hc9 dX1_fill_4 ?_
    refine lv_icmp_ge (tgt := 18) hx hb dX1_fill_5 (by decide) (fun hc => ?_) (fun hc => ?_)
    · have hrun := mt_t hrun hc
      obtain rfl := Option.some.inj hrun
      exact mr_vret hx hb hr hlocks hR hz hS dX1_fill_18
    · have hrun := mt_f hrun hc
      refine lv_aload_n hx hb dX1_fill_8 rfl (lv_at hl 0 rfl) ?_
      refine lv_iload_n hx hb dX1_fill_9 rfl (lv_at hl 2 rfl) ?_
      refine lv_iload_n hx hb dX1_fill_10 rfl (lv_at hl 1 rfl) ?_
      obtain ⟨h11, hc9, hrun⟩ := m_bind hrun
      refine mr_iast hx hb hR hz hS hc9 dX1_fill_11 (fun H locs hR hz hS => ?_)
      refine lv_iinc (v := v2 + 1) (lv' := [(2, .int (v2 + 1)), (0, .ref v0), (1, .int v1)]) hx hb dX1_fill_12 hl (k := 2) rfl rfl (by decide) rfl (fun ls hl => ?_)
      refine lv_goto (tgt := 2) hx hb dX1_fill_15 (by decide) ?_
      exact ih _ _ _ _ _ _ _ hrun hR hz hS (lv_sub hl [1, 2, 0] rfl)
set_option maxRecDepth 100000 in
set_option maxHeartbeats 4000000 in
theorem c_X1_fill (l : Launch) (D : va_G) (ids : m_I3) (st : m_T) (z : Nat) {h : mH} {v0 : Nat} {v1 : Int32} {hF : mH} (hrun : s_X1_fill h v0 v1 = some hF) : Met l yX1_fill (m_ws yX1_fill cX1_fill 3 (none)) rm_X1_fill (mPc D ids st [.ref v0, .int v1] h z) (mQv D ids (m_A h z) hF z) rm_X1_fill.cells rm_X1_fill.slots (m_A h z) := by
  refine mr_of (cc := cX1_fill) (maxL := 3) (ret := none) (by decide) rfl (Nat.le_of_ble_eq_true rfl) ?_
  intro p e s m below meth c ls hx hb hr hml hown hts hlocks hin hR hE hz hl
  have hA : ∀ q, s.heap.size ≤ q → m_A h z q := fun q hq => Or.inr (by rw [← hz]; exact hq)
  have hS : va_S (m_A h z) s.heap s.heap [] := va_S.rf
  have hl : lv_has ls 3 [(0, .ref v0), (1, .int v1)] := hl
  unfold s_X1_fill at hrun
  refine lv_iconst (v := 0) hx hb dX1_fill_0 (by decide) ?_
  refine lv_istore_n (lv' := [(2, .int 0), (0, .ref v0), (1, .int v1)]) hx hb dX1_fill_1 rfl hl (by decide) rfl (fun ls hl => ?_)
  exact k_X1_fill_L2 hx hb hr hml hown hts hlocks hin hE hA _ _ _ _ _ _ _ _ hrun hR hz hS (lv_sub hl [1, 2, 0] rfl)
/-! X4_walletOf -/
abbrev rm_X4_walletOf : Room := { frames := 0, cells := 0, slots := 0, locals := 0 }
theorem yk_X4_walletOf : m_K yX4_walletOf cX4_walletOf 1 (some .int) 1 := ⟨wm_0_209, wm_0_8, by decide +kernel⟩
theorem ys_X4_walletOf : Cond.static yX4_walletOf ∈ wT := wm_0_208
set_option maxRecDepth 100000 in
set_option maxHeartbeats 4000000 in
theorem c_X4_walletOf (l : Launch) (D : va_G) (ids : m_I3) (st : m_T) (z : Nat) {h : mH} {v0 : Int32} {r : Int32} (hrun : s_X4_walletOf h v0 = some r) : Met l yX4_walletOf (m_ws yX4_walletOf cX4_walletOf 1 (some .int)) rm_X4_walletOf (mPc D ids st [.int v0] h z) (mQi D ids (m_A h z) r h z) rm_X4_walletOf.cells rm_X4_walletOf.slots (m_A h z) := by
  refine mr_of (cc := cX4_walletOf) (maxL := 1) (ret := some .int) (by decide) rfl (Nat.le_of_ble_eq_true rfl) ?_
  intro p e s m below meth c ls hx hb hr hml hown hts hlocks hin hR hE hz hl
  have hA : ∀ q, s.heap.size ≤ q → m_A h z q := fun q hq => Or.inr (by rw [← hz]; exact hq)
  have hS : va_S (m_A h z) s.heap s.heap [] := va_S.rf
  have hl : lv_has ls 1 [(0, .int v0)] := hl
  unfold s_X4_walletOf at hrun
  refine lv_iload_n hx hb dX4_walletOf_0 rfl (lv_at hl 0 rfl) ?_
  refine lv_bipush (v := 6) hx hb dX4_walletOf_1 (by decide) ?_
  refine lv_ishr hx hb dX4_walletOf_3 ?_
  refine lv_iconst (v := 3) hx hb dX4_walletOf_4 (by decide) ?_
  refine lv_iand hx hb dX4_walletOf_5 ?_
  obtain rfl := Option.some.inj hrun
  exact mr_iret hx hb hr hlocks hR hz hS dX4_walletOf_6
/-! X4_isIn -/
abbrev rm_X4_isIn : Room := { frames := 0, cells := 0, slots := 0, locals := 0 }
theorem yk_X4_isIn : m_K yX4_isIn cX4_isIn 1 (some .boolean) 1 := ⟨wm_0_215, wm_0_8, by decide +kernel⟩
theorem ys_X4_isIn : Cond.static yX4_isIn ∈ wT := wm_0_214
set_option maxRecDepth 100000 in
set_option maxHeartbeats 4000000 in
theorem k_X4_isIn_b11 {p : Program} {l : Launch} {e : Env} {s : State} {m : MethodId} {args : Array Value} {below : List Frame} {meth : Method} {c : Code} {D : va_G} {ids : m_I3} {st : m_T} {A : Nat → Prop} {z : Nat} {r : Int32} (hx : p.tables.exec = Jvm.exec) (hb : c.code = cX4_isIn) (hr : meth.sig.returnType = some .boolean) (hml : c.maxLocals = 1) (hown : s.vm.findClass RX4 = some m.cls) (hts : ∀ w ∈ (m_ws yX4_isIn cX4_isIn 1 (some .boolean)), w.before args s = true) (hlocks : meth.locks = false) (hin : meth.name = yX4_isIn.name) (hE : m_EV st A s s.heap) (hA : ∀ q, s.heap.size ≤ q → A q) {h : mH} (t0 : Int32) (H : Heap) (locs : List Loc) (ls : Array Slot) (hrun : s_X4_isIn_b11 h t0 = some r) (hR : Rl D ids A h s H) (hz : H.size = z) (hS : va_S A s.heap H locs) (hl : lv_has ls 1 []) : W p l e rm_X4_isIn s m args below meth c H locs 0 0 (MQ below (mQi D ids A r h z) args s 0 0 A) (F0 m 11 ls [.int t0]) := by
  unfold s_X4_isIn_b11 at hrun
  obtain ⟨w9, hzr, hrun⟩ := m_bind hrun
  obtain rfl := Option.some.inj hrun
  exact mr_zret hzr hx hb hr hlocks hR hz hS dX4_isIn_11
set_option maxRecDepth 100000 in
set_option maxHeartbeats 4000000 in
theorem c_X4_isIn (l : Launch) (D : va_G) (ids : m_I3) (st : m_T) (z : Nat) {h : mH} {v0 : Int32} {r : Int32} (hrun : s_X4_isIn h v0 = some r) : Met l yX4_isIn (m_ws yX4_isIn cX4_isIn 1 (some .boolean)) rm_X4_isIn (mPc D ids st [.int v0] h z) (mQi D ids (m_A h z) r h z) rm_X4_isIn.cells rm_X4_isIn.slots (m_A h z) := by
  refine mr_of (cc := cX4_isIn) (maxL := 1) (ret := some .boolean) (by decide) rfl (Nat.le_of_ble_eq_true rfl) ?_
  intro p e s m below meth c ls hx hb hr hml hown hts hlocks hin hR hE hz hl
  have hA : ∀ q, s.heap.size ≤ q → m_A h z q := fun q hq => Or.inr (by rw [← hz]; exact hq)
  have hS : va_S (m_A h z) s.heap s.heap [] := va_S.rf
  have hl : lv_has ls 1 [(0, .int v0)] := hl
  unfold s_X4_isIn at hrun
  refine lv_iload_n hx hb dX4_isIn_0 rfl (lv_at hl 0 rfl) ?_
  refine lv_iconst (v := 2) hx hb dX4_isIn_1 (by decide) ?_
  refine lv_iand hx hb dX4_isIn_2 ?_
  refine lv_if_eq (tgt := 10) hx hb dX4_isIn_3 (by decide) (fun hc => ?_) (fun hc => ?_)
  · have hrun := mt_t hrun hc
    refine lv_iconst (v := 0) hx hb dX4_isIn_10 (by decide) ?_
    exact k_X4_isIn_b11 hx hb hr hml hown hts hlocks hin hE hA _ _ _ _ hrun hR hz hS (lv_sub hl [] rfl)
  · have hrun := mt_f hrun hc
    refine lv_iconst (v := 1) hx hb dX4_isIn_6 (by decide) ?_
    refine lv_goto (tgt := 11) hx hb dX4_isIn_7 (by decide) ?_
    exact k_X4_isIn_b11 hx hb hr hml hown hts hlocks hin hE hA _ _ _ _ hrun hR hz hS (lv_sub hl [] rfl)
/-! X4_dayOf -/
abbrev rm_X4_dayOf : Room := { frames := 0, cells := 0, slots := 0, locals := 0 }
theorem yk_X4_dayOf : m_K yX4_dayOf cX4_dayOf 1 (some .int) 1 := ⟨wm_0_218, wm_0_8, by decide +kernel⟩
theorem ys_X4_dayOf : Cond.static yX4_dayOf ∈ wT := wm_0_217
set_option maxRecDepth 100000 in
set_option maxHeartbeats 4000000 in
theorem c_X4_dayOf (l : Launch) (D : va_G) (ids : m_I3) (st : m_T) (z : Nat) {h : mH} {v0 : Int32} {r : Int32} (hrun : s_X4_dayOf h v0 = some r) : Met l yX4_dayOf (m_ws yX4_dayOf cX4_dayOf 1 (some .int)) rm_X4_dayOf (mPc D ids st [.int v0] h z) (mQi D ids (m_A h z) r h z) rm_X4_dayOf.cells rm_X4_dayOf.slots (m_A h z) := by
  refine mr_of (cc := cX4_dayOf) (maxL := 1) (ret := some .int) (by decide) rfl (Nat.le_of_ble_eq_true rfl) ?_
  intro p e s m below meth c ls hx hb hr hml hown hts hlocks hin hR hE hz hl
  have hA : ∀ q, s.heap.size ≤ q → m_A h z q := fun q hq => Or.inr (by rw [← hz]; exact hq)
  have hS : va_S (m_A h z) s.heap s.heap [] := va_S.rf
  have hl : lv_has ls 1 [(0, .int v0)] := hl
  unfold s_X4_dayOf at hrun
  refine lv_iload_n hx hb dX4_dayOf_0 rfl (lv_at hl 0 rfl) ?_
  refine lv_bipush (v := 19) hx hb dX4_dayOf_1 (by decide) ?_
  refine lv_ishr hx hb dX4_dayOf_3 ?_
  refine lv_bipush (v := 31) hx hb dX4_dayOf_4 (by decide) ?_
  refine lv_iand hx hb dX4_dayOf_6 ?_
  obtain rfl := Option.some.inj hrun
  exact mr_iret hx hb hr hlocks hR hz hS dX4_dayOf_7
/-! X4_minuteOf -/
abbrev rm_X4_minuteOf : Room := { frames := 0, cells := 0, slots := 0, locals := 0 }
theorem yk_X4_minuteOf : m_K yX4_minuteOf cX4_minuteOf 1 (some .int) 1 := ⟨wm_0_221, wm_0_8, by decide +kernel⟩
theorem ys_X4_minuteOf : Cond.static yX4_minuteOf ∈ wT := wm_0_220
set_option maxRecDepth 100000 in
set_option maxHeartbeats 4000000 in
theorem c_X4_minuteOf (l : Launch) (D : va_G) (ids : m_I3) (st : m_T) (z : Nat) {h : mH} {v0 : Int32} {r : Int32} (hrun : s_X4_minuteOf h v0 = some r) : Met l yX4_minuteOf (m_ws yX4_minuteOf cX4_minuteOf 1 (some .int)) rm_X4_minuteOf (mPc D ids st [.int v0] h z) (mQi D ids (m_A h z) r h z) rm_X4_minuteOf.cells rm_X4_minuteOf.slots (m_A h z) := by
  refine mr_of (cc := cX4_minuteOf) (maxL := 1) (ret := some .int) (by decide) rfl (Nat.le_of_ble_eq_true rfl) ?_
  intro p e s m below meth c ls hx hb hr hml hown hts hlocks hin hR hE hz hl
  have hA : ∀ q, s.heap.size ≤ q → m_A h z q := fun q hq => Or.inr (by rw [← hz]; exact hq)
  have hS : va_S (m_A h z) s.heap s.heap [] := va_S.rf
  have hl : lv_has ls 1 [(0, .int v0)] := hl
  unfold s_X4_minuteOf at hrun
  refine lv_iload_n hx hb dX4_minuteOf_0 rfl (lv_at hl 0 rfl) ?_
  refine lv_bipush (v := 8) hx hb dX4_minuteOf_1 (by decide) ?_
  refine lv_ishr hx hb dX4_minuteOf_3 ?_
  refine lv_sipush (v := 2047) hx hb dX4_minuteOf_4 (by decide) ?_
  refine lv_iand hx hb dX4_minuteOf_7 ?_
  obtain rfl := Option.some.inj hrun
  exact mr_iret hx hb hr hlocks hR hz hS dX4_minuteOf_8
/-! X0_isRide -/
abbrev rm_X0_isRide : Room := { frames := 1, cells := 0, slots := 0, locals := 20 }
theorem yk_X0_isRide : m_K yX0_isRide cX0_isRide 3 (some .boolean) 3 := ⟨wm_0_212, wm_0_5, by decide +kernel⟩
theorem ys_X0_isRide : Cond.static yX0_isRide ∈ wT := wm_0_211
set_option maxRecDepth 100000 in
set_option maxHeartbeats 4000000 in
theorem k_X0_isRide_b43 {p : Program} {l : Launch} {e : Env} {s : State} {m : MethodId} {args : Array Value} {below : List Frame} {meth : Method} {c : Code} {D : va_G} {ids : m_I3} {st : m_T} {A : Nat → Prop} {z : Nat} {r : Int32} (hx : p.tables.exec = Jvm.exec) (hb : c.code = cX0_isRide) (hr : meth.sig.returnType = some .boolean) (hml : c.maxLocals = 3) (hown : s.vm.findClass RX0 = some m.cls) (hts : ∀ w ∈ (m_ws yX0_isRide cX0_isRide 3 (some .boolean)), w.before args s = true) (hlocks : meth.locks = false) (hin : meth.name = yX0_isRide.name) (hE : m_EV st A s s.heap) (hA : ∀ q, s.heap.size ≤ q → A q) {h : mH} (t0 : Int32) (H : Heap) (locs : List Loc) (ls : Array Slot) (hrun : s_X0_isRide_b43 h t0 = some r) (hR : Rl D ids A h s H) (hz : H.size = z) (hS : va_S A s.heap H locs) (hl : lv_has ls 3 []) : W p l e rm_X0_isRide s m args below meth c H locs 0 0 (MQ below (mQi D ids A r h z) args s 0 0 A) (F0 m 43 ls [.int t0]) := by
  unfold s_X0_isRide_b43 at hrun
  obtain ⟨w9, hzr, hrun⟩ := m_bind hrun
  obtain rfl := Option.some.inj hrun
  exact mr_zret hzr hx hb hr hlocks hR hz hS dX0_isRide_43
set_option maxRecDepth 100000 in
set_option maxHeartbeats 4000000 in
theorem k_X0_isRide_b42 {p : Program} {l : Launch} {e : Env} {s : State} {m : MethodId} {args : Array Value} {below : List Frame} {meth : Method} {c : Code} {D : va_G} {ids : m_I3} {st : m_T} {A : Nat → Prop} {z : Nat} {r : Int32} (hx : p.tables.exec = Jvm.exec) (hb : c.code = cX0_isRide) (hr : meth.sig.returnType = some .boolean) (hml : c.maxLocals = 3) (hown : s.vm.findClass RX0 = some m.cls) (hts : ∀ w ∈ (m_ws yX0_isRide cX0_isRide 3 (some .boolean)), w.before args s = true) (hlocks : meth.locks = false) (hin : meth.name = yX0_isRide.name) (hE : m_EV st A s s.heap) (hA : ∀ q, s.heap.size ≤ q → A q) {h : mH} (H : Heap) (locs : List Loc) (ls : Array Slot) (hrun : s_X0_isRide_b42 h  = some r) (hR : Rl D ids A h s H) (hz : H.size = z) (hS : va_S A s.heap H locs) (hl : lv_has ls 3 []) : W p l e rm_X0_isRide s m args below meth c H locs 0 0 (MQ below (mQi D ids A r h z) args s 0 0 A) (F0 m 42 ls []) := by
  unfold s_X0_isRide_b42 at hrun
  refine lv_iconst (v := 0) hx hb dX0_isRide_42 (by decide) ?_
  exact k_X0_isRide_b43 hx hb hr hml hown hts hlocks hin hE hA _ _ _ _ hrun hR hz hS (lv_sub hl [] rfl)
set_option maxRecDepth 100000 in
set_option maxHeartbeats 4000000 in
theorem c_X0_isRide (l : Launch) (D : va_G) (ids : m_I3) (st : m_T) (z : Nat) {h : mH} {v0 : Int32} {v1 : Int32} {v2 : Int32} {r : Int32} (hrun : s_X0_isRide h v0 v1 v2 = some r) : Met l yX0_isRide (m_ws yX0_isRide cX0_isRide 3 (some .boolean)) rm_X0_isRide (mPc D ids st [.int v0, .int v1, .int v2] h z) (mQi D ids (m_A h z) r h z) rm_X0_isRide.cells rm_X0_isRide.slots (m_A h z) := by
  refine mr_of (cc := cX0_isRide) (maxL := 3) (ret := some .boolean) (by decide) rfl (Nat.le_of_ble_eq_true rfl) ?_
  intro p e s m below meth c ls hx hb hr hml hown hts hlocks hin hR hE hz hl
  have hA : ∀ q, s.heap.size ≤ q → m_A h z q := fun q hq => Or.inr (by rw [← hz]; exact hq)
  have hS : va_S (m_A h z) s.heap s.heap [] := va_S.rf
  have hl : lv_has ls 3 [(0, .int v0), (1, .int v1), (2, .int v2)] := hl
  unfold s_X0_isRide at hrun
  refine lv_iload_n hx hb dX0_isRide_0 rfl (lv_at hl 0 rfl) ?_
  obtain ⟨x1, hc9, hrun⟩ := m_bind hrun
  refine mr_calli (mr_runS (As := [.int v0]) (rest := []) hx hb hml hown hts (c_X4_isIn l D ids st z hc9) yk_X4_isIn ys_X4_isIn wm_0_213 ⟨(Nat.le_of_ble_eq_true rfl), (Nat.le_of_ble_eq_true rfl)⟩ (mr_recvS hR hE hz hS hA) hl.1 rfl (Nat.le_of_ble_eq_true rfl) dX0_isRide_1 ⟨(Nat.le_of_ble_eq_true rfl), (Nat.le_of_ble_eq_true rfl)⟩) hR hz hS hA (fun H locs hR hz hS => ?_)
  refine lv_if_eq (tgt := 42) hx hb dX0_isRide_4 (by decide) (fun hc => ?_) (fun hc => ?_)
  · have hrun := mt_t hrun hc
    exact k_X0_isRide_b42 hx hb hr hml hown hts hlocks hin hE hA _ _ _ hrun hR hz hS (lv_sub hl [] rfl)
  · have hrun := mt_f hrun hc
    refine lv_iload_n hx hb dX0_isRide_7 rfl (lv_at hl 1 rfl) ?_
    obtain ⟨x8, hc9, hrun⟩ := m_bind hrun
    refine mr_calli (mr_runS (As := [.int v1]) (rest := []) hx hb hml hown hts (c_X4_isIn l D ids st z hc9) yk_X4_isIn ys_X4_isIn wm_0_213 ⟨(Nat.le_of_ble_eq_true rfl), (Nat.le_of_ble_eq_true rfl)⟩ (mr_recvS hR hE hz hS hA) hl.1 rfl (Nat.le_of_ble_eq_true rfl) dX0_isRide_8 ⟨(Nat.le_of_ble_eq_true rfl), (Nat.le_of_ble_eq_true rfl)⟩) hR hz hS hA (fun H locs hR hz hS => ?_)
    refine lv_if_ne (tgt := 42) hx hb dX0_isRide_11 (by decide) (fun hc => ?_) (fun hc => ?_)
    · have hrun := mt_f hrun hc
      exact k_X0_isRide_b42 hx hb hr hml hown hts hlocks hin hE hA _ _ _ hrun hR hz hS (lv_sub hl [] rfl)
    · have hrun := mt_t hrun hc
      refine lv_iload_n hx hb dX0_isRide_14 rfl (lv_at hl 0 rfl) ?_
      obtain ⟨x15, hc9, hrun⟩ := m_bind hrun
      refine mr_calli (mr_runS (As := [.int v0]) (rest := []) hx hb hml hown hts (c_X4_dayOf l D ids st z hc9) yk_X4_dayOf ys_X4_dayOf wm_0_216 ⟨(Nat.le_of_ble_eq_true rfl), (Nat.le_of_ble_eq_true rfl)⟩ (mr_recvS hR hE hz hS hA) hl.1 rfl (Nat.le_of_ble_eq_true rfl) dX0_isRide_15 ⟨(Nat.le_of_ble_eq_true rfl), (Nat.le_of_ble_eq_true rfl)⟩) hR hz hS hA (fun H locs hR hz hS => ?_)
      refine lv_iload_n hx hb dX0_isRide_18 rfl (lv_at hl 1 rfl) ?_
      obtain ⟨x19, hc9, hrun⟩ := m_bind hrun
      refine mr_calli (mr_runS (As := [.int v1]) (rest := [.int x15]) hx hb hml hown hts (c_X4_dayOf l D ids st z hc9) yk_X4_dayOf ys_X4_dayOf wm_0_216 ⟨(Nat.le_of_ble_eq_true rfl), (Nat.le_of_ble_eq_true rfl)⟩ (mr_recvS hR hE hz hS hA) hl.1 rfl (Nat.le_of_ble_eq_true rfl) dX0_isRide_19 ⟨(Nat.le_of_ble_eq_true rfl), (Nat.le_of_ble_eq_true rfl)⟩) hR hz hS hA (fun H locs hR hz hS => ?_)
      refine lv_icmp_ne (tgt := 42) hx hb dX0_isRide_22 (by decide) (fun hc => ?_) (fun hc => ?_)
      · have hrun := mt_f hrun hc
        exact k_X0_isRide_b42 hx hb hr hml hown hts hlocks hin hE hA _ _ _ hrun hR hz hS (lv_sub hl [] rfl)
      · have hrun := mt_t hrun hc
        refine lv_iload_n hx hb dX0_isRide_25 rfl (lv_at hl 1 rfl) ?_
        obtain ⟨x26, hc9, hrun⟩ := m_bind hrun
        refine mr_calli (mr_runS (As := [.int v1]) (rest := []) hx hb hml hown hts (c_X4_minuteOf l D ids st z hc9) yk_X4_minuteOf ys_X4_minuteOf wm_0_219 ⟨(Nat.le_of_ble_eq_true rfl), (Nat.le_of_ble_eq_true rfl)⟩ (mr_recvS hR hE hz hS hA) hl.1 rfl (Nat.le_of_ble_eq_true rfl) dX0_isRide_26 ⟨(Nat.le_of_ble_eq_true rfl), (Nat.le_of_ble_eq_true rfl)⟩) hR hz hS hA (fun H locs hR hz hS => ?_)
        refine lv_iload_n hx hb dX0_isRide_29 rfl (lv_at hl 0 rfl) ?_
        obtain ⟨x30, hc9, hrun⟩ := m_bind hrun
        refine mr_calli (mr_runS (As := [.int v0]) (rest := [.int x26]) hx hb hml hown hts (c_X4_minuteOf l D ids st z hc9) yk_X4_minuteOf ys_X4_minuteOf wm_0_219 ⟨(Nat.le_of_ble_eq_true rfl), (Nat.le_of_ble_eq_true rfl)⟩ (mr_recvS hR hE hz hS hA) hl.1 rfl (Nat.le_of_ble_eq_true rfl) dX0_isRide_30 ⟨(Nat.le_of_ble_eq_true rfl), (Nat.le_of_ble_eq_true rfl)⟩) hR hz hS hA (fun H locs hR hz hS => ?_)
        refine lv_isub hx hb dX0_isRide_33 ?_
        refine lv_iload_n hx hb dX0_isRide_34 rfl (lv_at hl 2 rfl) ?_
        refine lv_icmp_gt (tgt := 42) hx hb dX0_isRide_35 (by decide) (fun hc => ?_) (fun hc => ?_)
        · have hrun := mt_t hrun hc
          exact k_X0_isRide_b42 hx hb hr hml hown hts hlocks hin hE hA _ _ _ hrun hR hz hS (lv_sub hl [] rfl)
        · have hrun := mt_f hrun hc
          refine lv_iconst (v := 1) hx hb dX0_isRide_38 (by decide) ?_
          refine lv_goto (tgt := 43) hx hb dX0_isRide_39 (by decide) ?_
          exact k_X0_isRide_b43 hx hb hr hml hown hts hlocks hin hE hA _ _ _ _ hrun hR hz hS (lv_sub hl [] rfl)
/-! X0_findMates -/
abbrev rm_X0_findMates : Room := { frames := 2, cells := 0, slots := 0, locals := 42 }
theorem yk_X0_findMates : m_K yX0_findMates cX0_findMates 6 (none) 2 := ⟨wm_0_200, wm_0_5, by decide +kernel⟩
theorem ys_X0_findMates : Cond.instanceMethod yX0_findMates ∈ wT ∧ Cond.selects RX0 yX0_findMates yX0_findMates ∈ wT := ⟨wm_0_199, wp_0_0⟩
set_option maxRecDepth 100000 in
set_option maxHeartbeats 4000000 in
theorem k_X0_findMates_b87 {p : Program} {l : Launch} {e : Env} {s : State} {m : MethodId} {args : Array Value} {below : List Frame} {meth : Method} {c : Code} {D : va_G} {ids : m_I3} {st : m_T} {A : Nat → Prop} {z : Nat} {hF : mH} (hx : p.tables.exec = Jvm.exec) (hb : c.code = cX0_findMates) (hr : meth.sig.returnType = none) (hml : c.maxLocals = 6) (hown : s.vm.findClass RX0 = some m.cls) (hts : ∀ w ∈ (m_ws yX0_findMates cX0_findMates 6 (none)), w.before args s = true) (hlocks : meth.locks = false) (hin : meth.name = yX0_findMates.name) (hE : m_EV st A s s.heap) (hA : ∀ q, s.heap.size ≤ q → A q) {k18 : mH → Nat → Nat → Int32 → Int32 → Option (mH)} (hk18 : ∀ (h : mH) (v0 : Nat) (v1 : Nat) (v2 : Int32) (v3 : Int32) (H : Heap) (locs : List Loc) (ls : Array Slot), k18 h v0 v1 v2 v3 = some hF → Rl D ids A h s H → H.size = z → va_S A s.heap H locs → lv_has ls 6 [(0, .ref v0), (1, .ref v1), (2, .int v2), (3, .int v3)] → W p l e rm_X0_findMates s m args below meth c H locs 0 0 (MQ below (mQv D ids A hF z) args s 0 0 A) (F0 m 18 ls [])) (h : mH) (v0 : Nat) (v1 : Nat) (v2 : Int32) (v3 : Int32) (v4 : Int32) (H : Heap) (locs : List Loc) (ls : Array Slot) (hrun : s_X0_findMates_b87 k18 h v0 v1 v2 v3 v4 = some hF) (hR : Rl D ids A h s H) (hz : H.size = z) (hS : va_S A s.heap H locs) (hl : lv_has ls 6 [(0, .ref v0), (1, .ref v1), (2, .int v2), (3, .int v3), (4, .int v4)]) : W p l e rm_X0_findMates s m args below meth c H locs 0 0 (MQ below (mQv D ids A hF z) args s 0 0 A) (F0 m 87 ls []) := by
  unfold s_X0_findMates_b87 at hrun
  refine lv_aload_n hx hb dX0_findMates_87 rfl (lv_at hl 0 rfl) ?_
  obtain ⟨x88, hc9, hrun⟩ := m_bind hrun
  refine mr_get (C := RX0) (T := TX0) (N := 9) (ci := 0) hx hb hts (fun w q => m_ws_in (wi_X0 w q)) hown hR rfl 6 (by decide) (hts _ (m_ws_in wm_0_113)) (fun _ h9 => h9) (m_gr_spec hc9) dX0_findMates_88 ?_
  refine lv_iload hx hb dX0_findMates_91 (lv_at hl 4 rfl) ?_
  obtain ⟨x93, hc9, hrun⟩ := m_bind hrun
  refine mr_calli (mr_runS (As := [.int v4]) (rest := [.ref x88]) hx hb hml hown hts (c_X4_walletOf l D ids st z hc9) yk_X4_walletOf ys_X4_walletOf wm_0_207 ⟨(Nat.le_of_ble_eq_true rfl), (Nat.le_of_ble_eq_true rfl)⟩ (mr_recvS hR hE hz hS hA) hl.1 rfl (Nat.le_of_ble_eq_true rfl) dX0_findMates_93 ⟨(Nat.le_of_ble_eq_true rfl), (Nat.le_of_ble_eq_true rfl)⟩) hR hz hS hA (fun H locs hR hz hS => ?_)
  refine lv_iload_n hx hb dX0_findMates_96 rfl (lv_at hl 3 rfl) ?_
  obtain ⟨h97, hc9, hrun⟩ := m_bind hrun
  refine mr_callv (mr_runS (As := [.ref x88, .int x93, .int v3]) (rest := []) hx hb hml hown hts (c_X1_put l D ids st z hc9) yk_X1_put ys_X1_put wm_0_222 ⟨(Nat.le_of_ble_eq_true rfl), (Nat.le_of_ble_eq_true rfl)⟩ (mr_recvS hR hE hz hS hA) hl.1 rfl (Nat.le_of_ble_eq_true rfl) dX0_findMates_97 ⟨(Nat.le_of_ble_eq_true rfl), (Nat.le_of_ble_eq_true rfl)⟩) hR hz hS hA (fun H locs hR hz hS => ?_)
  refine lv_iinc (v := v3 + 1) (lv' := [(3, .int (v3 + 1)), (0, .ref v0), (1, .ref v1), (2, .int v2), (4, .int v4)]) hx hb dX0_findMates_100 hl (k := 3) rfl rfl (by decide) rfl (fun ls hl => ?_)
  refine lv_goto (tgt := 18) hx hb dX0_findMates_103 (by decide) ?_
  exact hk18 _ _ _ _ _ _ _ _ hrun hR hz hS (lv_sub hl [1, 2, 3, 0] rfl)
set_option maxRecDepth 100000 in
set_option maxHeartbeats 4000000 in
theorem k_X0_findMates_L18 {p : Program} {l : Launch} {e : Env} {s : State} {m : MethodId} {args : Array Value} {below : List Frame} {meth : Method} {c : Code} {D : va_G} {ids : m_I3} {st : m_T} {A : Nat → Prop} {z : Nat} {hF : mH} (hx : p.tables.exec = Jvm.exec) (hb : c.code = cX0_findMates) (hr : meth.sig.returnType = none) (hml : c.maxLocals = 6) (hown : s.vm.findClass RX0 = some m.cls) (hts : ∀ w ∈ (m_ws yX0_findMates cX0_findMates 6 (none)), w.before args s = true) (hlocks : meth.locks = false) (hin : meth.name = yX0_findMates.name) (hE : m_EV st A s s.heap) (hA : ∀ q, s.heap.size ≤ q → A q) : ∀ (n : Nat) (h : mH) (v0 : Nat) (v1 : Nat) (v2 : Int32) (v3 : Int32) (H : Heap) (locs : List Loc) (ls : Array Slot), s_X0_findMates_L18 n h v0 v1 v2 v3 = some hF → Rl D ids A h s H → H.size = z → va_S A s.heap H locs → lv_has ls 6 [(0, .ref v0), (1, .ref v1), (2, .int v2), (3, .int v3)] → W p l e rm_X0_findMates s m args below meth c H locs 0 0 (MQ below (mQv D ids A hF z) args s 0 0 A) (F0 m 18 ls []) := by
  intro n
  induction n with
  | zero => intro h v0 v1 v2 v3 H locs ls hrun; exact absurd hrun (by intro h9; cases h9)
  | succ n ih =>
    intro h v0 v1 v2 v3 H locs ls hrun hR hz hS hl
    rw [s_X0_findMates_L18] at hrun
    refine lv_iload_n hx hb dX0_findMates_18 rfl (lv_at hl 3 rfl) ?_
    refine lv_aload_n hx hb dX0_findMates_19 rfl (lv_at hl 1 rfl) ?_
    obtain ⟨x20, hc9, hrun⟩ := m_bind hrun
    refine mr_getN (C := RX5) (T := TX5) (N := 2) (ci := 3) hx hb hts (fun w q => m_ws_in (wi_X5 w q)) hown hR rfl 1 (by decide) (hE.nf (i := 1) rfl) (fun _ h9 => h9) (m_gi_spec hc9) dX0_findMates_20 ?_
    refine lv_icmp_ge (tgt := 106) hx hb dX0_findMates_23 (by decide) (fun hc => ?_) (fun hc => ?_)
    · have hrun := mt_t hrun hc
      obtain rfl := Option.some.inj hrun
      exact mr_vret hx hb hr hlocks hR hz hS dX0_findMates_106
    · have hrun := mt_f hrun hc
      refine lv_aload_n hx hb dX0_findMates_26 rfl (lv_at hl 1 rfl) ?_
      refine lv_iload_n hx hb dX0_findMates_27 rfl (lv_at hl 3 rfl) ?_
      obtain ⟨_, ho9, hrun⟩ := m_bind hrun
      obtain ⟨fs9, ho9⟩ := m_is_spec ho9
      obtain ⟨x28, hc9, hrun⟩ := m_bind hrun
      refine mr_calli (mr_runV (As := [.int v3]) (rest := []) hx hb hml hown hts (c_X5_tapAt l D ids st z hc9) yk_X5_tapAt ys_X5_tapAt wm_0_202 ⟨(Nat.le_of_ble_eq_true rfl), (Nat.le_of_ble_eq_true rfl)⟩ (mr_recv (ci := 3) hR hE hz hS hA rfl ho9) hl.1 rfl (Nat.le_of_ble_eq_true rfl) dX0_findMates_28 ⟨(Nat.le_of_ble_eq_true rfl), (Nat.le_of_ble_eq_true rfl)⟩) hR hz hS hA (fun H locs hR hz hS => ?_)
      refine lv_istore (lv' := [(4, .int x28), (0, .ref v0), (1, .ref v1), (2, .int v2), (3, .int v3)]) hx hb dX0_findMates_31 hl (by decide) rfl (fun ls hl => ?_)
      refine lv_aload_n hx hb dX0_findMates_33 rfl (lv_at hl 1 rfl) ?_
      obtain ⟨x34, hc9, hrun⟩ := m_bind hrun
      refine mr_get (C := RX0) (T := TX0) (N := 9) (ci := 0) hx hb hts (fun w q => m_ws_in (wi_X0 w q)) hown hR rfl 6 (by decide) (hts _ (m_ws_in wm_0_113)) (fun _ h9 => h9) (m_gr_spec hc9) dX0_findMates_34 ?_
      refine lv_iload hx hb dX0_findMates_37 (lv_at hl 0 rfl) ?_
      obtain ⟨x39, hc9, hrun⟩ := m_bind hrun
      refine mr_calli (mr_runS (As := [.int x28]) (rest := [.ref x34]) hx hb hml hown hts (c_X4_walletOf l D ids st z hc9) yk_X4_walletOf ys_X4_walletOf wm_0_207 ⟨(Nat.le_of_ble_eq_true rfl), (Nat.le_of_ble_eq_true rfl)⟩ (mr_recvS hR hE hz hS hA) hl.1 rfl (Nat.le_of_ble_eq_true rfl) dX0_findMates_39 ⟨(Nat.le_of_ble_eq_true rfl), (Nat.le_of_ble_eq_true rfl)⟩) hR hz hS hA (fun H locs hR hz hS => ?_)
      obtain ⟨x42, hc9, hrun⟩ := m_bind hrun
      refine mr_calli (mr_runS (As := [.ref x34, .int x39]) (rest := []) hx hb hml hown hts (c_X1_at l D ids st z hc9) yk_X1_at ys_X1_at wm_0_194 ⟨(Nat.le_of_ble_eq_true rfl), (Nat.le_of_ble_eq_true rfl)⟩ (mr_recvS hR hE hz hS hA) hl.1 rfl (Nat.le_of_ble_eq_true rfl) dX0_findMates_42 ⟨(Nat.le_of_ble_eq_true rfl), (Nat.le_of_ble_eq_true rfl)⟩) hR hz hS hA (fun H locs hR hz hS => ?_)
      refine lv_istore (lv' := [(5, .int x42), (4, .int x28), (0, .ref v0), (1, .ref v1), (2, .int v2), (3, .int v3)]) hx hb dX0_findMates_45 hl (by decide) rfl (fun ls hl => ?_)
      refine lv_iload hx hb dX0_findMates_47 (lv_at hl 0 rfl) ?_
      refine lv_if_lt (tgt := 87) hx hb dX0_findMates_49 (by decide) (fun hc => ?_) (fun hc => ?_)
      · have hrun := mt_t hrun hc
        exact k_X0_findMates_b87 hx hb hr hml hown hts hlocks hin hE hA ih _ _ _ _ _ _ _ _ _ hrun hR hz hS (lv_sub hl [2, 3, 4, 5, 1] rfl)
      · have hrun := mt_f hrun hc
        refine lv_aload_n hx hb dX0_findMates_52 rfl (lv_at hl 3 rfl) ?_
        refine lv_iload hx hb dX0_findMates_53 (lv_at hl 0 rfl) ?_
        obtain ⟨_, ho9, hrun⟩ := m_bind hrun
        obtain ⟨fs9, ho9⟩ := m_is_spec ho9
        obtain ⟨x55, hc9, hrun⟩ := m_bind hrun
        refine mr_calli (mr_runV (As := [.int x42]) (rest := []) hx hb hml hown hts (c_X5_tapAt l D ids st z hc9) yk_X5_tapAt ys_X5_tapAt wm_0_202 ⟨(Nat.le_of_ble_eq_true rfl), (Nat.le_of_ble_eq_true rfl)⟩ (mr_recv (ci := 3) hR hE hz hS hA rfl ho9) hl.1 rfl (Nat.le_of_ble_eq_true rfl) dX0_findMates_55 ⟨(Nat.le_of_ble_eq_true rfl), (Nat.le_of_ble_eq_true rfl)⟩) hR hz hS hA (fun H locs hR hz hS => ?_)
        refine lv_iload hx hb dX0_findMates_58 (lv_at hl 1 rfl) ?_
        refine lv_iload_n hx hb dX0_findMates_60 rfl (lv_at hl 4 rfl) ?_
        obtain ⟨x61, hc9, hrun⟩ := m_bind hrun
        refine mr_calli (mr_runS (As := [.int x55, .int x28, .int v2]) (rest := []) hx hb hml hown hts (c_X0_isRide l D ids st z hc9) yk_X0_isRide ys_X0_isRide wm_0_210 ⟨(Nat.le_of_ble_eq_true rfl), (Nat.le_of_ble_eq_true rfl)⟩ (mr_recvS hR hE hz hS hA) hl.1 rfl (Nat.le_of_ble_eq_true rfl) dX0_findMates_61 ⟨(Nat.le_of_ble_eq_true rfl), (Nat.le_of_ble_eq_true rfl)⟩) hR hz hS hA (fun H locs hR hz hS => ?_)
        refine lv_if_eq (tgt := 87) hx hb dX0_findMates_64 (by decide) (fun hc => ?_) (fun hc => ?_)
        · have hrun := mt_t hrun hc
          exact k_X0_findMates_b87 hx hb hr hml hown hts hlocks hin hE hA ih _ _ _ _ _ _ _ _ _ hrun hR hz hS (lv_sub hl [2, 3, 4, 5, 1] rfl)
        · have hrun := mt_f hrun hc
          refine lv_aload_n hx hb dX0_findMates_67 rfl (lv_at hl 2 rfl) ?_
          obtain ⟨x68, hc9, hrun⟩ := m_bind hrun
          refine mr_get (C := RX0) (T := TX0) (N := 9) (ci := 0) hx hb hts (fun w q => m_ws_in (wi_X0 w q)) hown hR rfl 0 (by decide) (hts _ (m_ws_in wm_0_101)) (fun _ h9 => h9) (m_gr_spec hc9) dX0_findMates_68 ?_
          refine lv_iload hx hb dX0_findMates_71 (lv_at hl 0 rfl) ?_
          refine lv_iload_n hx hb dX0_findMates_73 rfl (lv_at hl 5 rfl) ?_
          obtain ⟨h74, hc9, hrun⟩ := m_bind hrun
          refine mr_callv (mr_runS (As := [.ref x68, .int x42, .int v3]) (rest := []) hx hb hml hown hts (c_X1_put l D ids st z hc9) yk_X1_put ys_X1_put wm_0_222 ⟨(Nat.le_of_ble_eq_true rfl), (Nat.le_of_ble_eq_true rfl)⟩ (mr_recvS hR hE hz hS hA) hl.1 rfl (Nat.le_of_ble_eq_true rfl) dX0_findMates_74 ⟨(Nat.le_of_ble_eq_true rfl), (Nat.le_of_ble_eq_true rfl)⟩) hR hz hS hA (fun H locs hR hz hS => ?_)
          refine lv_aload_n hx hb dX0_findMates_77 rfl (lv_at hl 2 rfl) ?_
          obtain ⟨x78, hc9, hrun⟩ := m_bind hrun
          refine mr_get (C := RX0) (T := TX0) (N := 9) (ci := 0) hx hb hts (fun w q => m_ws_in (wi_X0 w q)) hown hR rfl 0 (by decide) (hts _ (m_ws_in wm_0_101)) (fun _ h9 => h9) (m_gr_spec hc9) dX0_findMates_78 ?_
          refine lv_iload_n hx hb dX0_findMates_81 rfl (lv_at hl 5 rfl) ?_
          refine lv_iload hx hb dX0_findMates_82 (lv_at hl 0 rfl) ?_
          obtain ⟨h84, hc9, hrun⟩ := m_bind hrun
          refine mr_callv (mr_runS (As := [.ref x78, .int v3, .int x42]) (rest := []) hx hb hml hown hts (c_X1_put l D ids st z hc9) yk_X1_put ys_X1_put wm_0_222 ⟨(Nat.le_of_ble_eq_true rfl), (Nat.le_of_ble_eq_true rfl)⟩ (mr_recvS hR hE hz hS hA) hl.1 rfl (Nat.le_of_ble_eq_true rfl) dX0_findMates_84 ⟨(Nat.le_of_ble_eq_true rfl), (Nat.le_of_ble_eq_true rfl)⟩) hR hz hS hA (fun H locs hR hz hS => ?_)
          exact k_X0_findMates_b87 hx hb hr hml hown hts hlocks hin hE hA ih _ _ _ _ _ _ _ _ _ hrun hR hz hS (lv_sub hl [2, 3, 4, 5, 1] rfl)
set_option maxRecDepth 100000 in
set_option maxHeartbeats 4000000 in
theorem c_X0_findMates (l : Launch) (D : va_G) (ids : m_I3) (st : m_T) (z : Nat) {h : mH} {v0 : Nat} {v1 : Nat} {v2 : Int32} {hF : mH} (hrun : s_X0_findMates h v0 v1 v2 = some hF) : Met l yX0_findMates (m_ws yX0_findMates cX0_findMates 6 (none)) rm_X0_findMates (mPc D ids st [.ref v0, .ref v1, .int v2] h z) (mQv D ids (m_A h z) hF z) rm_X0_findMates.cells rm_X0_findMates.slots (m_A h z) := by
  refine mr_of (cc := cX0_findMates) (maxL := 6) (ret := none) (by decide) rfl (Nat.le_of_ble_eq_true rfl) ?_
  intro p e s m below meth c ls hx hb hr hml hown hts hlocks hin hR hE hz hl
  have hA : ∀ q, s.heap.size ≤ q → m_A h z q := fun q hq => Or.inr (by rw [← hz]; exact hq)
  have hS : va_S (m_A h z) s.heap s.heap [] := va_S.rf
  have hl : lv_has ls 6 [(0, .ref v0), (1, .ref v1), (2, .int v2)] := hl
  unfold s_X0_findMates at hrun
  refine lv_aload_n hx hb dX0_findMates_0 rfl (lv_at hl 0 rfl) ?_
  obtain ⟨x1, hc9, hrun⟩ := m_bind hrun
  refine mr_get (C := RX0) (T := TX0) (N := 9) (ci := 0) hx hb hts (fun w q => m_ws_in (wi_X0 w q)) hown hR rfl 0 (by decide) (hts _ (m_ws_in wm_0_101)) (fun _ h9 => h9) (m_gr_spec hc9) dX0_findMates_1 ?_
  refine lv_iconst (v := (-1)) hx hb dX0_findMates_4 (by decide) ?_
  obtain ⟨h5, hc9, hrun⟩ := m_bind hrun
  refine mr_callv (mr_runS (As := [.ref x1, .int (-1)]) (rest := []) hx hb hml hown hts (c_X1_fill l D ids st z hc9) yk_X1_fill ys_X1_fill wm_0_201 ⟨(Nat.le_of_ble_eq_true rfl), (Nat.le_of_ble_eq_true rfl)⟩ (mr_recvS hR hE hz hS hA) hl.1 rfl (Nat.le_of_ble_eq_true rfl) dX0_findMates_5 ⟨(Nat.le_of_ble_eq_true rfl), (Nat.le_of_ble_eq_true rfl)⟩) hR hz hS hA (fun H locs hR hz hS => ?_)
  refine lv_aload_n hx hb dX0_findMates_8 rfl (lv_at hl 0 rfl) ?_
  obtain ⟨x9, hc9, hrun⟩ := m_bind hrun
  refine mr_get (C := RX0) (T := TX0) (N := 9) (ci := 0) hx hb hts (fun w q => m_ws_in (wi_X0 w q)) hown hR rfl 6 (by decide) (hts _ (m_ws_in wm_0_113)) (fun _ h9 => h9) (m_gr_spec hc9) dX0_findMates_9 ?_
  refine lv_iconst (v := (-1)) hx hb dX0_findMates_12 (by decide) ?_
  obtain ⟨h13, hc9, hrun⟩ := m_bind hrun
  refine mr_callv (mr_runS (As := [.ref x9, .int (-1)]) (rest := []) hx hb hml hown hts (c_X1_fill l D ids st z hc9) yk_X1_fill ys_X1_fill wm_0_201 ⟨(Nat.le_of_ble_eq_true rfl), (Nat.le_of_ble_eq_true rfl)⟩ (mr_recvS hR hE hz hS hA) hl.1 rfl (Nat.le_of_ble_eq_true rfl) dX0_findMates_13 ⟨(Nat.le_of_ble_eq_true rfl), (Nat.le_of_ble_eq_true rfl)⟩) hR hz hS hA (fun H locs hR hz hS => ?_)
  refine lv_iconst (v := 0) hx hb dX0_findMates_16 (by decide) ?_
  refine lv_istore_n (lv' := [(3, .int 0), (0, .ref v0), (1, .ref v1), (2, .int v2)]) hx hb dX0_findMates_17 rfl hl (by decide) rfl (fun ls hl => ?_)
  exact k_X0_findMates_L18 hx hb hr hml hown hts hlocks hin hE hA _ _ _ _ _ _ _ _ _ hrun hR hz hS (lv_sub hl [1, 2, 3, 0] rfl)
/-! X4_stationOf -/
abbrev rm_X4_stationOf : Room := { frames := 0, cells := 0, slots := 0, locals := 0 }
theorem yk_X4_stationOf : m_K yX4_stationOf cX4_stationOf 1 (some .int) 1 := ⟨wm_0_234, wm_0_8, by decide +kernel⟩
theorem ys_X4_stationOf : Cond.static yX4_stationOf ∈ wT := wm_0_233
set_option maxRecDepth 100000 in
set_option maxHeartbeats 4000000 in
theorem c_X4_stationOf (l : Launch) (D : va_G) (ids : m_I3) (st : m_T) (z : Nat) {h : mH} {v0 : Int32} {r : Int32} (hrun : s_X4_stationOf h v0 = some r) : Met l yX4_stationOf (m_ws yX4_stationOf cX4_stationOf 1 (some .int)) rm_X4_stationOf (mPc D ids st [.int v0] h z) (mQi D ids (m_A h z) r h z) rm_X4_stationOf.cells rm_X4_stationOf.slots (m_A h z) := by
  refine mr_of (cc := cX4_stationOf) (maxL := 1) (ret := some .int) (by decide) rfl (Nat.le_of_ble_eq_true rfl) ?_
  intro p e s m below meth c ls hx hb hr hml hown hts hlocks hin hR hE hz hl
  have hA : ∀ q, s.heap.size ≤ q → m_A h z q := fun q hq => Or.inr (by rw [← hz]; exact hq)
  have hS : va_S (m_A h z) s.heap s.heap [] := va_S.rf
  have hl : lv_has ls 1 [(0, .int v0)] := hl
  unfold s_X4_stationOf at hrun
  refine lv_iload_n hx hb dX4_stationOf_0 rfl (lv_at hl 0 rfl) ?_
  refine lv_iconst (v := 2) hx hb dX4_stationOf_1 (by decide) ?_
  refine lv_ishr hx hb dX4_stationOf_2 ?_
  refine lv_bipush (v := 15) hx hb dX4_stationOf_3 (by decide) ?_
  refine lv_iand hx hb dX4_stationOf_5 ?_
  obtain rfl := Option.some.inj hrun
  exact mr_iret hx hb hr hlocks hR hz hS dX4_stationOf_6
/-! X4_zoneOf -/
abbrev rm_X4_zoneOf : Room := { frames := 1, cells := 0, slots := 0, locals := 20 }
theorem yk_X4_zoneOf : m_K yX4_zoneOf cX4_zoneOf 1 (some .int) 1 := ⟨wm_0_231, wm_0_8, by decide +kernel⟩
theorem ys_X4_zoneOf : Cond.static yX4_zoneOf ∈ wT := wm_0_230
set_option maxRecDepth 100000 in
set_option maxHeartbeats 4000000 in
theorem c_X4_zoneOf (l : Launch) (D : va_G) (ids : m_I3) (st : m_T) (z : Nat) {h : mH} {v0 : Int32} {r : Int32} (hrun : s_X4_zoneOf h v0 = some r) : Met l yX4_zoneOf (m_ws yX4_zoneOf cX4_zoneOf 1 (some .int)) rm_X4_zoneOf (mPc D ids st [.int v0] h z) (mQi D ids (m_A h z) r h z) rm_X4_zoneOf.cells rm_X4_zoneOf.slots (m_A h z) := by
  refine mr_of (cc := cX4_zoneOf) (maxL := 1) (ret := some .int) (by decide) rfl (Nat.le_of_ble_eq_true rfl) ?_
  intro p e s m below meth c ls hx hb hr hml hown hts hlocks hin hR hE hz hl
  have hA : ∀ q, s.heap.size ≤ q → m_A h z q := fun q hq => Or.inr (by rw [← hz]; exact hq)
  have hS : va_S (m_A h z) s.heap s.heap [] := va_S.rf
  have hl : lv_has ls 1 [(0, .int v0)] := hl
  unfold s_X4_zoneOf at hrun
  refine lv_iload_n hx hb dX4_zoneOf_0 rfl (lv_at hl 0 rfl) ?_
  obtain ⟨x1, hc9, hrun⟩ := m_bind hrun
  refine mr_calli (mr_runS (As := [.int v0]) (rest := []) hx hb hml hown hts (c_X4_stationOf l D ids st z hc9) yk_X4_stationOf ys_X4_stationOf wm_0_232 ⟨(Nat.le_of_ble_eq_true rfl), (Nat.le_of_ble_eq_true rfl)⟩ (mr_recvS hR hE hz hS hA) hl.1 rfl (Nat.le_of_ble_eq_true rfl) dX4_zoneOf_1 ⟨(Nat.le_of_ble_eq_true rfl), (Nat.le_of_ble_eq_true rfl)⟩) hR hz hS hA (fun H locs hR hz hS => ?_)
  refine lv_iconst (v := 2) hx hb dX4_zoneOf_4 (by decide) ?_
  obtain ⟨x5, hc9, hrun⟩ := m_bind hrun
  obtain ⟨hn9, rfl⟩ := m_div_spec hc9
  refine lv_idiv hx hb dX4_zoneOf_5 hn9 ?_
  refine lv_topi (fun x5 ex5 => ?_)
  try rw [← ex5] at hrun
  obtain rfl := Option.some.inj hrun
  exact mr_iret hx hb hr hlocks hR hz hS dX4_zoneOf_6
/-! X0_findFares -/
abbrev rm_X0_findFares : Room := { frames := 2, cells := 0, slots := 0, locals := 42 }
theorem yk_X0_findFares : m_K yX0_findFares cX0_findFares 7 (none) 2 := ⟨wm_0_228, wm_0_5, by decide +kernel⟩
theorem ys_X0_findFares : Cond.instanceMethod yX0_findFares ∈ wT ∧ Cond.selects RX0 yX0_findFares yX0_findFares ∈ wT := ⟨wm_0_227, wp_0_1⟩
set_option maxRecDepth 100000 in
set_option maxHeartbeats 4000000 in
theorem k_X0_findFares_b72 {p : Program} {l : Launch} {e : Env} {s : State} {m : MethodId} {args : Array Value} {below : List Frame} {meth : Method} {c : Code} {D : va_G} {ids : m_I3} {st : m_T} {A : Nat → Prop} {z : Nat} {hF : mH} (hx : p.tables.exec = Jvm.exec) (hb : c.code = cX0_findFares) (hr : meth.sig.returnType = none) (hml : c.maxLocals = 7) (hown : s.vm.findClass RX0 = some m.cls) (hts : ∀ w ∈ (m_ws yX0_findFares cX0_findFares 7 (none)), w.before args s = true) (hlocks : meth.locks = false) (hin : meth.name = yX0_findFares.name) (hE : m_EV st A s s.heap) (hA : ∀ q, s.heap.size ≤ q → A q) {k2 : mH → Nat → Nat → Nat → Int32 → Option (mH)} (hk2 : ∀ (h : mH) (v0 : Nat) (v1 : Nat) (v2 : Nat) (v3 : Int32) (H : Heap) (locs : List Loc) (ls : Array Slot), k2 h v0 v1 v2 v3 = some hF → Rl D ids A h s H → H.size = z → va_S A s.heap H locs → lv_has ls 7 [(0, .ref v0), (1, .ref v1), (2, .ref v2), (3, .int v3)] → W p l e rm_X0_findFares s m args below meth c H locs 0 0 (MQ below (mQv D ids A hF z) args s 0 0 A) (F0 m 2 ls [])) (h : mH) (v0 : Nat) (v1 : Nat) (v2 : Nat) (v3 : Int32) (v5 : Int32) (H : Heap) (locs : List Loc) (ls : Array Slot) (hrun : s_X0_findFares_b72 k2 h v0 v1 v2 v3 v5 = some hF) (hR : Rl D ids A h s H) (hz : H.size = z) (hS : va_S A s.heap H locs) (hl : lv_has ls 7 [(0, .ref v0), (1, .ref v1), (2, .ref v2), (3, .int v3), (5, .int v5)]) : W p l e rm_X0_findFares s m args below meth c H locs 0 0 (MQ below (mQv D ids A hF z) args s 0 0 A) (F0 m 72 ls []) := by
  unfold s_X0_findFares_b72 at hrun
  refine lv_aload_n hx hb dX0_findFares_72 rfl (lv_at hl 0 rfl) ?_
  obtain ⟨x73, hc9, hrun⟩ := m_bind hrun
  refine mr_get (C := RX0) (T := TX0) (N := 9) (ci := 0) hx hb hts (fun w q => m_ws_in (wi_X0 w q)) hown hR rfl 1 (by decide) (hts _ (m_ws_in wm_0_103)) (fun _ h9 => h9) (m_gr_spec hc9) dX0_findFares_73 ?_
  refine lv_iload_n hx hb dX0_findFares_76 rfl (lv_at hl 3 rfl) ?_
  refine lv_iload hx hb dX0_findFares_77 (lv_at hl 4 rfl) ?_
  obtain ⟨h79, hc9, hrun⟩ := m_bind hrun
  refine mr_callv (mr_runS (As := [.ref x73, .int v3, .int v5]) (rest := []) hx hb hml hown hts (c_X1_put l D ids st z hc9) yk_X1_put ys_X1_put wm_0_222 ⟨(Nat.le_of_ble_eq_true rfl), (Nat.le_of_ble_eq_true rfl)⟩ (mr_recvS hR hE hz hS hA) hl.1 rfl (Nat.le_of_ble_eq_true rfl) dX0_findFares_79 ⟨(Nat.le_of_ble_eq_true rfl), (Nat.le_of_ble_eq_true rfl)⟩) hR hz hS hA (fun H locs hR hz hS => ?_)
  refine lv_iinc (v := v3 + 1) (lv' := [(3, .int (v3 + 1)), (0, .ref v0), (1, .ref v1), (2, .ref v2), (5, .int v5)]) hx hb dX0_findFares_82 hl (k := 3) rfl rfl (by decide) rfl (fun ls hl => ?_)
  refine lv_goto (tgt := 2) hx hb dX0_findFares_85 (by decide) ?_
  exact hk2 _ _ _ _ _ _ _ _ hrun hR hz hS (lv_sub hl [1, 2, 3, 0] rfl)
set_option maxRecDepth 100000 in
set_option maxHeartbeats 4000000 in
theorem k_X0_findFares_L2 {p : Program} {l : Launch} {e : Env} {s : State} {m : MethodId} {args : Array Value} {below : List Frame} {meth : Method} {c : Code} {D : va_G} {ids : m_I3} {st : m_T} {A : Nat → Prop} {z : Nat} {hF : mH} (hx : p.tables.exec = Jvm.exec) (hb : c.code = cX0_findFares) (hr : meth.sig.returnType = none) (hml : c.maxLocals = 7) (hown : s.vm.findClass RX0 = some m.cls) (hts : ∀ w ∈ (m_ws yX0_findFares cX0_findFares 7 (none)), w.before args s = true) (hlocks : meth.locks = false) (hin : meth.name = yX0_findFares.name) (hE : m_EV st A s s.heap) (hA : ∀ q, s.heap.size ≤ q → A q) : ∀ (n : Nat) (h : mH) (v0 : Nat) (v1 : Nat) (v2 : Nat) (v3 : Int32) (H : Heap) (locs : List Loc) (ls : Array Slot), s_X0_findFares_L2 n h v0 v1 v2 v3 = some hF → Rl D ids A h s H → H.size = z → va_S A s.heap H locs → lv_has ls 7 [(0, .ref v0), (1, .ref v1), (2, .ref v2), (3, .int v3)] → W p l e rm_X0_findFares s m args below meth c H locs 0 0 (MQ below (mQv D ids A hF z) args s 0 0 A) (F0 m 2 ls []) := by
  intro n
  induction n with
  | zero => intro h v0 v1 v2 v3 H locs ls hrun; exact absurd hrun (by intro h9; cases h9)
  | succ n ih =>
    intro h v0 v1 v2 v3 H locs ls hrun hR hz hS hl
    rw [s_X0_findFares_L2] at hrun
    refine lv_iload_n hx hb dX0_findFares_2 rfl (lv_at hl 3 rfl) ?_
    refine lv_aload_n hx hb dX0_findFares_3 rfl (lv_at hl 1 rfl) ?_
    obtain ⟨x4, hc9, hrun⟩ := m_bind hrun
    refine mr_getN (C := RX5) (T := TX5) (N := 2) (ci := 3) hx hb hts (fun w q => m_ws_in (wi_X5 w q)) hown hR rfl 1 (by decide) (hE.nf (i := 1) rfl) (fun _ h9 => h9) (m_gi_spec hc9) dX0_findFares_4 ?_
    refine lv_icmp_ge (tgt := 88) hx hb dX0_findFares_7 (by decide) (fun hc => ?_) (fun hc => ?_)
    · have hrun := mt_t hrun hc
      obtain rfl := Option.some.inj hrun
      exact mr_vret hx hb hr hlocks hR hz hS dX0_findFares_88
    · have hrun := mt_f hrun hc
      refine lv_aload_n hx hb dX0_findFares_10 rfl (lv_at hl 0 rfl) ?_
      obtain ⟨x11, hc9, hrun⟩ := m_bind hrun
      refine mr_get (C := RX0) (T := TX0) (N := 9) (ci := 0) hx hb hts (fun w q => m_ws_in (wi_X0 w q)) hown hR rfl 0 (by decide) (hts _ (m_ws_in wm_0_101)) (fun _ h9 => h9) (m_gr_spec hc9) dX0_findFares_11 ?_
      refine lv_iload_n hx hb dX0_findFares_14 rfl (lv_at hl 3 rfl) ?_
      obtain ⟨x15, hc9, hrun⟩ := m_bind hrun
      refine mr_calli (mr_runS (As := [.ref x11, .int v3]) (rest := []) hx hb hml hown hts (c_X1_at l D ids st z hc9) yk_X1_at ys_X1_at wm_0_194 ⟨(Nat.le_of_ble_eq_true rfl), (Nat.le_of_ble_eq_true rfl)⟩ (mr_recvS hR hE hz hS hA) hl.1 rfl (Nat.le_of_ble_eq_true rfl) dX0_findFares_15 ⟨(Nat.le_of_ble_eq_true rfl), (Nat.le_of_ble_eq_true rfl)⟩) hR hz hS hA (fun H locs hR hz hS => ?_)
      refine lv_istore (lv' := [(4, .int x15), (0, .ref v0), (1, .ref v1), (2, .ref v2), (3, .int v3)]) hx hb dX0_findFares_18 hl (by decide) rfl (fun ls hl => ?_)
      refine lv_aload_n hx hb dX0_findFares_20 rfl (lv_at hl 3 rfl) ?_
      refine lv_iconst (v := 2) hx hb dX0_findFares_21 (by decide) ?_
      obtain ⟨x22, hc9, hrun⟩ := m_bind hrun
      refine mr_calli (mr_runS (As := [.ref v2, .int 2]) (rest := []) hx hb hml hown hts (c_X1_at l D ids st z hc9) yk_X1_at ys_X1_at wm_0_194 ⟨(Nat.le_of_ble_eq_true rfl), (Nat.le_of_ble_eq_true rfl)⟩ (mr_recvS hR hE hz hS hA) hl.1 rfl (Nat.le_of_ble_eq_true rfl) dX0_findFares_22 ⟨(Nat.le_of_ble_eq_true rfl), (Nat.le_of_ble_eq_true rfl)⟩) hR hz hS hA (fun H locs hR hz hS => ?_)
      refine lv_istore (lv' := [(5, .int x22), (4, .int x15), (0, .ref v0), (1, .ref v1), (2, .ref v2), (3, .int v3)]) hx hb dX0_findFares_25 hl (by decide) rfl (fun ls hl => ?_)
      refine lv_iload hx hb dX0_findFares_27 (lv_at hl 1 rfl) ?_
      refine lv_iconst (v := (-1)) hx hb dX0_findFares_29 (by decide) ?_
      refine lv_icmp_eq (tgt := 72) hx hb dX0_findFares_30 (by decide) (fun hc => ?_) (fun hc => ?_)
      · have hrun := mt_t hrun hc
        exact k_X0_findFares_b72 hx hb hr hml hown hts hlocks hin hE hA ih _ _ _ _ _ _ _ _ _ hrun hR hz hS (lv_sub hl [2, 3, 4, 5, 0] rfl)
      · have hrun := mt_f hrun hc
        refine lv_aload_n hx hb dX0_findFares_33 rfl (lv_at hl 3 rfl) ?_
        refine lv_iload_n hx hb dX0_findFares_34 rfl (lv_at hl 5 rfl) ?_
        obtain ⟨_, ho9, hrun⟩ := m_bind hrun
        obtain ⟨fs9, ho9⟩ := m_is_spec ho9
        obtain ⟨x35, hc9, hrun⟩ := m_bind hrun
        refine mr_calli (mr_runV (As := [.int v3]) (rest := []) hx hb hml hown hts (c_X5_tapAt l D ids st z hc9) yk_X5_tapAt ys_X5_tapAt wm_0_202 ⟨(Nat.le_of_ble_eq_true rfl), (Nat.le_of_ble_eq_true rfl)⟩ (mr_recv (ci := 3) hR hE hz hS hA rfl ho9) hl.1 rfl (Nat.le_of_ble_eq_true rfl) dX0_findFares_35 ⟨(Nat.le_of_ble_eq_true rfl), (Nat.le_of_ble_eq_true rfl)⟩) hR hz hS hA (fun H locs hR hz hS => ?_)
        obtain ⟨x38, hc9, hrun⟩ := m_bind hrun
        refine mr_calli (mr_runS (As := [.int x35]) (rest := []) hx hb hml hown hts (c_X4_zoneOf l D ids st z hc9) yk_X4_zoneOf ys_X4_zoneOf wm_0_229 ⟨(Nat.le_of_ble_eq_true rfl), (Nat.le_of_ble_eq_true rfl)⟩ (mr_recvS hR hE hz hS hA) hl.1 rfl (Nat.le_of_ble_eq_true rfl) dX0_findFares_38 ⟨(Nat.le_of_ble_eq_true rfl), (Nat.le_of_ble_eq_true rfl)⟩) hR hz hS hA (fun H locs hR hz hS => ?_)
        refine lv_aload_n hx hb dX0_findFares_41 rfl (lv_at hl 3 rfl) ?_
        refine lv_iload hx hb dX0_findFares_42 (lv_at hl 1 rfl) ?_
        obtain ⟨_, ho9, hrun⟩ := m_bind hrun
        obtain ⟨fs9, ho9⟩ := m_is_spec ho9
        obtain ⟨x44, hc9, hrun⟩ := m_bind hrun
        refine mr_calli (mr_runV (As := [.int x15]) (rest := [.int x38]) hx hb hml hown hts (c_X5_tapAt l D ids st z hc9) yk_X5_tapAt ys_X5_tapAt wm_0_202 ⟨(Nat.le_of_ble_eq_true rfl), (Nat.le_of_ble_eq_true rfl)⟩ (mr_recv (ci := 3) hR hE hz hS hA rfl ho9) hl.1 rfl (Nat.le_of_ble_eq_true rfl) dX0_findFares_44 ⟨(Nat.le_of_ble_eq_true rfl), (Nat.le_of_ble_eq_true rfl)⟩) hR hz hS hA (fun H locs hR hz hS => ?_)
        obtain ⟨x47, hc9, hrun⟩ := m_bind hrun
        refine mr_calli (mr_runS (As := [.int x44]) (rest := [.int x38]) hx hb hml hown hts (c_X4_zoneOf l D ids st z hc9) yk_X4_zoneOf ys_X4_zoneOf wm_0_229 ⟨(Nat.le_of_ble_eq_true rfl), (Nat.le_of_ble_eq_true rfl)⟩ (mr_recvS hR hE hz hS hA) hl.1 rfl (Nat.le_of_ble_eq_true rfl) dX0_findFares_47 ⟨(Nat.le_of_ble_eq_true rfl), (Nat.le_of_ble_eq_true rfl)⟩) hR hz hS hA (fun H locs hR hz hS => ?_)
        refine lv_isub hx hb dX0_findFares_50 ?_
        refine va_mabs hx hb (hml.trans hl.1.symm) hown (hts _ (m_ws_in wm_0_235)) (hts _ (m_ws_in wm_0_236)) (hts _ (m_ws_in wm_0_9)) (hts _ (m_ws_in wm_0_237)) (Nat.le_of_ble_eq_true rfl) (Nat.le_of_ble_eq_true rfl) (Nat.le_of_ble_eq_true rfl) (Nat.le_of_ble_eq_true rfl) dX0_findFares_51 ?_
        refine lv_istore (lv' := [(6, .int (if 0 ≤ (x38 - x47) then (x38 - x47) else 0 - (x38 - x47))), (5, .int x22), (4, .int x15), (0, .ref v0), (1, .ref v1), (2, .ref v2), (3, .int v3)]) hx hb dX0_findFares_54 hl (by decide) rfl (fun ls hl => ?_)
        refine lv_aload_n hx hb dX0_findFares_56 rfl (lv_at hl 5 rfl) ?_
        refine lv_iconst (v := 0) hx hb dX0_findFares_57 (by decide) ?_
        obtain ⟨x58, hc9, hrun⟩ := m_bind hrun
        refine mr_calli (mr_runS (As := [.ref v2, .int 0]) (rest := []) hx hb hml hown hts (c_X1_at l D ids st z hc9) yk_X1_at ys_X1_at wm_0_194 ⟨(Nat.le_of_ble_eq_true rfl), (Nat.le_of_ble_eq_true rfl)⟩ (mr_recvS hR hE hz hS hA) hl.1 rfl (Nat.le_of_ble_eq_true rfl) dX0_findFares_58 ⟨(Nat.le_of_ble_eq_true rfl), (Nat.le_of_ble_eq_true rfl)⟩) hR hz hS hA (fun H locs hR hz hS => ?_)
        refine lv_aload_n hx hb dX0_findFares_61 rfl (lv_at hl 5 rfl) ?_
        refine lv_iconst (v := 1) hx hb dX0_findFares_62 (by decide) ?_
        obtain ⟨x63, hc9, hrun⟩ := m_bind hrun
        refine mr_calli (mr_runS (As := [.ref v2, .int 1]) (rest := [.int x58]) hx hb hml hown hts (c_X1_at l D ids st z hc9) yk_X1_at ys_X1_at wm_0_194 ⟨(Nat.le_of_ble_eq_true rfl), (Nat.le_of_ble_eq_true rfl)⟩ (mr_recvS hR hE hz hS hA) hl.1 rfl (Nat.le_of_ble_eq_true rfl) dX0_findFares_63 ⟨(Nat.le_of_ble_eq_true rfl), (Nat.le_of_ble_eq_true rfl)⟩) hR hz hS hA (fun H locs hR hz hS => ?_)
        refine lv_iload hx hb dX0_findFares_66 (lv_at hl 0 rfl) ?_
        refine lv_imul hx hb dX0_findFares_68 ?_
        refine lv_iadd hx hb dX0_findFares_69 ?_
        refine lv_istore (lv' := [(5, .int (x58 + (x63 * (if 0 ≤ (x38 - x47) then (x38 - x47) else 0 - (x38 - x47))))), (6, .int (if 0 ≤ (x38 - x47) then (x38 - x47) else 0 - (x38 - x47))), (4, .int x15), (0, .ref v0), (1, .ref v1), (2, .ref v2), (3, .int v3)]) hx hb dX0_findFares_70 hl (by decide) rfl (fun ls hl => ?_)
        exact k_X0_findFares_b72 hx hb hr hml hown hts hlocks hin hE hA ih _ _ _ _ _ _ _ _ _ hrun hR hz hS (lv_sub hl [3, 4, 5, 6, 0] rfl)
set_option maxRecDepth 100000 in
set_option maxHeartbeats 4000000 in
theorem c_X0_findFares (l : Launch) (D : va_G) (ids : m_I3) (st : m_T) (z : Nat) {h : mH} {v0 : Nat} {v1 : Nat} {v2 : Nat} {hF : mH} (hrun : s_X0_findFares h v0 v1 v2 = some hF) : Met l yX0_findFares (m_ws yX0_findFares cX0_findFares 7 (none)) rm_X0_findFares (mPc D ids st [.ref v0, .ref v1, .ref v2] h z) (mQv D ids (m_A h z) hF z) rm_X0_findFares.cells rm_X0_findFares.slots (m_A h z) := by
  refine mr_of (cc := cX0_findFares) (maxL := 7) (ret := none) (by decide) rfl (Nat.le_of_ble_eq_true rfl) ?_
  intro p e s m below meth c ls hx hb hr hml hown hts hlocks hin hR hE hz hl
  have hA : ∀ q, s.heap.size ≤ q → m_A h z q := fun q hq => Or.inr (by rw [← hz]; exact hq)
  have hS : va_S (m_A h z) s.heap s.heap [] := va_S.rf
  have hl : lv_has ls 7 [(0, .ref v0), (1, .ref v1), (2, .ref v2)] := hl
  unfold s_X0_findFares at hrun
  refine lv_iconst (v := 0) hx hb dX0_findFares_0 (by decide) ?_
  refine lv_istore_n (lv' := [(3, .int 0), (0, .ref v0), (1, .ref v1), (2, .ref v2)]) hx hb dX0_findFares_1 rfl hl (by decide) rfl (fun ls hl => ?_)
  exact k_X0_findFares_L2 hx hb hr hml hown hts hlocks hin hE hA _ _ _ _ _ _ _ _ _ hrun hR hz hS (lv_sub hl [1, 2, 3, 0] rfl)
/-! X1_raise -/
abbrev rm_X1_raise : Room := { frames := 1, cells := 0, slots := 0, locals := 22 }
theorem yk_X1_raise : m_K yX1_raise cX1_raise 3 (none) 3 := ⟨wm_1_7, wm_0_4, by decide +kernel⟩
theorem ys_X1_raise : Cond.static yX1_raise ∈ wT := wm_1_6
set_option maxRecDepth 100000 in
set_option maxHeartbeats 4000000 in
theorem c_X1_raise (l : Launch) (D : va_G) (ids : m_I3) (st : m_T) (z : Nat) {h : mH} {v0 : Nat} {v1 : Int32} {v2 : Int32} {hF : mH} (hrun : s_X1_raise h v0 v1 v2 = some hF) : Met l yX1_raise (m_ws yX1_raise cX1_raise 3 (none)) rm_X1_raise (mPc D ids st [.ref v0, .int v1, .int v2] h z) (mQv D ids (m_A h z) hF z) rm_X1_raise.cells rm_X1_raise.slots (m_A h z) := by
  refine mr_of (cc := cX1_raise) (maxL := 3) (ret := none) (by decide) rfl (Nat.le_of_ble_eq_true rfl) ?_
  intro p e s m below meth c ls hx hb hr hml hown hts hlocks hin hR hE hz hl
  have hA : ∀ q, s.heap.size ≤ q → m_A h z q := fun q hq => Or.inr (by rw [← hz]; exact hq)
  have hS : va_S (m_A h z) s.heap s.heap [] := va_S.rf
  have hl : lv_has ls 3 [(0, .ref v0), (1, .int v1), (2, .int v2)] := hl
  unfold s_X1_raise at hrun
  refine lv_aload_n hx hb dX1_raise_0 rfl (lv_at hl 0 rfl) ?_
  refine lv_iload_n hx hb dX1_raise_1 rfl (lv_at hl 1 rfl) ?_
  refine lv_aload_n hx hb dX1_raise_2 rfl (lv_at hl 0 rfl) ?_
  refine lv_iload_n hx hb dX1_raise_3 rfl (lv_at hl 1 rfl) ?_
  obtain ⟨x4, hc9, hrun⟩ := m_bind hrun
  refine mr_calli (mr_runS (As := [.ref v0, .int v1]) (rest := [.int v1, .ref v0]) hx hb hml hown hts (c_X1_at l D ids st z hc9) yk_X1_at ys_X1_at wm_1_8 ⟨(Nat.le_of_ble_eq_true rfl), (Nat.le_of_ble_eq_true rfl)⟩ (mr_recvS hR hE hz hS hA) hl.1 rfl (Nat.le_of_ble_eq_true rfl) dX1_raise_4 ⟨(Nat.le_of_ble_eq_true rfl), (Nat.le_of_ble_eq_true rfl)⟩) hR hz hS hA (fun H locs hR hz hS => ?_)
  refine lv_iload_n hx hb dX1_raise_7 rfl (lv_at hl 2 rfl) ?_
  refine lv_iadd hx hb dX1_raise_8 ?_
  obtain ⟨h9, hc9, hrun⟩ := m_bind hrun
  refine mr_callv (mr_runS (As := [.ref v0, .int v1, .int (x4 + v2)]) (rest := []) hx hb hml hown hts (c_X1_put l D ids st z hc9) yk_X1_put ys_X1_put wm_1_9 ⟨(Nat.le_of_ble_eq_true rfl), (Nat.le_of_ble_eq_true rfl)⟩ (mr_recvS hR hE hz hS hA) hl.1 rfl (Nat.le_of_ble_eq_true rfl) dX1_raise_9 ⟨(Nat.le_of_ble_eq_true rfl), (Nat.le_of_ble_eq_true rfl)⟩) hR hz hS hA (fun H locs hR hz hS => ?_)
  obtain rfl := Option.some.inj hrun
  exact mr_vret hx hb hr hlocks hR hz hS dX1_raise_12
