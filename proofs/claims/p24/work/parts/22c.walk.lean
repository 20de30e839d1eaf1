/-! the machine does it: laid by program -/
/-! X7_fillIn -/
abbrev rm_X7_fillIn : Room := { frames := 5, cells := 0, slots := 0, locals := 111 }
theorem yk_X7_fillIn : m_K yX7_fillIn cX7_fillIn 5 (none) 3 := ⟨wm_2_103, wm_0_1, by decide +kernel⟩
theorem ys_X7_fillIn : Cond.instanceMethod yX7_fillIn ∈ wT ∧ Cond.selects RX7 yX7_fillIn yX7_fillIn ∈ wT := ⟨wm_2_102, wp_0_15⟩
set_option maxRecDepth 100000 in
set_option maxHeartbeats 4000000 in
theorem c_X7_fillIn (l : Launch) (D : va_G) (ids : m_I3) (st : m_T) (z : Nat) {h : mH} {v0 : Nat} {v1 : Int32} {v2 : Int32} {v3 : Int32} {hF : mH} (hrun : s_X7_fillIn h v0 v1 v2 v3 = some hF) : Met l yX7_fillIn (m_ws yX7_fillIn cX7_fillIn 5 (none)) rm_X7_fillIn (mPc D ids st [.ref v0, .int v1, .int v2, .int v3] h z) (mQv D ids (m_A h z) hF z) rm_X7_fillIn.cells rm_X7_fillIn.slots (m_A h z) := by
  refine mr_of (cc := cX7_fillIn) (maxL := 5) (ret := none) (by decide) rfl (Nat.le_of_ble_eq_true rfl) ?_
  intro p e s m below meth c ls hx hb hr hml hown hts hlocks hin hR hE hz hl
  have hA : ∀ q, s.heap.size ≤ q → m_A h z q := fun q hq => Or.inr (by rw [← hz]; exact hq)
  have hS : va_S (m_A h z) s.heap s.heap [] := va_S.rf
  have hl : lv_has ls 5 [(0, .ref v0), (1, .int v1), (2, .int v2), (3, .int v3)] := hl
  unfold s_X7_fillIn at hrun
  refine lv_aload_n hx hb dX7_fillIn_0 rfl (lv_at hl 0 rfl) ?_
  obtain ⟨x1, hc9, hrun⟩ := m_bind hrun
  refine mr_get (C := RX7) (T := TX7) (N := 8) (ci := 5) hx hb hts (fun w q => m_ws_in (wi_X7 w q)) hown hR rfl 0 (by decide) (hts _ (m_ws_in wm_1_7)) (fun _ h9 => h9) (m_gr_spec hc9) dX7_fillIn_1 ?_
  obtain ⟨x4, hc9, hrun⟩ := m_bind hrun
  refine mr_getN (C := RX3) (T := TX3) (N := 10) (ci := 2) hx hb hts (fun w q => m_ws_in (wi_X3 w q)) hown hR rfl 0 (by decide) (hE.nf (i := 3) rfl) (fun _ h9 => h9) (m_gr_spec hc9) dX7_fillIn_4 ?_
  refine lv_iload_n hx hb dX7_fillIn_7 rfl (lv_at hl 1 rfl) ?_
  obtain ⟨_, ho9, hrun⟩ := m_bind hrun
  obtain ⟨fs9, ho9⟩ := m_is_spec ho9
  obtain ⟨x8, hc9, hrun⟩ := m_bind hrun
  refine mr_calli (mr_runV (As := [.int v1]) (rest := []) hx hb hml hown hts (c_X5_tapAt l D ids st z hc9) yk_X5_tapAt ys_X5_tapAt wm_1_219 ⟨(Nat.le_of_ble_eq_true rfl), (Nat.le_of_ble_eq_true rfl)⟩ (mr_recv (ci := 3) hR hE hz hS hA rfl ho9) hl.1 rfl (Nat.le_of_ble_eq_true rfl) dX7_fillIn_8 ⟨(Nat.le_of_ble_eq_true rfl), (Nat.le_of_ble_eq_true rfl)⟩) hR hz hS hA (fun H locs hR hz hS => ?_)
  refine lv_istore (lv' := [(4, .int x8), (0, .ref v0), (1, .int v1), (2, .int v2), (3, .int v3)]) hx hb dX7_fillIn_11 hl (by decide) rfl (fun ls hl => ?_)
  refine lv_aload_n hx hb dX7_fillIn_13 rfl (lv_at hl 1 rfl) ?_
  obtain ⟨x14, hc9, hrun⟩ := m_bind hrun
  refine mr_get (C := RX7) (T := TX7) (N := 8) (ci := 5) hx hb hts (fun w q => m_ws_in (wi_X7 w q)) hown hR rfl 0 (by decide) (hts _ (m_ws_in wm_1_7)) (fun _ h9 => h9) (m_gr_spec hc9) dX7_fillIn_14 ?_
  obtain ⟨x17, hc9, hrun⟩ := m_bind hrun
  refine mr_getN (C := RX3) (T := TX3) (N := 10) (ci := 2) hx hb hts (fun w q => m_ws_in (wi_X3 w q)) hown hR rfl 3 (by decide) (hE.nf (i := 6) rfl) (fun _ h9 => h9) (m_gr_spec hc9) dX7_fillIn_17 ?_
  refine lv_iload hx hb dX7_fillIn_20 (lv_at hl 0 rfl) ?_
  obtain ⟨x22, hc9, hrun⟩ := m_bind hrun
  refine mr_calli (mr_runS (As := [.int x8]) (rest := [.ref x17]) hx hb hml hown hts (c_X4_walletOf l D ids st z hc9) yk_X4_walletOf ys_X4_walletOf wm_1_220 ⟨(Nat.le_of_ble_eq_true rfl), (Nat.le_of_ble_eq_true rfl)⟩ (mr_recvS hR hE hz hS hA) hl.1 rfl (Nat.le_of_ble_eq_true rfl) dX7_fillIn_22 ⟨(Nat.le_of_ble_eq_true rfl), (Nat.le_of_ble_eq_true rfl)⟩) hR hz hS hA (fun H locs hR hz hS => ?_)
  refine lv_iload hx hb dX7_fillIn_25 (lv_at hl 0 rfl) ?_
  obtain ⟨x27, hc9, hrun⟩ := m_bind hrun
  refine mr_calli (mr_runS (As := [.int x8]) (rest := [.int x22, .ref x17]) hx hb hml hown hts (c_X4_weekOf l D ids st z hc9) yk_X4_weekOf ys_X4_weekOf wm_2_72 ⟨(Nat.le_of_ble_eq_true rfl), (Nat.le_of_ble_eq_true rfl)⟩ (mr_recvS hR hE hz hS hA) hl.1 rfl (Nat.le_of_ble_eq_true rfl) dX7_fillIn_27 ⟨(Nat.le_of_ble_eq_true rfl), (Nat.le_of_ble_eq_true rfl)⟩) hR hz hS hA (fun H locs hR hz hS => ?_)
  obtain ⟨x30, hc9, hrun⟩ := m_bind hrun
  refine mr_calli (mr_runS (As := [.int x22, .int x27]) (rest := [.ref x17]) hx hb hml hown hts (c_X7_weekCell l D ids st z hc9) yk_X7_weekCell ys_X7_weekCell wm_1_178 ⟨(Nat.le_of_ble_eq_true rfl), (Nat.le_of_ble_eq_true rfl)⟩ (mr_recvS hR hE hz hS hA) hl.1 rfl (Nat.le_of_ble_eq_true rfl) dX7_fillIn_30 ⟨(Nat.le_of_ble_eq_true rfl), (Nat.le_of_ble_eq_true rfl)⟩) hR hz hS hA (fun H locs hR hz hS => ?_)
  refine lv_iconst (v := 1) hx hb dX7_fillIn_33 (by decide) ?_
  obtain ⟨h34, hc9, hrun⟩ := m_bind hrun
  refine mr_callv (mr_runS (As := [.ref x17, .int x30, .int 1]) (rest := []) hx hb hml hown hts (c_X1_raise l D ids st z hc9) yk_X1_raise ys_X1_raise wm_2_104 ⟨(Nat.le_of_ble_eq_true rfl), (Nat.le_of_ble_eq_true rfl)⟩ (mr_recvS hR hE hz hS hA) hl.1 rfl (Nat.le_of_ble_eq_true rfl) dX7_fillIn_34 ⟨(Nat.le_of_ble_eq_true rfl), (Nat.le_of_ble_eq_true rfl)⟩) hR hz hS hA (fun H locs hR hz hS => ?_)
  refine lv_aload_n hx hb dX7_fillIn_37 rfl (lv_at hl 1 rfl) ?_
  obtain ⟨x38, hc9, hrun⟩ := m_bind hrun
  refine mr_get (C := RX7) (T := TX7) (N := 8) (ci := 5) hx hb hts (fun w q => m_ws_in (wi_X7 w q)) hown hR rfl 0 (by decide) (hts _ (m_ws_in wm_1_7)) (fun _ h9 => h9) (m_gr_spec hc9) dX7_fillIn_38 ?_
  obtain ⟨x41, hc9, hrun⟩ := m_bind hrun
  refine mr_getN (C := RX3) (T := TX3) (N := 10) (ci := 2) hx hb hts (fun w q => m_ws_in (wi_X3 w q)) hown hR rfl 0 (by decide) (hE.nf (i := 3) rfl) (fun _ h9 => h9) (m_gr_spec hc9) dX7_fillIn_41 ?_
  refine lv_iload hx hb dX7_fillIn_44 (lv_at hl 0 rfl) ?_
  refine lv_iload_n hx hb dX7_fillIn_46 rfl (lv_at hl 3 rfl) ?_
  refine lv_iload_n hx hb dX7_fillIn_47 rfl (lv_at hl 4 rfl) ?_
  obtain ⟨x48, hc9, hrun⟩ := m_bind hrun
  refine mr_calli (mr_runS (As := [.int x8, .int v2, .int v3]) (rest := [.ref x41]) hx hb hml hown hts (c_X4_missingOf l D ids st z hc9) yk_X4_missingOf ys_X4_missingOf wm_2_76 ⟨(Nat.le_of_ble_eq_true rfl), (Nat.le_of_ble_eq_true rfl)⟩ (mr_recvS hR hE hz hS hA) hl.1 rfl (Nat.le_of_ble_eq_true rfl) dX7_fillIn_48 ⟨(Nat.le_of_ble_eq_true rfl), (Nat.le_of_ble_eq_true rfl)⟩) hR hz hS hA (fun H locs hR hz hS => ?_)
  obtain ⟨_, ho9, hrun⟩ := m_bind hrun
  obtain ⟨fs9, ho9⟩ := m_is_spec ho9
  obtain ⟨⟨x51, h51⟩, hc9, hrun⟩ := m_bind hrun
  refine mr_calli (mr_runV (As := [.int x48]) (rest := []) hx hb hml hown hts (c_X5_insert l D ids st z hc9) yk_X5_insert ys_X5_insert wm_2_93 ⟨(Nat.le_of_ble_eq_true rfl), (Nat.le_of_ble_eq_true rfl)⟩ (mr_recv (ci := 3) hR hE hz hS hA rfl ho9) hl.1 rfl (Nat.le_of_ble_eq_true rfl) dX7_fillIn_51 ⟨(Nat.le_of_ble_eq_true rfl), (Nat.le_of_ble_eq_true rfl)⟩) hR hz hS hA (fun H locs hR hz hS => ?_)
  refine lv_pop hx hb dX7_fillIn_54 rfl ?_
  refine lv_aload_n hx hb dX7_fillIn_55 rfl (lv_at hl 1 rfl) ?_
  obtain ⟨_, ho9, hrun⟩ := m_bind hrun
  obtain ⟨fs9, ho9⟩ := m_is_spec ho9
  obtain ⟨h56, hc9, hrun⟩ := m_bind hrun
  refine mr_callv (mr_runV (As := []) (rest := []) hx hb hml hown hts (c_X7_readRides l D ids st z hc9) yk_X7_readRides ys_X7_readRides wm_1_121 ⟨(Nat.le_of_ble_eq_true rfl), (Nat.le_of_ble_eq_true rfl)⟩ (mr_recv (ci := 5) hR hE hz hS hA rfl ho9) hl.1 rfl (Nat.le_of_ble_eq_true rfl) dX7_fillIn_56 ⟨(Nat.le_of_ble_eq_true rfl), (Nat.le_of_ble_eq_true rfl)⟩) hR hz hS hA (fun H locs hR hz hS => ?_)
  obtain rfl := Option.some.inj hrun
  exact mr_vret hx hb hr hlocks hR hz hS dX7_fillIn_59
/-! X7_claim -/
abbrev rm_X7_claim : Room := { frames := 7, cells := 0, slots := 0, locals := 161 }
theorem yk_X7_claim : m_K yX7_claim cX7_claim 5 (some .int) 3 := ⟨wm_2_63, wm_0_1, by decide +kernel⟩
theorem ys_X7_claim : Cond.instanceMethod yX7_claim ∈ wT ∧ Cond.selects RX7 yX7_claim yX7_claim ∈ wT := ⟨wm_2_61, wm_2_62⟩
set_option maxRecDepth 100000 in
set_option maxHeartbeats 4000000 in
theorem k_X7_claim_b66 {p : Program} {l : Launch} {e : Env} {s : State} {m : MethodId} {args : Array Value} {below : List Frame} {meth : Method} {c : Code} {D : va_G} {ids : m_I3} {st : m_T} {A : Nat → Prop} {z : Nat} {r : Int32} {hF : mH} (hx : p.tables.exec = Jvm.exec) (hb : c.code = cX7_claim) (hr : meth.sig.returnType = some .int) (hml : c.maxLocals = 5) (hown : s.vm.findClass RX7 = some m.cls) (hts : ∀ w ∈ (m_ws yX7_claim cX7_claim 5 (some .int)), w.before args s = true) (hlocks : meth.locks = false) (hin : meth.name = yX7_claim.name) (hE : m_EV st A s s.heap) (hA : ∀ q, s.heap.size ≤ q → A q) (h : mH) (v4 : Int32) (H : Heap) (locs : List Loc) (ls : Array Slot) (hrun : s_X7_claim_b66 h v4 = some (Sum.inr r, hF)) (hR : Rl D ids A h s H) (hz : H.size = z) (hS : va_S A s.heap H locs) (hl : lv_has ls 5 [(4, .int v4)]) : W p l e rm_X7_claim s m args below meth c H locs 0 0 (MQ below (mQi D ids A r hF z) args s 0 0 A) (F0 m 66 ls []) := by
  unfold s_X7_claim_b66 at hrun
  refine lv_iload hx hb dX7_claim_66 (lv_at hl 0 rfl) ?_
  obtain ⟨hv9, rfl⟩ := Prod.mk.inj (Option.some.inj hrun); obtain rfl := Sum.inr.inj hv9
  exact mr_iret hx hb hr hlocks hR hz hS dX7_claim_68
set_option maxRecDepth 100000 in
set_option maxHeartbeats 4000000 in
theorem c_X7_claim (l : Launch) (D : va_G) (ids : m_I3) (st : m_T) (z : Nat) {h : mH} {v0 : Nat} {v1 : Int32} {v2 : Int32} {v3 : Int32} {r : Int32} {hF : mH} (hrun : s_X7_claim h v0 v1 v2 v3 = some (Sum.inr r, hF)) : Met l yX7_claim (m_ws yX7_claim cX7_claim 5 (some .int)) rm_X7_claim (mPc D ids st [.ref v0, .int v1, .int v2, .int v3] h z) (mQi D ids (m_A h z) r hF z) rm_X7_claim.cells rm_X7_claim.slots (m_A h z) := by
  refine mr_of (cc := cX7_claim) (maxL := 5) (ret := some .int) (by decide) rfl (Nat.le_of_ble_eq_true rfl) ?_
  intro p e s m below meth c ls hx hb hr hml hown hts hlocks hin hR hE hz hl
  have hA : ∀ q, s.heap.size ≤ q → m_A h z q := fun q hq => Or.inr (by rw [← hz]; exact hq)
  have hS : va_S (m_A h z) s.heap s.heap [] := va_S.rf
  have hl : lv_has ls 5 [(0, .ref v0), (1, .int v1), (2, .int v2), (3, .int v3)] := hl
  unfold s_X7_claim at hrun
  refine lv_iload_n hx hb dX7_claim_0 rfl (lv_at hl 2 rfl) ?_
  refine lv_iload_n hx hb dX7_claim_1 rfl (lv_at hl 3 rfl) ?_
  obtain ⟨x2, hc9, hrun⟩ := m_bind hrun
  refine mr_calli (mr_runS (As := [.int v2, .int v3]) (rest := []) hx hb hml hown hts (c_X7_isMinuteStation l D ids st z hc9) yk_X7_isMinuteStation ys_X7_isMinuteStation wm_2_64 ⟨(Nat.le_of_ble_eq_true rfl), (Nat.le_of_ble_eq_true rfl)⟩ (mr_recvS hR hE hz hS hA) hl.1 rfl (Nat.le_of_ble_eq_true rfl) dX7_claim_2 ⟨(Nat.le_of_ble_eq_true rfl), (Nat.le_of_ble_eq_true rfl)⟩) hR hz hS hA (fun H locs hR hz hS => ?_)
  refine lv_if_ne (tgt := 18) hx hb dX7_claim_5 (by decide) (fun hc => ?_) (fun hc => ?_)
  · have hrun := mt_f hrun hc
    refine lv_aload_n hx hb dX7_claim_18 rfl (lv_at hl 0 rfl) ?_
    refine lv_iload_n hx hb dX7_claim_19 rfl (lv_at hl 1 rfl) ?_
    refine lv_iload_n hx hb dX7_claim_20 rfl (lv_at hl 2 rfl) ?_
    refine lv_iload_n hx hb dX7_claim_21 rfl (lv_at hl 3 rfl) ?_
    obtain ⟨_, ho9, hrun⟩ := m_bind hrun
    obtain ⟨fs9, ho9⟩ := m_is_spec ho9
    obtain ⟨⟨x22, h22⟩, hc9, hrun⟩ := m_bind hrun
    refine mr_calli (mr_runV (As := [.int v1, .int v2, .int v3]) (rest := []) hx hb hml hown hts (c_X7_refusal l D ids st z hc9) yk_X7_refusal ys_X7_refusal wm_2_68 ⟨(Nat.le_of_ble_eq_true rfl), (Nat.le_of_ble_eq_true rfl)⟩ (mr_recv (ci := 5) hR hE hz hS hA rfl ho9) hl.1 rfl (Nat.le_of_ble_eq_true rfl) dX7_claim_22 ⟨(Nat.le_of_ble_eq_true rfl), (Nat.le_of_ble_eq_true rfl)⟩) hR hz hS hA (fun H locs hR hz hS => ?_)
    refine lv_istore (lv' := [(4, .int x22), (0, .ref v0), (1, .int v1), (2, .int v2), (3, .int v3)]) hx hb dX7_claim_25 hl (by decide) rfl (fun ls hl => ?_)
    refine lv_aload_n hx hb dX7_claim_27 rfl (lv_at hl 1 rfl) ?_
    obtain ⟨x28, hc9, hrun⟩ := m_bind hrun
    refine mr_get (C := RX7) (T := TX7) (N := 8) (ci := 5) hx hb hts (fun w q => m_ws_in (wi_X7 w q)) hown hR rfl 2 (by decide) (hts _ (m_ws_in wm_1_9)) (fun _ h9 => h9) (m_gr_spec hc9) dX7_claim_28 ?_
    refine lv_aload_n hx hb dX7_claim_31 rfl (lv_at hl 1 rfl) ?_
    obtain ⟨x32, hc9, hrun⟩ := m_bind hrun
    refine mr_get (C := RX7) (T := TX7) (N := 8) (ci := 5) hx hb hts (fun w q => m_ws_in (wi_X7 w q)) hown hR rfl 0 (by decide) (hts _ (m_ws_in wm_1_7)) (fun _ h9 => h9) (m_gr_spec hc9) dX7_claim_32 ?_
    obtain ⟨_, ho9, hrun⟩ := m_bind hrun
    obtain ⟨fs9, ho9⟩ := m_is_spec ho9
    obtain ⟨h35, hc9, hrun⟩ := m_bind hrun
    refine mr_callv (mr_runV (As := [.ref x32]) (rest := []) hx hb hml hown hts (c_X2_push l D ids st z hc9) yk_X2_push ys_X2_push wm_2_27 ⟨(Nat.le_of_ble_eq_true rfl), (Nat.le_of_ble_eq_true rfl)⟩ (mr_recv (ci := 1) hR hE hz hS hA rfl ho9) hl.1 rfl (Nat.le_of_ble_eq_true rfl) dX7_claim_35 ⟨(Nat.le_of_ble_eq_true rfl), (Nat.le_of_ble_eq_true rfl)⟩) hR hz hS hA (fun H locs hR hz hS => ?_)
    refine lv_iload hx hb dX7_claim_38 (lv_at hl 0 rfl) ?_
    refine lv_if_ne (tgt := 53) hx hb dX7_claim_40 (by decide) (fun hc => ?_) (fun hc => ?_)
    · have hrun := mt_f hrun hc
      refine lv_aload_n hx hb dX7_claim_53 rfl (lv_at hl 1 rfl) ?_
      obtain ⟨x54, hc9, hrun⟩ := m_bind hrun
      refine mr_get (C := RX7) (T := TX7) (N := 8) (ci := 5) hx hb hts (fun w q => m_ws_in (wi_X7 w q)) hown hR rfl 0 (by decide) (hts _ (m_ws_in wm_1_7)) (fun _ h9 => h9) (m_gr_spec hc9) dX7_claim_54 ?_
      refine lv_dup hx hb dX7_claim_57 rfl ?_
      obtain ⟨x58, hc9, hrun⟩ := m_bind hrun
      refine mr_getN (C := RX3) (T := TX3) (N := 10) (ci := 2) hx hb hts (fun w q => m_ws_in (wi_X3 w q)) hown hR rfl 9 (by decide) (hE.nf (i := 10) rfl) (fun _ h9 => h9) (m_gi_spec hc9) dX7_claim_58 ?_
      refine lv_iconst (v := 1) hx hb dX7_claim_61 (by decide) ?_
      refine lv_iadd hx hb dX7_claim_62 ?_
      obtain ⟨h63, hc9, hrun⟩ := m_bind hrun
      refine mr_putN (C := RX3) (T := TX3) (N := 10) (ci := 2) hx hb hts (fun w q => m_ws_in (wi_X3 w q)) tyX3 tyX3_ok nmX3 hown hR hz hS rfl 9 (by decide) (hE.nf (i := 10) rfl) (fun _ h9 => h9) rfl (tyX3_ok 9 (by decide)) rfl rfl hc9 dX7_claim_63 (fun H locs hR hz hS => ?_)
      exact k_X7_claim_b66 hx hb hr hml hown hts hlocks hin hE hA _ _ _ _ _ hrun hR hz hS (lv_sub hl [0] rfl)
    · have hrun := mt_t hrun hc
      refine lv_aload_n hx hb dX7_claim_43 rfl (lv_at hl 1 rfl) ?_
      refine lv_iload_n hx hb dX7_claim_44 rfl (lv_at hl 2 rfl) ?_
      refine lv_iload_n hx hb dX7_claim_45 rfl (lv_at hl 3 rfl) ?_
      refine lv_iload_n hx hb dX7_claim_46 rfl (lv_at hl 4 rfl) ?_
      obtain ⟨_, ho9, hrun⟩ := m_bind hrun
      obtain ⟨fs9, ho9⟩ := m_is_spec ho9
      obtain ⟨h47, hc9, hrun⟩ := m_bind hrun
      refine mr_callv (mr_runV (As := [.int v1, .int v2, .int v3]) (rest := []) hx hb hml hown hts (c_X7_fillIn l D ids st z hc9) yk_X7_fillIn ys_X7_fillIn wm_2_100 ⟨(Nat.le_of_ble_eq_true rfl), (Nat.le_of_ble_eq_true rfl)⟩ (mr_recv (ci := 5) hR hE hz hS hA rfl ho9) hl.1 rfl (Nat.le_of_ble_eq_true rfl) dX7_claim_47 ⟨(Nat.le_of_ble_eq_true rfl), (Nat.le_of_ble_eq_true rfl)⟩) hR hz hS hA (fun H locs hR hz hS => ?_)
      refine lv_goto (tgt := 66) hx hb dX7_claim_50 (by decide) ?_
      exact k_X7_claim_b66 hx hb hr hml hown hts hlocks hin hE hA _ _ _ _ _ hrun hR hz hS (lv_sub hl [0] rfl)
  · have hrun := mt_t hrun hc
    exact absurd (Prod.mk.inj (Option.some.inj hrun)).1 (fun h9 => nomatch h9)
/-! X7_isWalletDay -/
abbrev rm_X7_isWalletDay : Room := { frames := 1, cells := 0, slots := 0, locals := 21 }
theorem yk_X7_isWalletDay : m_K yX7_isWalletDay cX7_isWalletDay 2 (some .boolean) 2 := ⟨wm_2_111, wm_0_1, by decide +kernel⟩
theorem ys_X7_isWalletDay : Cond.static yX7_isWalletDay ∈ wT := wm_2_110
set_option maxRecDepth 100000 in
set_option maxHeartbeats 4000000 in
theorem k_X7_isWalletDay_b22 {p : Program} {l : Launch} {e : Env} {s : State} {m : MethodId} {args : Array Value} {below : List Frame} {meth : Method} {c : Code} {D : va_G} {ids : m_I3} {st : m_T} {A : Nat → Prop} {z : Nat} {r : Int32} (hx : p.tables.exec = Jvm.exec) (hb : c.code = cX7_isWalletDay) (hr : meth.sig.returnType = some .boolean) (hml : c.maxLocals = 2) (hown : s.vm.findClass RX7 = some m.cls) (hts : ∀ w ∈ (m_ws yX7_isWalletDay cX7_isWalletDay 2 (some .boolean)), w.before args s = true) (hlocks : meth.locks = false) (hin : meth.name = yX7_isWalletDay.name) (hE : m_EV st A s s.heap) (hA : ∀ q, s.heap.size ≤ q → A q) {h : mH} (t0 : Int32) (H : Heap) (locs : List Loc) (ls : Array Slot) (hrun : s_X7_isWalletDay_b22 h t0 = some r) (hR : Rl D ids A h s H) (hz : H.size = z) (hS : va_S A s.heap H locs) (hl : lv_has ls 2 []) : W p l e rm_X7_isWalletDay s m args below meth c H locs 0 0 (MQ below (mQi D ids A r h z) args s 0 0 A) (F0 m 22 ls [.int t0]) := by
  unfold s_X7_isWalletDay_b22 at hrun
  obtain ⟨w9, hzr, hrun⟩ := m_bind hrun
  obtain rfl := Option.some.inj hrun
  exact mr_zret hzr hx hb hr hlocks hR hz hS dX7_isWalletDay_22
set_option maxRecDepth 100000 in
set_option maxHeartbeats 4000000 in
theorem k_X7_isWalletDay_b21 {p : Program} {l : Launch} {e : Env} {s : State} {m : MethodId} {args : Array Value} {below : List Frame} {meth : Method} {c : Code} {D : va_G} {ids : m_I3} {st : m_T} {A : Nat → Prop} {z : Nat} {r : Int32} (hx : p.tables.exec = Jvm.exec) (hb : c.code = cX7_isWalletDay) (hr : meth.sig.returnType = some .boolean) (hml : c.maxLocals = 2) (hown : s.vm.findClass RX7 = some m.cls) (hts : ∀ w ∈ (m_ws yX7_isWalletDay cX7_isWalletDay 2 (some .boolean)), w.before args s = true) (hlocks : meth.locks = false) (hin : meth.name = yX7_isWalletDay.name) (hE : m_EV st A s s.heap) (hA : ∀ q, s.heap.size ≤ q → A q) {h : mH} (H : Heap) (locs : List Loc) (ls : Array Slot) (hrun : s_X7_isWalletDay_b21 h  = some r) (hR : Rl D ids A h s H) (hz : H.size = z) (hS : va_S A s.heap H locs) (hl : lv_has ls 2 []) : W p l e rm_X7_isWalletDay s m args below meth c H locs 0 0 (MQ below (mQi D ids A r h z) args s 0 0 A) (F0 m 21 ls []) := by
  unfold s_X7_isWalletDay_b21 at hrun
  refine lv_iconst (v := 0) hx hb dX7_isWalletDay_21 (by decide) ?_
  exact k_X7_isWalletDay_b22 hx hb hr hml hown hts hlocks hin hE hA _ _ _ _ hrun hR hz hS (lv_sub hl [] rfl)
set_option maxRecDepth 100000 in
set_option maxHeartbeats 4000000 in
theorem c_X7_isWalletDay (l : Launch) (D : va_G) (ids : m_I3) (st : m_T) (z : Nat) {h : mH} {v0 : Int32} {v1 : Int32} {r : Int32} (hrun : s_X7_isWalletDay h v0 v1 = some r) : Met l yX7_isWalletDay (m_ws yX7_isWalletDay cX7_isWalletDay 2 (some .boolean)) rm_X7_isWalletDay (mPc D ids st [.int v0, .int v1] h z) (mQi D ids (m_A h z) r h z) rm_X7_isWalletDay.cells rm_X7_isWalletDay.slots (m_A h z) := by
  refine mr_of (cc := cX7_isWalletDay) (maxL := 2) (ret := some .boolean) (by decide) rfl (Nat.le_of_ble_eq_true rfl) ?_
  intro p e s m below meth c ls hx hb hr hml hown hts hlocks hin hR hE hz hl
  have hA : ∀ q, s.heap.size ≤ q → m_A h z q := fun q hq => Or.inr (by rw [← hz]; exact hq)
  have hS : va_S (m_A h z) s.heap s.heap [] := va_S.rf
  have hl : lv_has ls 2 [(0, .int v0), (1, .int v1)] := hl
  unfold s_X7_isWalletDay at hrun
  refine lv_iload_n hx hb dX7_isWalletDay_0 rfl (lv_at hl 0 rfl) ?_
  refine lv_iconst (v := 4) hx hb dX7_isWalletDay_1 (by decide) ?_
  obtain ⟨x2, hc9, hrun⟩ := m_bind hrun
  refine mr_calli (mr_runS (As := [.int v0, .int 4]) (rest := []) hx hb hml hown hts (c_X7_isBelow l D ids st z hc9) yk_X7_isBelow ys_X7_isBelow wm_1_129 ⟨(Nat.le_of_ble_eq_true rfl), (Nat.le_of_ble_eq_true rfl)⟩ (mr_recvS hR hE hz hS hA) hl.1 rfl (Nat.le_of_ble_eq_true rfl) dX7_isWalletDay_2 ⟨(Nat.le_of_ble_eq_true rfl), (Nat.le_of_ble_eq_true rfl)⟩) hR hz hS hA (fun H locs hR hz hS => ?_)
  refine lv_if_eq (tgt := 21) hx hb dX7_isWalletDay_5 (by decide) (fun hc => ?_) (fun hc => ?_)
  · have hrun := mt_t hrun hc
    exact k_X7_isWalletDay_b21 hx hb hr hml hown hts hlocks hin hE hA _ _ _ hrun hR hz hS (lv_sub hl [] rfl)
  · have hrun := mt_f hrun hc
    refine lv_iload_n hx hb dX7_isWalletDay_8 rfl (lv_at hl 1 rfl) ?_
    refine lv_bipush (v := 28) hx hb dX7_isWalletDay_9 (by decide) ?_
    obtain ⟨x11, hc9, hrun⟩ := m_bind hrun
    refine mr_calli (mr_runS (As := [.int v1, .int 28]) (rest := []) hx hb hml hown hts (c_X7_isBelow l D ids st z hc9) yk_X7_isBelow ys_X7_isBelow wm_1_129 ⟨(Nat.le_of_ble_eq_true rfl), (Nat.le_of_ble_eq_true rfl)⟩ (mr_recvS hR hE hz hS hA) hl.1 rfl (Nat.le_of_ble_eq_true rfl) dX7_isWalletDay_11 ⟨(Nat.le_of_ble_eq_true rfl), (Nat.le_of_ble_eq_true rfl)⟩) hR hz hS hA (fun H locs hR hz hS => ?_)
    refine lv_if_eq (tgt := 21) hx hb dX7_isWalletDay_14 (by decide) (fun hc => ?_) (fun hc => ?_)
    · have hrun := mt_t hrun hc
      exact k_X7_isWalletDay_b21 hx hb hr hml hown hts hlocks hin hE hA _ _ _ hrun hR hz hS (lv_sub hl [] rfl)
    · have hrun := mt_f hrun hc
      refine lv_iconst (v := 1) hx hb dX7_isWalletDay_17 (by decide) ?_
      refine lv_goto (tgt := 22) hx hb dX7_isWalletDay_18 (by decide) ?_
      exact k_X7_isWalletDay_b22 hx hb hr hml hown hts hlocks hin hE hA _ _ _ _ hrun hR hz hS (lv_sub hl [] rfl)
/-! X7_tap -/
abbrev rm_X7_tap : Room := { frames := 5, cells := 0, slots := 0, locals := 111 }
theorem yk_X7_tap : m_K yX7_tap cX7_tap 7 (some .int) 5 := ⟨wm_2_108, wm_0_1, by decide +kernel⟩
theorem ys_X7_tap : Cond.instanceMethod yX7_tap ∈ wT ∧ Cond.selects RX7 yX7_tap yX7_tap ∈ wT := ⟨wm_2_106, wm_2_107⟩
set_option maxRecDepth 100000 in
set_option maxHeartbeats 4000000 in
theorem k_X7_tap_b17 {p : Program} {l : Launch} {e : Env} {s : State} {m : MethodId} {args : Array Value} {below : List Frame} {meth : Method} {c : Code} {D : va_G} {ids : m_I3} {st : m_T} {A : Nat → Prop} {z : Nat} {r : Int32} {hF : mH} (hx : p.tables.exec = Jvm.exec) (hb : c.code = cX7_tap) (hr : meth.sig.returnType = some .int) (hml : c.maxLocals = 7) (hown : s.vm.findClass RX7 = some m.cls) (hts : ∀ w ∈ (m_ws yX7_tap cX7_tap 7 (some .int)), w.before args s = true) (hlocks : meth.locks = false) (hin : meth.name = yX7_tap.name) (hE : m_EV st A s s.heap) (hA : ∀ q, s.heap.size ≤ q → A q) (h : mH) (H : Heap) (locs : List Loc) (ls : Array Slot) (hrun : s_X7_tap_b17 h = some (Sum.inr r, hF)) (hR : Rl D ids A h s H) (hz : H.size = z) (hS : va_S A s.heap H locs) (hl : lv_has ls 7 []) : W p l e rm_X7_tap s m args below meth c H locs 0 0 (MQ below (mQi D ids A r hF z) args s 0 0 A) (F0 m 17 ls []) := by
  unfold s_X7_tap_b17 at hrun
  exact absurd (Prod.mk.inj (Option.some.inj hrun)).1 (fun h9 => nomatch h9)
set_option maxRecDepth 100000 in
set_option maxHeartbeats 4000000 in
theorem c_X7_tap (l : Launch) (D : va_G) (ids : m_I3) (st : m_T) (z : Nat) {h : mH} {v0 : Nat} {v1 : Int32} {v2 : Int32} {v3 : Int32} {v4 : Int32} {v5 : Int32} {r : Int32} {hF : mH} (hrun : s_X7_tap h v0 v1 v2 v3 v4 v5 = some (Sum.inr r, hF)) : Met l yX7_tap (m_ws yX7_tap cX7_tap 7 (some .int)) rm_X7_tap (mPc D ids st [.ref v0, .int v1, .int v2, .int v3, .int v4, .int v5] h z) (mQi D ids (m_A h z) r hF z) rm_X7_tap.cells rm_X7_tap.slots (m_A h z) := by
  refine mr_of (cc := cX7_tap) (maxL := 7) (ret := some .int) (by decide) rfl (Nat.le_of_ble_eq_true rfl) ?_
  intro p e s m below meth c ls hx hb hr hml hown hts hlocks hin hR hE hz hl
  have hA : ∀ q, s.heap.size ≤ q → m_A h z q := fun q hq => Or.inr (by rw [← hz]; exact hq)
  have hS : va_S (m_A h z) s.heap s.heap [] := va_S.rf
  have hl : lv_has ls 7 [(0, .ref v0), (1, .int v1), (2, .int v2), (3, .int v3), (4, .int v4), (5, .int v5)] := hl
  unfold s_X7_tap at hrun
  refine lv_iload_n hx hb dX7_tap_0 rfl (lv_at hl 1 rfl) ?_
  refine lv_iload_n hx hb dX7_tap_1 rfl (lv_at hl 2 rfl) ?_
  obtain ⟨x2, hc9, hrun⟩ := m_bind hrun
  refine mr_calli (mr_runS (As := [.int v1, .int v2]) (rest := []) hx hb hml hown hts (c_X7_isWalletDay l D ids st z hc9) yk_X7_isWalletDay ys_X7_isWalletDay wm_2_109 ⟨(Nat.le_of_ble_eq_true rfl), (Nat.le_of_ble_eq_true rfl)⟩ (mr_recvS hR hE hz hS hA) hl.1 rfl (Nat.le_of_ble_eq_true rfl) dX7_tap_2 ⟨(Nat.le_of_ble_eq_true rfl), (Nat.le_of_ble_eq_true rfl)⟩) hR hz hS hA (fun H locs hR hz hS => ?_)
  refine lv_if_eq (tgt := 17) hx hb dX7_tap_5 (by decide) (fun hc => ?_) (fun hc => ?_)
  · have hrun := mt_t hrun hc
    exact k_X7_tap_b17 hx hb hr hml hown hts hlocks hin hE hA _ _ _ _ hrun hR hz hS (lv_sub hl [] rfl)
  · have hrun := mt_f hrun hc
    refine lv_iload_n hx hb dX7_tap_8 rfl (lv_at hl 3 rfl) ?_
    refine lv_iload hx hb dX7_tap_9 (lv_at hl 4 rfl) ?_
    obtain ⟨x11, hc9, hrun⟩ := m_bind hrun
    refine mr_calli (mr_runS (As := [.int v3, .int v4]) (rest := []) hx hb hml hown hts (c_X7_isMinuteStation l D ids st z hc9) yk_X7_isMinuteStation ys_X7_isMinuteStation wm_2_64 ⟨(Nat.le_of_ble_eq_true rfl), (Nat.le_of_ble_eq_true rfl)⟩ (mr_recvS hR hE hz hS hA) hl.1 rfl (Nat.le_of_ble_eq_true rfl) dX7_tap_11 ⟨(Nat.le_of_ble_eq_true rfl), (Nat.le_of_ble_eq_true rfl)⟩) hR hz hS hA (fun H locs hR hz hS => ?_)
    refine lv_if_ne (tgt := 27) hx hb dX7_tap_14 (by decide) (fun hc => ?_) (fun hc => ?_)
    · have hrun := mt_f hrun hc
      refine lv_aload_n hx hb dX7_tap_27 rfl (lv_at hl 0 rfl) ?_
      obtain ⟨x28, hc9, hrun⟩ := m_bind hrun
      refine mr_get (C := RX7) (T := TX7) (N := 8) (ci := 5) hx hb hts (fun w q => m_ws_in (wi_X7 w q)) hown hR rfl 0 (by decide) (hts _ (m_ws_in wm_1_7)) (fun _ h9 => h9) (m_gr_spec hc9) dX7_tap_28 ?_
      obtain ⟨x31, hc9, hrun⟩ := m_bind hrun
      refine mr_getN (C := RX3) (T := TX3) (N := 10) (ci := 2) hx hb hts (fun w q => m_ws_in (wi_X3 w q)) hown hR rfl 0 (by decide) (hE.nf (i := 3) rfl) (fun _ h9 => h9) (m_gr_spec hc9) dX7_tap_31 ?_
      obtain ⟨x34, hc9, hrun⟩ := m_bind hrun
      refine mr_getN (C := RX5) (T := TX5) (N := 2) (ci := 3) hx hb hts (fun w q => m_ws_in (wi_X5 w q)) hown hR rfl 1 (by decide) (hE.nf (i := 0) rfl) (fun _ h9 => h9) (m_gi_spec hc9) dX7_tap_34 ?_
      refine lv_bipush (v := 60) hx hb dX7_tap_37 (by decide) ?_
      refine lv_icmp_lt (tgt := 52) hx hb dX7_tap_39 (by decide) (fun hc => ?_) (fun hc => ?_)
      · have hrun := mt_t hrun hc
        refine lv_aload_n hx hb dX7_tap_52 rfl (lv_at hl 0 rfl) ?_
        obtain ⟨x53, hc9, hrun⟩ := m_bind hrun
        refine mr_get (C := RX7) (T := TX7) (N := 8) (ci := 5) hx hb hts (fun w q => m_ws_in (wi_X7 w q)) hown hR rfl 2 (by decide) (hts _ (m_ws_in wm_1_9)) (fun _ h9 => h9) (m_gr_spec hc9) dX7_tap_53 ?_
        refine lv_aload_n hx hb dX7_tap_56 rfl (lv_at hl 0 rfl) ?_
        obtain ⟨x57, hc9, hrun⟩ := m_bind hrun
        refine mr_get (C := RX7) (T := TX7) (N := 8) (ci := 5) hx hb hts (fun w q => m_ws_in (wi_X7 w q)) hown hR rfl 0 (by decide) (hts _ (m_ws_in wm_1_7)) (fun _ h9 => h9) (m_gr_spec hc9) dX7_tap_57 ?_
        obtain ⟨_, ho9, hrun⟩ := m_bind hrun
        obtain ⟨fs9, ho9⟩ := m_is_spec ho9
        obtain ⟨h60, hc9, hrun⟩ := m_bind hrun
        refine mr_callv (mr_runV (As := [.ref x57]) (rest := []) hx hb hml hown hts (c_X2_push l D ids st z hc9) yk_X2_push ys_X2_push wm_2_27 ⟨(Nat.le_of_ble_eq_true rfl), (Nat.le_of_ble_eq_true rfl)⟩ (mr_recv (ci := 1) hR hE hz hS hA rfl ho9) hl.1 rfl (Nat.le_of_ble_eq_true rfl) dX7_tap_60 ⟨(Nat.le_of_ble_eq_true rfl), (Nat.le_of_ble_eq_true rfl)⟩) hR hz hS hA (fun H locs hR hz hS => ?_)
        refine lv_aload_n hx hb dX7_tap_63 rfl (lv_at hl 0 rfl) ?_
        obtain ⟨x64, hc9, hrun⟩ := m_bind hrun
        refine mr_get (C := RX7) (T := TX7) (N := 8) (ci := 5) hx hb hts (fun w q => m_ws_in (wi_X7 w q)) hown hR rfl 0 (by decide) (hts _ (m_ws_in wm_1_7)) (fun _ h9 => h9) (m_gr_spec hc9) dX7_tap_64 ?_
        obtain ⟨x67, hc9, hrun⟩ := m_bind hrun
        refine mr_getN (C := RX3) (T := TX3) (N := 10) (ci := 2) hx hb hts (fun w q => m_ws_in (wi_X3 w q)) hown hR rfl 0 (by decide) (hE.nf (i := 3) rfl) (fun _ h9 => h9) (m_gr_spec hc9) dX7_tap_67 ?_
        refine lv_iload_n hx hb dX7_tap_70 rfl (lv_at hl 1 rfl) ?_
        refine lv_iload_n hx hb dX7_tap_71 rfl (lv_at hl 2 rfl) ?_
        refine lv_iload_n hx hb dX7_tap_72 rfl (lv_at hl 3 rfl) ?_
        refine lv_iload hx hb dX7_tap_73 (lv_at hl 4 rfl) ?_
        refine lv_iload hx hb dX7_tap_75 (lv_at hl 5 rfl) ?_
        obtain ⟨x77, hc9, hrun⟩ := m_bind hrun
        refine mr_calli (mr_runS (As := [.int v1, .int v2, .int v3, .int v4, .int v5]) (rest := [.ref x67]) hx hb hml hown hts (c_X4_make l D ids st z hc9) yk_X4_make ys_X4_make wm_2_113 ⟨(Nat.le_of_ble_eq_true rfl), (Nat.le_of_ble_eq_true rfl)⟩ (mr_recvS hR hE hz hS hA) hl.1 rfl (Nat.le_of_ble_eq_true rfl) dX7_tap_77 ⟨(Nat.le_of_ble_eq_true rfl), (Nat.le_of_ble_eq_true rfl)⟩) hR hz hS hA (fun H locs hR hz hS => ?_)
        obtain ⟨_, ho9, hrun⟩ := m_bind hrun
        obtain ⟨fs9, ho9⟩ := m_is_spec ho9
        obtain ⟨⟨x80, h80⟩, hc9, hrun⟩ := m_bind hrun
        refine mr_calli (mr_runV (As := [.int x77]) (rest := []) hx hb hml hown hts (c_X5_insert l D ids st z hc9) yk_X5_insert ys_X5_insert wm_2_93 ⟨(Nat.le_of_ble_eq_true rfl), (Nat.le_of_ble_eq_true rfl)⟩ (mr_recv (ci := 3) hR hE hz hS hA rfl ho9) hl.1 rfl (Nat.le_of_ble_eq_true rfl) dX7_tap_80 ⟨(Nat.le_of_ble_eq_true rfl), (Nat.le_of_ble_eq_true rfl)⟩) hR hz hS hA (fun H locs hR hz hS => ?_)
        refine lv_istore (lv' := [(6, .int x80), (0, .ref v0), (1, .int v1), (2, .int v2), (3, .int v3), (4, .int v4), (5, .int v5)]) hx hb dX7_tap_83 hl (by decide) rfl (fun ls hl => ?_)
        refine lv_aload_n hx hb dX7_tap_85 rfl (lv_at hl 1 rfl) ?_
        obtain ⟨_, ho9, hrun⟩ := m_bind hrun
        obtain ⟨fs9, ho9⟩ := m_is_spec ho9
        obtain ⟨h86, hc9, hrun⟩ := m_bind hrun
        refine mr_callv (mr_runV (As := []) (rest := []) hx hb hml hown hts (c_X7_readRides l D ids st z hc9) yk_X7_readRides ys_X7_readRides wm_1_121 ⟨(Nat.le_of_ble_eq_true rfl), (Nat.le_of_ble_eq_true rfl)⟩ (mr_recv (ci := 5) hR hE hz hS hA rfl ho9) hl.1 rfl (Nat.le_of_ble_eq_true rfl) dX7_tap_86 ⟨(Nat.le_of_ble_eq_true rfl), (Nat.le_of_ble_eq_true rfl)⟩) hR hz hS hA (fun H locs hR hz hS => ?_)
        refine lv_iload hx hb dX7_tap_89 (lv_at hl 0 rfl) ?_
        obtain ⟨hv9, rfl⟩ := Prod.mk.inj (Option.some.inj hrun); obtain rfl := Sum.inr.inj hv9
        exact mr_iret hx hb hr hlocks hR hz hS dX7_tap_91
      · have hrun := mt_f hrun hc
        exact absurd (Prod.mk.inj (Option.some.inj hrun)).1 (fun h9 => nomatch h9)
    · have hrun := mt_t hrun hc
      exact k_X7_tap_b17 hx hb hr hml hown hts hlocks hin hE hA _ _ _ _ hrun hR hz hS (lv_sub hl [] rfl)
/-! L_act -/
abbrev rm_L_act : Room := { frames := 8, cells := 0, slots := 0, locals := 185 }
theorem yk_L_act : m_K yL_act cL_act 5 (some .int) 3 := ⟨wm_2_12, wm_0_0, by decide +kernel⟩
theorem ys_L_act : Cond.static yL_act ∈ wT := wm_2_11
set_option maxRecDepth 100000 in
set_option maxHeartbeats 4000000 in
theorem k_L_act_b112 {p : Program} {l : Launch} {e : Env} {s : State} {m : MethodId} {args : Array Value} {below : List Frame} {meth : Method} {c : Code} {D : va_G} {ids : m_I3} {st : m_T} {A : Nat → Prop} {z : Nat} {r : Int32} {hF : mH} (hx : p.tables.exec = Jvm.exec) (hb : c.code = cL_act) (hr : meth.sig.returnType = some .int) (hml : c.maxLocals = 5) (hown : s.vm.findClass RL = some m.cls) (hts : ∀ w ∈ (m_ws yL_act cL_act 5 (some .int)), w.before args s = true) (hlocks : meth.locks = false) (hin : meth.name = yL_act.name) (hE : m_EV st A s s.heap) (hA : ∀ q, s.heap.size ≤ q → A q) (h : mH) (t0 : Nat) (t1 : Int32) (t2 : Int32) (H : Heap) (locs : List Loc) (ls : Array Slot) (hrun : s_L_act_b112 st h t0 t1 t2 = some (r, hF)) (hR : Rl D ids A h s H) (hz : H.size = z) (hS : va_S A s.heap H locs) (hl : lv_has ls 5 []) : W p l e rm_L_act s m args below meth c H locs 0 0 (MQ below (mQi D ids A r hF z) args s 0 0 A) (F0 m 112 ls [.int t2, .int t1, .ref t0]) := by
  unfold s_L_act_b112 at hrun
  obtain ⟨_, ho9, hrun⟩ := m_bind hrun
  obtain ⟨fs9, ho9⟩ := m_is_spec ho9
  obtain ⟨⟨x112, h112⟩, hc9, hrun⟩ := m_bind hrun
  refine mr_calli (mr_runV (As := [.int t1, .int t2]) (rest := []) hx hb hml hown hts (c_X7_set l D ids st z (m_ok_spec hc9)) yk_X7_set ys_X7_set wm_2_17 ⟨(Nat.le_of_ble_eq_true rfl), (Nat.le_of_ble_eq_true rfl)⟩ (mr_recv (ci := 5) hR hE hz hS hA rfl ho9) hl.1 rfl (Nat.le_of_ble_eq_true rfl) dL_act_112 ⟨(Nat.le_of_ble_eq_true rfl), (Nat.le_of_ble_eq_true rfl)⟩) hR hz hS hA (fun H locs hR hz hS => ?_)
  obtain ⟨rfl, rfl⟩ := Prod.mk.inj (Option.some.inj hrun)
  exact mr_iret hx hb hr hlocks hR hz hS dL_act_115
set_option maxRecDepth 100000 in
set_option maxHeartbeats 4000000 in
theorem k_L_act_b109 {p : Program} {l : Launch} {e : Env} {s : State} {m : MethodId} {args : Array Value} {below : List Frame} {meth : Method} {c : Code} {D : va_G} {ids : m_I3} {st : m_T} {A : Nat → Prop} {z : Nat} {r : Int32} {hF : mH} (hx : p.tables.exec = Jvm.exec) (hb : c.code = cL_act) (hr : meth.sig.returnType = some .int) (hml : c.maxLocals = 5) (hown : s.vm.findClass RL = some m.cls) (hts : ∀ w ∈ (m_ws yL_act cL_act 5 (some .int)), w.before args s = true) (hlocks : meth.locks = false) (hin : meth.name = yL_act.name) (hE : m_EV st A s s.heap) (hA : ∀ q, s.heap.size ≤ q → A q) (h : mH) (t0 : Nat) (t1 : Int32) (t2 : Int32) (t3 : Int32) (H : Heap) (locs : List Loc) (ls : Array Slot) (hrun : s_L_act_b109 st h t0 t1 t2 t3 = some (r, hF)) (hR : Rl D ids A h s H) (hz : H.size = z) (hS : va_S A s.heap H locs) (hl : lv_has ls 5 []) : W p l e rm_L_act s m args below meth c H locs 0 0 (MQ below (mQi D ids A r hF z) args s 0 0 A) (F0 m 109 ls [.int t3, .int t2, .int t1, .ref t0]) := by
  unfold s_L_act_b109 at hrun
  obtain ⟨x109, hc9, hrun⟩ := m_bind hrun
  refine mr_calli (mr_runS (As := [.int t2, .int t3]) (rest := [.int t1, .ref t0]) hx hb hml hown hts (c_L_low l D ids st z hc9) yk_L_low ys_L_low wm_2_13 ⟨(Nat.le_of_ble_eq_true rfl), (Nat.le_of_ble_eq_true rfl)⟩ (mr_recvS hR hE hz hS hA) hl.1 rfl (Nat.le_of_ble_eq_true rfl) dL_act_109 ⟨(Nat.le_of_ble_eq_true rfl), (Nat.le_of_ble_eq_true rfl)⟩) hR hz hS hA (fun H locs hR hz hS => ?_)
  exact k_L_act_b112 hx hb hr hml hown hts hlocks hin hE hA _ _ _ _ _ _ _ hrun hR hz hS (lv_sub hl [] rfl)
set_option maxRecDepth 100000 in
set_option maxHeartbeats 4000000 in
theorem k_L_act_b60 {p : Program} {l : Launch} {e : Env} {s : State} {m : MethodId} {args : Array Value} {below : List Frame} {meth : Method} {c : Code} {D : va_G} {ids : m_I3} {st : m_T} {A : Nat → Prop} {z : Nat} {r : Int32} {hF : mH} (hx : p.tables.exec = Jvm.exec) (hb : c.code = cL_act) (hr : meth.sig.returnType = some .int) (hml : c.maxLocals = 5) (hown : s.vm.findClass RL = some m.cls) (hts : ∀ w ∈ (m_ws yL_act cL_act 5 (some .int)), w.before args s = true) (hlocks : meth.locks = false) (hin : meth.name = yL_act.name) (hE : m_EV st A s s.heap) (hA : ∀ q, s.heap.size ≤ q → A q) (h : mH) (v0 : Nat) (v2 : Int32) (H : Heap) (locs : List Loc) (ls : Array Slot) (hrun : s_L_act_b60 st h v0 v2 = some (r, hF)) (hR : Rl D ids A h s H) (hz : H.size = z) (hS : va_S A s.heap H locs) (hl : lv_has ls 5 [(0, .ref v0), (2, .int v2)]) : W p l e rm_L_act s m args below meth c H locs 0 0 (MQ below (mQi D ids A r hF z) args s 0 0 A) (F0 m 60 ls []) := by
  unfold s_L_act_b60 at hrun
  refine lv_iload_n hx hb dL_act_60 rfl (lv_at hl 1 rfl) ?_
  refine lv_bipush (v := 6) hx hb dL_act_61 (by decide) ?_
  obtain ⟨x63, hc9, hrun⟩ := m_bind hrun
  refine mr_calli (mr_runS (As := [.int v2, .int 6]) (rest := []) hx hb hml hown hts (c_L_low l D ids st z hc9) yk_L_low ys_L_low wm_2_13 ⟨(Nat.le_of_ble_eq_true rfl), (Nat.le_of_ble_eq_true rfl)⟩ (mr_recvS hR hE hz hS hA) hl.1 rfl (Nat.le_of_ble_eq_true rfl) dL_act_63 ⟨(Nat.le_of_ble_eq_true rfl), (Nat.le_of_ble_eq_true rfl)⟩) hR hz hS hA (fun H locs hR hz hS => ?_)
  refine lv_istore (lv' := [(4, .int x63), (0, .ref v0), (2, .int v2)]) hx hb dL_act_66 hl (by decide) rfl (fun ls hl => ?_)
  refine lv_aload_n hx hb dL_act_68 rfl (lv_at hl 1 rfl) ?_
  refine lv_iload hx hb dL_act_69 (lv_at hl 0 rfl) ?_
  refine lv_iload hx hb dL_act_71 (lv_at hl 0 rfl) ?_
  refine lv_iconst (v := 3) hx hb dL_act_73 (by decide) ?_
  refine lv_icmp_ne (tgt := 91) hx hb dL_act_74 (by decide) (fun hc => ?_) (fun hc => ?_)
  · have hrun := mt_f hrun hc
    refine lv_iload_n hx hb dL_act_91 rfl (lv_at hl 2 rfl) ?_
    refine lv_iconst (v := 3) hx hb dL_act_92 (by decide) ?_
    refine lv_ishr hx hb dL_act_93 ?_
    refine lv_iload hx hb dL_act_94 (lv_at hl 0 rfl) ?_
    refine lv_iconst (v := 3) hx hb dL_act_96 (by decide) ?_
    refine lv_icmp_le (tgt := 106) hx hb dL_act_97 (by decide) (fun hc => ?_) (fun hc => ?_)
    · have hrun := mt_t hrun hc
      refine lv_sipush (v := 700) hx hb dL_act_106 (by decide) ?_
      exact k_L_act_b109 hx hb hr hml hown hts hlocks hin hE hA _ _ _ _ _ _ _ _ hrun hR hz hS (lv_sub hl [] rfl)
    · have hrun := mt_f hrun hc
      refine lv_sipush (v := 3000) hx hb dL_act_100 (by decide) ?_
      refine lv_goto (tgt := 109) hx hb dL_act_103 (by decide) ?_
      exact k_L_act_b109 hx hb hr hml hown hts hlocks hin hE hA _ _ _ _ _ _ _ _ hrun hR hz hS (lv_sub hl [] rfl)
  · have hrun := mt_t hrun hc
    refine lv_iconst (v := 1) hx hb dL_act_77 (by decide) ?_
    refine lv_iload_n hx hb dL_act_78 rfl (lv_at hl 2 rfl) ?_
    refine lv_iconst (v := 3) hx hb dL_act_79 (by decide) ?_
    refine lv_ishr hx hb dL_act_80 ?_
    refine lv_sipush (v := 400) hx hb dL_act_81 (by decide) ?_
    obtain ⟨x84, hc9, hrun⟩ := m_bind hrun
    refine mr_calli (mr_runS (As := [.int (v2 >>> (3 &&& 31)), .int 400]) (rest := [.int 1, .int x63, .ref v0]) hx hb hml hown hts (c_L_low l D ids st z hc9) yk_L_low ys_L_low wm_2_13 ⟨(Nat.le_of_ble_eq_true rfl), (Nat.le_of_ble_eq_true rfl)⟩ (mr_recvS hR hE hz hS hA) hl.1 rfl (Nat.le_of_ble_eq_true rfl) dL_act_84 ⟨(Nat.le_of_ble_eq_true rfl), (Nat.le_of_ble_eq_true rfl)⟩) hR hz hS hA (fun H locs hR hz hS => ?_)
    refine lv_iadd hx hb dL_act_87 ?_
    refine lv_goto (tgt := 112) hx hb dL_act_88 (by decide) ?_
    exact k_L_act_b112 hx hb hr hml hown hts hlocks hin hE hA _ _ _ _ _ _ _ hrun hR hz hS (lv_sub hl [] rfl)
set_option maxRecDepth 100000 in
set_option maxHeartbeats 4000000 in
theorem k_L_act_b135 {p : Program} {l : Launch} {e : Env} {s : State} {m : MethodId} {args : Array Value} {below : List Frame} {meth : Method} {c : Code} {D : va_G} {ids : m_I3} {st : m_T} {A : Nat → Prop} {z : Nat} {r : Int32} {hF : mH} (hx : p.tables.exec = Jvm.exec) (hb : c.code = cL_act) (hr : meth.sig.returnType = some .int) (hml : c.maxLocals = 5) (hown : s.vm.findClass RL = some m.cls) (hts : ∀ w ∈ (m_ws yL_act cL_act 5 (some .int)), w.before args s = true) (hlocks : meth.locks = false) (hin : meth.name = yL_act.name) (hE : m_EV st A s s.heap) (hA : ∀ q, s.heap.size ≤ q → A q) (h : mH) (v0 : Nat) (v2 : Int32) (H : Heap) (locs : List Loc) (ls : Array Slot) (hrun : s_L_act_b135 st h v0 v2 = some (r, hF)) (hR : Rl D ids A h s H) (hz : H.size = z) (hS : va_S A s.heap H locs) (hl : lv_has ls 5 [(0, .ref v0), (2, .int v2)]) : W p l e rm_L_act s m args below meth c H locs 0 0 (MQ below (mQi D ids A r hF z) args s 0 0 A) (F0 m 135 ls []) := by
  unfold s_L_act_b135 at hrun
  refine lv_aload_n hx hb dL_act_135 rfl (lv_at hl 0 rfl) ?_
  refine lv_iload_n hx hb dL_act_136 rfl (lv_at hl 1 rfl) ?_
  refine lv_iconst (v := 3) hx hb dL_act_137 (by decide) ?_
  refine lv_iand hx hb dL_act_138 ?_
  obtain ⟨_, ho9, hrun⟩ := m_bind hrun
  obtain ⟨fs9, ho9⟩ := m_is_spec ho9
  obtain ⟨⟨x139, h139⟩, hc9, hrun⟩ := m_bind hrun
  refine mr_calli (mr_runV (As := [.int (v2 &&& 3)]) (rest := []) hx hb hml hown hts (c_X7_settle l D ids st z (m_ok_spec hc9)) yk_X7_settle ys_X7_settle wm_2_43 ⟨(Nat.le_of_ble_eq_true rfl), (Nat.le_of_ble_eq_true rfl)⟩ (mr_recv (ci := 5) hR hE hz hS hA rfl ho9) hl.1 rfl (Nat.le_of_ble_eq_true rfl) dL_act_139 ⟨(Nat.le_of_ble_eq_true rfl), (Nat.le_of_ble_eq_true rfl)⟩) hR hz hS hA (fun H locs hR hz hS => ?_)
  obtain ⟨rfl, rfl⟩ := Prod.mk.inj (Option.some.inj hrun)
  exact mr_iret hx hb hr hlocks hR hz hS dL_act_142
set_option maxRecDepth 100000 in
set_option maxHeartbeats 4000000 in
theorem k_L_act_b172 {p : Program} {l : Launch} {e : Env} {s : State} {m : MethodId} {args : Array Value} {below : List Frame} {meth : Method} {c : Code} {D : va_G} {ids : m_I3} {st : m_T} {A : Nat → Prop} {z : Nat} {r : Int32} {hF : mH} (hx : p.tables.exec = Jvm.exec) (hb : c.code = cL_act) (hr : meth.sig.returnType = some .int) (hml : c.maxLocals = 5) (hown : s.vm.findClass RL = some m.cls) (hts : ∀ w ∈ (m_ws yL_act cL_act 5 (some .int)), w.before args s = true) (hlocks : meth.locks = false) (hin : meth.name = yL_act.name) (hE : m_EV st A s s.heap) (hA : ∀ q, s.heap.size ≤ q → A q) (h : mH) (v2 : Int32) (t0 : Nat) (t1 : Int32) (t2 : Int32) (t3 : Int32) (H : Heap) (locs : List Loc) (ls : Array Slot) (hrun : s_L_act_b172 st h v2 t0 t1 t2 t3 = some (r, hF)) (hR : Rl D ids A h s H) (hz : H.size = z) (hS : va_S A s.heap H locs) (hl : lv_has ls 5 [(2, .int v2)]) : W p l e rm_L_act s m args below meth c H locs 0 0 (MQ below (mQi D ids A r hF z) args s 0 0 A) (F0 m 172 ls [.int t3, .int t2, .int t1, .ref t0]) := by
  unfold s_L_act_b172 at hrun
  obtain ⟨x172, hc9, hrun⟩ := m_bind hrun
  refine mr_calli (mr_runS (As := [.int t2, .int t3]) (rest := [.int t1, .ref t0]) hx hb hml hown hts (c_L_low l D ids st z hc9) yk_L_low ys_L_low wm_2_13 ⟨(Nat.le_of_ble_eq_true rfl), (Nat.le_of_ble_eq_true rfl)⟩ (mr_recvS hR hE hz hS hA) hl.1 rfl (Nat.le_of_ble_eq_true rfl) dL_act_172 ⟨(Nat.le_of_ble_eq_true rfl), (Nat.le_of_ble_eq_true rfl)⟩) hR hz hS hA (fun H locs hR hz hS => ?_)
  refine lv_iload_n hx hb dL_act_175 rfl (lv_at hl 0 rfl) ?_
  refine lv_bipush (v := 11) hx hb dL_act_176 (by decide) ?_
  refine lv_ishr hx hb dL_act_178 ?_
  refine lv_bipush (v := 10) hx hb dL_act_179 (by decide) ?_
  obtain ⟨x181, hc9, hrun⟩ := m_bind hrun
  refine mr_calli (mr_runS (As := [.int (v2 >>> (11 &&& 31)), .int 10]) (rest := [.int x172, .int t1, .ref t0]) hx hb hml hown hts (c_L_low l D ids st z hc9) yk_L_low ys_L_low wm_2_13 ⟨(Nat.le_of_ble_eq_true rfl), (Nat.le_of_ble_eq_true rfl)⟩ (mr_recvS hR hE hz hS hA) hl.1 rfl (Nat.le_of_ble_eq_true rfl) dL_act_181 ⟨(Nat.le_of_ble_eq_true rfl), (Nat.le_of_ble_eq_true rfl)⟩) hR hz hS hA (fun H locs hR hz hS => ?_)
  obtain ⟨_, ho9, hrun⟩ := m_bind hrun
  obtain ⟨fs9, ho9⟩ := m_is_spec ho9
  obtain ⟨⟨x184, h184⟩, hc9, hrun⟩ := m_bind hrun
  refine mr_calli (mr_runV (As := [.int t1, .int x172, .int x181]) (rest := []) hx hb hml hown hts (c_X7_claim l D ids st z (m_ok_spec hc9)) yk_X7_claim ys_X7_claim wm_2_60 ⟨(Nat.le_of_ble_eq_true rfl), (Nat.le_of_ble_eq_true rfl)⟩ (mr_recv (ci := 5) hR hE hz hS hA rfl ho9) hl.1 rfl (Nat.le_of_ble_eq_true rfl) dL_act_184 ⟨(Nat.le_of_ble_eq_true rfl), (Nat.le_of_ble_eq_true rfl)⟩) hR hz hS hA (fun H locs hR hz hS => ?_)
  obtain ⟨rfl, rfl⟩ := Prod.mk.inj (Option.some.inj hrun)
  exact mr_iret hx hb hr hlocks hR hz hS dL_act_187
set_option maxRecDepth 100000 in
set_option maxHeartbeats 4000000 in
theorem k_L_act_b143 {p : Program} {l : Launch} {e : Env} {s : State} {m : MethodId} {args : Array Value} {below : List Frame} {meth : Method} {c : Code} {D : va_G} {ids : m_I3} {st : m_T} {A : Nat → Prop} {z : Nat} {r : Int32} {hF : mH} (hx : p.tables.exec = Jvm.exec) (hb : c.code = cL_act) (hr : meth.sig.returnType = some .int) (hml : c.maxLocals = 5) (hown : s.vm.findClass RL = some m.cls) (hts : ∀ w ∈ (m_ws yL_act cL_act 5 (some .int)), w.before args s = true) (hlocks : meth.locks = false) (hin : meth.name = yL_act.name) (hE : m_EV st A s s.heap) (hA : ∀ q, s.heap.size ≤ q → A q) (h : mH) (v0 : Nat) (v1 : Int32) (v2 : Int32) (v3 : Int32) (H : Heap) (locs : List Loc) (ls : Array Slot) (hrun : s_L_act_b143 st h v0 v1 v2 v3 = some (r, hF)) (hR : Rl D ids A h s H) (hz : H.size = z) (hS : va_S A s.heap H locs) (hl : lv_has ls 5 [(0, .ref v0), (1, .int v1), (2, .int v2), (3, .int v3)]) : W p l e rm_L_act s m args below meth c H locs 0 0 (MQ below (mQi D ids A r hF z) args s 0 0 A) (F0 m 143 ls []) := by
  unfold s_L_act_b143 at hrun
  refine lv_aload_n hx hb dL_act_143 rfl (lv_at hl 0 rfl) ?_
  refine lv_iload_n hx hb dL_act_144 rfl (lv_at hl 1 rfl) ?_
  refine lv_iconst (v := 4) hx hb dL_act_145 (by decide) ?_
  refine lv_ishr hx hb dL_act_146 ?_
  refine lv_iload_n hx hb dL_act_147 rfl (lv_at hl 3 rfl) ?_
  refine lv_iconst (v := 1) hx hb dL_act_148 (by decide) ?_
  refine lv_iadd hx hb dL_act_149 ?_
  obtain ⟨x150, hc9, hrun⟩ := m_bind hrun
  refine mr_calli (mr_runS (As := [.int (v1 >>> (4 &&& 31)), .int (v3 + 1)]) (rest := [.ref v0]) hx hb hml hown hts (c_L_low l D ids st z hc9) yk_L_low ys_L_low wm_2_13 ⟨(Nat.le_of_ble_eq_true rfl), (Nat.le_of_ble_eq_true rfl)⟩ (mr_recvS hR hE hz hS hA) hl.1 rfl (Nat.le_of_ble_eq_true rfl) dL_act_150 ⟨(Nat.le_of_ble_eq_true rfl), (Nat.le_of_ble_eq_true rfl)⟩) hR hz hS hA (fun H locs hR hz hS => ?_)
  refine lv_iload_n hx hb dL_act_153 rfl (lv_at hl 2 rfl) ?_
  refine lv_iload_n hx hb dL_act_154 rfl (lv_at hl 2 rfl) ?_
  refine lv_bipush (v := 20) hx hb dL_act_155 (by decide) ?_
  refine lv_ishr hx hb dL_act_157 ?_
  refine lv_iconst (v := 1) hx hb dL_act_158 (by decide) ?_
  refine lv_iand hx hb dL_act_159 ?_
  refine lv_if_ne (tgt := 169) hx hb dL_act_160 (by decide) (fun hc => ?_) (fun hc => ?_)
  · have hrun := mt_f hrun hc
    refine lv_sipush (v := 1440) hx hb dL_act_169 (by decide) ?_
    exact k_L_act_b172 hx hb hr hml hown hts hlocks hin hE hA _ _ _ _ _ _ _ _ _ hrun hR hz hS (lv_sub hl [2] rfl)
  · have hrun := mt_t hrun hc
    refine lv_sipush (v := 200) hx hb dL_act_163 (by decide) ?_
    refine lv_goto (tgt := 172) hx hb dL_act_166 (by decide) ?_
    exact k_L_act_b172 hx hb hr hml hown hts hlocks hin hE hA _ _ _ _ _ _ _ _ _ hrun hR hz hS (lv_sub hl [2] rfl)
set_option maxRecDepth 100000 in
set_option maxHeartbeats 4000000 in
theorem k_L_act_b277 {p : Program} {l : Launch} {e : Env} {s : State} {m : MethodId} {args : Array Value} {below : List Frame} {meth : Method} {c : Code} {D : va_G} {ids : m_I3} {st : m_T} {A : Nat → Prop} {z : Nat} {r : Int32} {hF : mH} (hx : p.tables.exec = Jvm.exec) (hb : c.code = cL_act) (hr : meth.sig.returnType = some .int) (hml : c.maxLocals = 5) (hown : s.vm.findClass RL = some m.cls) (hts : ∀ w ∈ (m_ws yL_act cL_act 5 (some .int)), w.before args s = true) (hlocks : meth.locks = false) (hin : meth.name = yL_act.name) (hE : m_EV st A s s.heap) (hA : ∀ q, s.heap.size ≤ q → A q) (h : mH) (t0 : Int32) (H : Heap) (locs : List Loc) (ls : Array Slot) (hrun : s_L_act_b277 st h t0 = some (r, hF)) (hR : Rl D ids A h s H) (hz : H.size = z) (hS : va_S A s.heap H locs) (hl : lv_has ls 5 []) : W p l e rm_L_act s m args below meth c H locs 0 0 (MQ below (mQi D ids A r hF z) args s 0 0 A) (F0 m 277 ls [.int t0]) := by
  unfold s_L_act_b277 at hrun
  obtain ⟨rfl, rfl⟩ := Prod.mk.inj (Option.some.inj hrun)
  exact mr_iret hx hb hr hlocks hR hz hS dL_act_277
set_option maxRecDepth 100000 in
set_option maxHeartbeats 4000000 in
theorem k_L_act_b274 {p : Program} {l : Launch} {e : Env} {s : State} {m : MethodId} {args : Array Value} {below : List Frame} {meth : Method} {c : Code} {D : va_G} {ids : m_I3} {st : m_T} {A : Nat → Prop} {z : Nat} {r : Int32} {hF : mH} (hx : p.tables.exec = Jvm.exec) (hb : c.code = cL_act) (hr : meth.sig.returnType = some .int) (hml : c.maxLocals = 5) (hown : s.vm.findClass RL = some m.cls) (hts : ∀ w ∈ (m_ws yL_act cL_act 5 (some .int)), w.before args s = true) (hlocks : meth.locks = false) (hin : meth.name = yL_act.name) (hE : m_EV st A s s.heap) (hA : ∀ q, s.heap.size ≤ q → A q) (h : mH) (t0 : Nat) (t1 : Int32) (t2 : Int32) (t3 : Int32) (t4 : Int32) (t5 : Int32) (H : Heap) (locs : List Loc) (ls : Array Slot) (hrun : s_L_act_b274 st h t0 t1 t2 t3 t4 t5 = some (r, hF)) (hR : Rl D ids A h s H) (hz : H.size = z) (hS : va_S A s.heap H locs) (hl : lv_has ls 5 []) : W p l e rm_L_act s m args below meth c H locs 0 0 (MQ below (mQi D ids A r hF z) args s 0 0 A) (F0 m 274 ls [.int t5, .int t4, .int t3, .int t2, .int t1, .ref t0]) := by
  unfold s_L_act_b274 at hrun
  obtain ⟨_, ho9, hrun⟩ := m_bind hrun
  obtain ⟨fs9, ho9⟩ := m_is_spec ho9
  obtain ⟨⟨x274, h274⟩, hc9, hrun⟩ := m_bind hrun
  refine mr_calli (mr_runV (As := [.int t1, .int t2, .int t3, .int t4, .int t5]) (rest := []) hx hb hml hown hts (c_X7_tap l D ids st z (m_ok_spec hc9)) yk_X7_tap ys_X7_tap wm_2_105 ⟨(Nat.le_of_ble_eq_true rfl), (Nat.le_of_ble_eq_true rfl)⟩ (mr_recv (ci := 5) hR hE hz hS hA rfl ho9) hl.1 rfl (Nat.le_of_ble_eq_true rfl) dL_act_274 ⟨(Nat.le_of_ble_eq_true rfl), (Nat.le_of_ble_eq_true rfl)⟩) hR hz hS hA (fun H locs hR hz hS => ?_)
  exact k_L_act_b277 hx hb hr hml hown hts hlocks hin hE hA _ _ _ _ _ hrun hR hz hS (lv_sub hl [] rfl)
set_option maxRecDepth 100000 in
set_option maxHeartbeats 4000000 in
theorem k_L_act_b248 {p : Program} {l : Launch} {e : Env} {s : State} {m : MethodId} {args : Array Value} {below : List Frame} {meth : Method} {c : Code} {D : va_G} {ids : m_I3} {st : m_T} {A : Nat → Prop} {z : Nat} {r : Int32} {hF : mH} (hx : p.tables.exec = Jvm.exec) (hb : c.code = cL_act) (hr : meth.sig.returnType = some .int) (hml : c.maxLocals = 5) (hown : s.vm.findClass RL = some m.cls) (hts : ∀ w ∈ (m_ws yL_act cL_act 5 (some .int)), w.before args s = true) (hlocks : meth.locks = false) (hin : meth.name = yL_act.name) (hE : m_EV st A s s.heap) (hA : ∀ q, s.heap.size ≤ q → A q) (h : mH) (v2 : Int32) (t0 : Nat) (t1 : Int32) (t2 : Int32) (t3 : Int32) (t4 : Int32) (H : Heap) (locs : List Loc) (ls : Array Slot) (hrun : s_L_act_b248 st h v2 t0 t1 t2 t3 t4 = some (r, hF)) (hR : Rl D ids A h s H) (hz : H.size = z) (hS : va_S A s.heap H locs) (hl : lv_has ls 5 [(2, .int v2)]) : W p l e rm_L_act s m args below meth c H locs 0 0 (MQ below (mQi D ids A r hF z) args s 0 0 A) (F0 m 248 ls [.int t4, .int t3, .int t2, .int t1, .ref t0]) := by
  unfold s_L_act_b248 at hrun
  obtain ⟨x248, hc9, hrun⟩ := m_bind hrun
  refine mr_calli (mr_runS (As := [.int t3, .int t4]) (rest := [.int t2, .int t1, .ref t0]) hx hb hml hown hts (c_L_low l D ids st z hc9) yk_L_low ys_L_low wm_2_13 ⟨(Nat.le_of_ble_eq_true rfl), (Nat.le_of_ble_eq_true rfl)⟩ (mr_recvS hR hE hz hS hA) hl.1 rfl (Nat.le_of_ble_eq_true rfl) dL_act_248 ⟨(Nat.le_of_ble_eq_true rfl), (Nat.le_of_ble_eq_true rfl)⟩) hR hz hS hA (fun H locs hR hz hS => ?_)
  refine lv_iload_n hx hb dL_act_251 rfl (lv_at hl 0 rfl) ?_
  refine lv_bipush (v := 11) hx hb dL_act_252 (by decide) ?_
  refine lv_ishr hx hb dL_act_254 ?_
  refine lv_bipush (v := 10) hx hb dL_act_255 (by decide) ?_
  obtain ⟨x257, hc9, hrun⟩ := m_bind hrun
  refine mr_calli (mr_runS (As := [.int (v2 >>> (11 &&& 31)), .int 10]) (rest := [.int x248, .int t2, .int t1, .ref t0]) hx hb hml hown hts (c_L_low l D ids st z hc9) yk_L_low ys_L_low wm_2_13 ⟨(Nat.le_of_ble_eq_true rfl), (Nat.le_of_ble_eq_true rfl)⟩ (mr_recvS hR hE hz hS hA) hl.1 rfl (Nat.le_of_ble_eq_true rfl) dL_act_257 ⟨(Nat.le_of_ble_eq_true rfl), (Nat.le_of_ble_eq_true rfl)⟩) hR hz hS hA (fun H locs hR hz hS => ?_)
  refine lv_iload_n hx hb dL_act_260 rfl (lv_at hl 0 rfl) ?_
  refine lv_bipush (v := 15) hx hb dL_act_261 (by decide) ?_
  refine lv_ishr hx hb dL_act_263 ?_
  refine lv_iconst (v := 1) hx hb dL_act_264 (by decide) ?_
  refine lv_iand hx hb dL_act_265 ?_
  refine lv_if_ne (tgt := 273) hx hb dL_act_266 (by decide) (fun hc => ?_) (fun hc => ?_)
  · have hrun := mt_f hrun hc
    refine lv_iconst (v := 0) hx hb dL_act_273 (by decide) ?_
    exact k_L_act_b274 hx hb hr hml hown hts hlocks hin hE hA _ _ _ _ _ _ _ _ _ _ hrun hR hz hS (lv_sub hl [] rfl)
  · have hrun := mt_t hrun hc
    refine lv_iconst (v := 1) hx hb dL_act_269 (by decide) ?_
    refine lv_goto (tgt := 274) hx hb dL_act_270 (by decide) ?_
    exact k_L_act_b274 hx hb hr hml hown hts hlocks hin hE hA _ _ _ _ _ _ _ _ _ _ hrun hR hz hS (lv_sub hl [] rfl)
set_option maxRecDepth 100000 in
set_option maxHeartbeats 4000000 in
theorem k_L_act_b226 {p : Program} {l : Launch} {e : Env} {s : State} {m : MethodId} {args : Array Value} {below : List Frame} {meth : Method} {c : Code} {D : va_G} {ids : m_I3} {st : m_T} {A : Nat → Prop} {z : Nat} {r : Int32} {hF : mH} (hx : p.tables.exec = Jvm.exec) (hb : c.code = cL_act) (hr : meth.sig.returnType = some .int) (hml : c.maxLocals = 5) (hown : s.vm.findClass RL = some m.cls) (hts : ∀ w ∈ (m_ws yL_act cL_act 5 (some .int)), w.before args s = true) (hlocks : meth.locks = false) (hin : meth.name = yL_act.name) (hE : m_EV st A s s.heap) (hA : ∀ q, s.heap.size ≤ q → A q) (h : mH) (v2 : Int32) (t0 : Nat) (t1 : Int32) (t2 : Int32) (t3 : Int32) (H : Heap) (locs : List Loc) (ls : Array Slot) (hrun : s_L_act_b226 st h v2 t0 t1 t2 t3 = some (r, hF)) (hR : Rl D ids A h s H) (hz : H.size = z) (hS : va_S A s.heap H locs) (hl : lv_has ls 5 [(2, .int v2)]) : W p l e rm_L_act s m args below meth c H locs 0 0 (MQ below (mQi D ids A r hF z) args s 0 0 A) (F0 m 226 ls [.int t3, .int t2, .int t1, .ref t0]) := by
  unfold s_L_act_b226 at hrun
  obtain ⟨x226, hc9, hrun⟩ := m_bind hrun
  refine mr_calli (mr_runS (As := [.int t2, .int t3]) (rest := [.int t1, .ref t0]) hx hb hml hown hts (c_L_low l D ids st z hc9) yk_L_low ys_L_low wm_2_13 ⟨(Nat.le_of_ble_eq_true rfl), (Nat.le_of_ble_eq_true rfl)⟩ (mr_recvS hR hE hz hS hA) hl.1 rfl (Nat.le_of_ble_eq_true rfl) dL_act_226 ⟨(Nat.le_of_ble_eq_true rfl), (Nat.le_of_ble_eq_true rfl)⟩) hR hz hS hA (fun H locs hR hz hS => ?_)
  refine lv_iload_n hx hb dL_act_229 rfl (lv_at hl 0 rfl) ?_
  refine lv_iload_n hx hb dL_act_230 rfl (lv_at hl 0 rfl) ?_
  refine lv_bipush (v := 20) hx hb dL_act_231 (by decide) ?_
  refine lv_ishr hx hb dL_act_233 ?_
  refine lv_iconst (v := 1) hx hb dL_act_234 (by decide) ?_
  refine lv_iand hx hb dL_act_235 ?_
  refine lv_if_ne (tgt := 245) hx hb dL_act_236 (by decide) (fun hc => ?_) (fun hc => ?_)
  · have hrun := mt_f hrun hc
    refine lv_sipush (v := 1440) hx hb dL_act_245 (by decide) ?_
    exact k_L_act_b248 hx hb hr hml hown hts hlocks hin hE hA _ _ _ _ _ _ _ _ _ _ hrun hR hz hS (lv_sub hl [0] rfl)
  · have hrun := mt_t hrun hc
    refine lv_sipush (v := 200) hx hb dL_act_239 (by decide) ?_
    refine lv_goto (tgt := 248) hx hb dL_act_242 (by decide) ?_
    exact k_L_act_b248 hx hb hr hml hown hts hlocks hin hE hA _ _ _ _ _ _ _ _ _ _ hrun hR hz hS (lv_sub hl [0] rfl)
set_option maxRecDepth 100000 in
set_option maxHeartbeats 4000000 in
theorem k_L_act_b134 {p : Program} {l : Launch} {e : Env} {s : State} {m : MethodId} {args : Array Value} {below : List Frame} {meth : Method} {c : Code} {D : va_G} {ids : m_I3} {st : m_T} {A : Nat → Prop} {z : Nat} {r : Int32} {hF : mH} (hx : p.tables.exec = Jvm.exec) (hb : c.code = cL_act) (hr : meth.sig.returnType = some .int) (hml : c.maxLocals = 5) (hown : s.vm.findClass RL = some m.cls) (hts : ∀ w ∈ (m_ws yL_act cL_act 5 (some .int)), w.before args s = true) (hlocks : meth.locks = false) (hin : meth.name = yL_act.name) (hE : m_EV st A s s.heap) (hA : ∀ q, s.heap.size ≤ q → A q) (h : mH) (t0 : Int32) (H : Heap) (locs : List Loc) (ls : Array Slot) (hrun : s_L_act_b134 st h t0 = some (r, hF)) (hR : Rl D ids A h s H) (hz : H.size = z) (hS : va_S A s.heap H locs) (hl : lv_has ls 5 []) : W p l e rm_L_act s m args below meth c H locs 0 0 (MQ below (mQi D ids A r hF z) args s 0 0 A) (F0 m 134 ls [.int t0]) := by
  unfold s_L_act_b134 at hrun
  obtain ⟨rfl, rfl⟩ := Prod.mk.inj (Option.some.inj hrun)
  exact mr_iret hx hb hr hlocks hR hz hS dL_act_134
set_option maxRecDepth 100000 in
set_option maxHeartbeats 4000000 in
theorem c_L_act (l : Launch) (D : va_G) (ids : m_I3) (st : m_T) (z : Nat) {h : mH} {v0 : Nat} {v1 : Int32} {v2 : Int32} {r : Int32} {hF : mH} (hrun : s_L_act st h v0 v1 v2 = some (r, hF)) : Met l yL_act (m_ws yL_act cL_act 5 (some .int)) rm_L_act (mPc D ids st [.ref v0, .int v1, .int v2] h z) (mQi D ids (m_A h z) r hF z) rm_L_act.cells rm_L_act.slots (m_A h z) := by
  refine mr_of (cc := cL_act) (maxL := 5) (ret := some .int) (by decide) rfl (Nat.le_of_ble_eq_true rfl) ?_
  intro p e s m below meth c ls hx hb hr hml hown hts hlocks hin hR hE hz hl
  have hA : ∀ q, s.heap.size ≤ q → m_A h z q := fun q hq => Or.inr (by rw [← hz]; exact hq)
  have hS : va_S (m_A h z) s.heap s.heap [] := va_S.rf
  have hl : lv_has ls 5 [(0, .ref v0), (1, .int v1), (2, .int v2)] := hl
  unfold s_L_act at hrun
  refine lv_aload_n hx hb dL_act_0 rfl (lv_at hl 0 rfl) ?_
  refine lv_iconst (v := 0) hx hb dL_act_1 (by decide) ?_
  obtain ⟨_, ho9, hrun⟩ := m_bind hrun
  obtain ⟨fs9, ho9⟩ := m_is_spec ho9
  obtain ⟨⟨x2, h2⟩, hc9, hrun⟩ := m_bind hrun
  refine mr_calli (mr_runV (As := [.int 0]) (rest := []) hx hb hml hown hts (c_X7_count l D ids st z (m_ok_spec hc9)) yk_X7_count ys_X7_count wm_1_125 ⟨(Nat.le_of_ble_eq_true rfl), (Nat.le_of_ble_eq_true rfl)⟩ (mr_recv (ci := 5) hR hE hz hS hA rfl ho9) hl.1 rfl (Nat.le_of_ble_eq_true rfl) dL_act_2 ⟨(Nat.le_of_ble_eq_true rfl), (Nat.le_of_ble_eq_true rfl)⟩) hR hz hS hA (fun H locs hR hz hS => ?_)
  refine lv_istore_n (lv' := [(3, .int x2), (0, .ref v0), (1, .int v1), (2, .int v2)]) hx hb dL_act_5 rfl hl (by decide) rfl (fun ls hl => ?_)
  refine lv_iload_n hx hb dL_act_6 rfl (lv_at hl 2 rfl) ?_
  refine lv_bipush (v := 15) hx hb dL_act_7 (by decide) ?_
  refine lv_iand hx hb dL_act_9 ?_
  by_cases hc0 : (v1 &&& 15) = 0
  · have hrun := mt_t hrun hc0
    refine lv_tableIn (tgt := 60) (off := 50) hx hb dL_act_10 (by rw [hc0]; decide) (by rw [hc0]; decide) (by rw [hc0]; rfl) (by decide) ?_
    exact k_L_act_b60 hx hb hr hml hown hts hlocks hin hE hA _ _ _ _ _ _ hrun hR hz hS (lv_sub hl [1, 3] rfl)
  have hrun := mt_f hrun hc0
  have hn0 : ¬ (v1 &&& 15).toInt = 0 := lv_neT hc0 rfl
  by_cases hc1 : (v1 &&& 15) = 1
  · have hrun := mt_t hrun hc1
    refine lv_tableIn (tgt := 60) (off := 50) hx hb dL_act_10 (by rw [hc1]; decide) (by rw [hc1]; decide) (by rw [hc1]; rfl) (by decide) ?_
    exact k_L_act_b60 hx hb hr hml hown hts hlocks hin hE hA _ _ _ _ _ _ hrun hR hz hS (lv_sub hl [1, 3] rfl)
  have hrun := mt_f hrun hc1
  have hn1 : ¬ (v1 &&& 15).toInt = 1 := lv_neT hc1 rfl
  by_cases hc2 : (v1 &&& 15) = 2
  · have hrun := mt_t hrun hc2
    refine lv_tableIn (tgt := 116) (off := 106) hx hb dL_act_10 (by rw [hc2]; decide) (by rw [hc2]; decide) (by rw [hc2]; rfl) (by decide) ?_
    refine lv_iload_n hx hb dL_act_116 rfl (lv_at hl 0 rfl) ?_
    refine lv_if_ne (tgt := 125) hx hb dL_act_117 (by decide) (fun hc => ?_) (fun hc => ?_)
    · have hrun := mt_f hrun hc
      refine lv_aload_n hx hb dL_act_125 rfl (lv_at hl 1 rfl) ?_
      refine lv_iload_n hx hb dL_act_126 rfl (lv_at hl 3 rfl) ?_
      refine lv_iload_n hx hb dL_act_127 rfl (lv_at hl 0 rfl) ?_
      obtain ⟨x128, hc9, hrun⟩ := m_bind hrun
      refine mr_calli (mr_runS (As := [.int v2, .int x2]) (rest := [.ref v0]) hx hb hml hown hts (c_L_low l D ids st z hc9) yk_L_low ys_L_low wm_2_13 ⟨(Nat.le_of_ble_eq_true rfl), (Nat.le_of_ble_eq_true rfl)⟩ (mr_recvS hR hE hz hS hA) hl.1 rfl (Nat.le_of_ble_eq_true rfl) dL_act_128 ⟨(Nat.le_of_ble_eq_true rfl), (Nat.le_of_ble_eq_true rfl)⟩) hR hz hS hA (fun H locs hR hz hS => ?_)
      obtain ⟨_, ho9, hrun⟩ := m_bind hrun
      obtain ⟨fs9, ho9⟩ := m_is_spec ho9
      obtain ⟨⟨x131, h131⟩, hc9, hrun⟩ := m_bind hrun
      refine mr_calli (mr_runV (As := [.int x128]) (rest := []) hx hb hml hown hts (c_X7_remove l D ids st z (m_ok_spec hc9)) yk_X7_remove ys_X7_remove wm_2_33 ⟨(Nat.le_of_ble_eq_true rfl), (Nat.le_of_ble_eq_true rfl)⟩ (mr_recv (ci := 5) hR hE hz hS hA rfl ho9) hl.1 rfl (Nat.le_of_ble_eq_true rfl) dL_act_131 ⟨(Nat.le_of_ble_eq_true rfl), (Nat.le_of_ble_eq_true rfl)⟩) hR hz hS hA (fun H locs hR hz hS => ?_)
      exact k_L_act_b134 hx hb hr hml hown hts hlocks hin hE hA _ _ _ _ _ hrun hR hz hS (lv_sub hl [] rfl)
    · have hrun := mt_t hrun hc
      refine lv_bipush (v := (-9)) hx hb dL_act_120 (by decide) ?_
      refine lv_goto (tgt := 134) hx hb dL_act_122 (by decide) ?_
      exact k_L_act_b134 hx hb hr hml hown hts hlocks hin hE hA _ _ _ _ _ hrun hR hz hS (lv_sub hl [] rfl)
  have hrun := mt_f hrun hc2
  have hn2 : ¬ (v1 &&& 15).toInt = 2 := lv_neT hc2 rfl
  by_cases hc3 : (v1 &&& 15) = 3
  · have hrun := mt_t hrun hc3
    refine lv_tableIn (tgt := 135) (off := 125) hx hb dL_act_10 (by rw [hc3]; decide) (by rw [hc3]; decide) (by rw [hc3]; rfl) (by decide) ?_
    exact k_L_act_b135 hx hb hr hml hown hts hlocks hin hE hA _ _ _ _ _ _ hrun hR hz hS (lv_sub hl [1, 3] rfl)
  have hrun := mt_f hrun hc3
  have hn3 : ¬ (v1 &&& 15).toInt = 3 := lv_neT hc3 rfl
  by_cases hc4 : (v1 &&& 15) = 4
  · have hrun := mt_t hrun hc4
    refine lv_tableIn (tgt := 135) (off := 125) hx hb dL_act_10 (by rw [hc4]; decide) (by rw [hc4]; decide) (by rw [hc4]; rfl) (by decide) ?_
    exact k_L_act_b135 hx hb hr hml hown hts hlocks hin hE hA _ _ _ _ _ _ hrun hR hz hS (lv_sub hl [1, 3] rfl)
  have hrun := mt_f hrun hc4
  have hn4 : ¬ (v1 &&& 15).toInt = 4 := lv_neT hc4 rfl
  by_cases hc5 : (v1 &&& 15) = 5
  · have hrun := mt_t hrun hc5
    refine lv_tableIn (tgt := 135) (off := 125) hx hb dL_act_10 (by rw [hc5]; decide) (by rw [hc5]; decide) (by rw [hc5]; rfl) (by decide) ?_
    exact k_L_act_b135 hx hb hr hml hown hts hlocks hin hE hA _ _ _ _ _ _ hrun hR hz hS (lv_sub hl [1, 3] rfl)
  have hrun := mt_f hrun hc5
  have hn5 : ¬ (v1 &&& 15).toInt = 5 := lv_neT hc5 rfl
  by_cases hc6 : (v1 &&& 15) = 6
  · have hrun := mt_t hrun hc6
    refine lv_tableIn (tgt := 143) (off := 133) hx hb dL_act_10 (by rw [hc6]; decide) (by rw [hc6]; decide) (by rw [hc6]; rfl) (by decide) ?_
    exact k_L_act_b143 hx hb hr hml hown hts hlocks hin hE hA _ _ _ _ _ _ _ _ hrun hR hz hS (lv_sub hl [1, 2, 3, 0] rfl)
  have hrun := mt_f hrun hc6
  have hn6 : ¬ (v1 &&& 15).toInt = 6 := lv_neT hc6 rfl
  by_cases hc7 : (v1 &&& 15) = 7
  · have hrun := mt_t hrun hc7
    refine lv_tableIn (tgt := 143) (off := 133) hx hb dL_act_10 (by rw [hc7]; decide) (by rw [hc7]; decide) (by rw [hc7]; rfl) (by decide) ?_
    exact k_L_act_b143 hx hb hr hml hown hts hlocks hin hE hA _ _ _ _ _ _ _ _ hrun hR hz hS (lv_sub hl [1, 2, 3, 0] rfl)
  have hrun := mt_f hrun hc7
  have hn7 : ¬ (v1 &&& 15).toInt = 7 := lv_neT hc7 rfl
  by_cases hc8 : (v1 &&& 15) = 8
  · have hrun := mt_t hrun hc8
    refine lv_tableIn (tgt := 143) (off := 133) hx hb dL_act_10 (by rw [hc8]; decide) (by rw [hc8]; decide) (by rw [hc8]; rfl) (by decide) ?_
    exact k_L_act_b143 hx hb hr hml hown hts hlocks hin hE hA _ _ _ _ _ _ _ _ hrun hR hz hS (lv_sub hl [1, 2, 3, 0] rfl)
  have hrun := mt_f hrun hc8
  have hn8 : ¬ (v1 &&& 15).toInt = 8 := lv_neT hc8 rfl
  refine lv_tableOut (tgt := 188) hx hb dL_act_10 (by omega) (by decide) ?_
  refine lv_iload_n hx hb dL_act_188 rfl (lv_at hl 0 rfl) ?_
  refine lv_bipush (v := 24) hx hb dL_act_189 (by decide) ?_
  refine lv_icmp_ne (tgt := 199) hx hb dL_act_191 (by decide) (fun hc => ?_) (fun hc => ?_)
  · have hrun := mt_f hrun hc
    refine lv_aload_n hx hb dL_act_199 rfl (lv_at hl 1 rfl) ?_
    refine lv_iload_n hx hb dL_act_200 rfl (lv_at hl 2 rfl) ?_
    refine lv_iconst (v := 4) hx hb dL_act_201 (by decide) ?_
    refine lv_ishr hx hb dL_act_202 ?_
    refine lv_iconst (v := 4) hx hb dL_act_203 (by decide) ?_
    obtain ⟨x204, hc9, hrun⟩ := m_bind hrun
    refine mr_calli (mr_runS (As := [.int (v1 >>> (4 &&& 31)), .int 4]) (rest := [.ref v0]) hx hb hml hown hts (c_L_low l D ids st z hc9) yk_L_low ys_L_low wm_2_13 ⟨(Nat.le_of_ble_eq_true rfl), (Nat.le_of_ble_eq_true rfl)⟩ (mr_recvS hR hE hz hS hA) hl.1 rfl (Nat.le_of_ble_eq_true rfl) dL_act_204 ⟨(Nat.le_of_ble_eq_true rfl), (Nat.le_of_ble_eq_true rfl)⟩) hR hz hS hA (fun H locs hR hz hS => ?_)
    refine lv_iload_n hx hb dL_act_207 rfl (lv_at hl 2 rfl) ?_
    refine lv_bipush (v := 6) hx hb dL_act_208 (by decide) ?_
    refine lv_ishr hx hb dL_act_210 ?_
    refine lv_iload_n hx hb dL_act_211 rfl (lv_at hl 2 rfl) ?_
    refine lv_bipush (v := 20) hx hb dL_act_212 (by decide) ?_
    refine lv_ishr hx hb dL_act_214 ?_
    refine lv_iconst (v := 1) hx hb dL_act_215 (by decide) ?_
    refine lv_iand hx hb dL_act_216 ?_
    refine lv_if_ne (tgt := 224) hx hb dL_act_217 (by decide) (fun hc => ?_) (fun hc => ?_)
    · have hrun := mt_f hrun hc
      refine lv_bipush (v := 28) hx hb dL_act_224 (by decide) ?_
      exact k_L_act_b226 hx hb hr hml hown hts hlocks hin hE hA _ _ _ _ _ _ _ _ _ hrun hR hz hS (lv_sub hl [3] rfl)
    · have hrun := mt_t hrun hc
      refine lv_iconst (v := 2) hx hb dL_act_220 (by decide) ?_
      refine lv_goto (tgt := 226) hx hb dL_act_221 (by decide) ?_
      exact k_L_act_b226 hx hb hr hml hown hts hlocks hin hE hA _ _ _ _ _ _ _ _ _ hrun hR hz hS (lv_sub hl [3] rfl)
  · have hrun := mt_t hrun hc
    refine lv_bipush (v := (-9)) hx hb dL_act_194 (by decide) ?_
    refine lv_goto (tgt := 277) hx hb dL_act_196 (by decide) ?_
    exact k_L_act_b277 hx hb hr hml hown hts hlocks hin hE hA _ _ _ _ _ hrun hR hz hS (lv_sub hl [] rfl)
/-! X2_popInto -/
abbrev rm_X2_popInto : Room := { frames := 3, cells := 0, slots := 0, locals := 64 }
theorem yk_X2_popInto : m_K yX2_popInto cX2_popInto 3 (none) 1 := ⟨wm_1_107, wm_0_6, by decide +kernel⟩
theorem ys_X2_popInto : Cond.instanceMethod yX2_popInto ∈ wT ∧ Cond.selects RX2 yX2_popInto yX2_popInto ∈ wT := ⟨wm_1_105, wm_1_106⟩
set_option maxRecDepth 100000 in
set_option maxHeartbeats 4000000 in
theorem k_X2_popInto_b49 {p : Program} {l : Launch} {e : Env} {s : State} {m : MethodId} {args : Array Value} {below : List Frame} {meth : Method} {c : Code} {D : va_G} {ids : m_I3} {st : m_T} {A : Nat → Prop} {z : Nat} {hF : mH} (hx : p.tables.exec = Jvm.exec) (hb : c.code = cX2_popInto) (hr : meth.sig.returnType = none) (hml : c.maxLocals = 3) (hown : s.vm.findClass RX2 = some m.cls) (hts : ∀ w ∈ (m_ws yX2_popInto cX2_popInto 3 (none)), w.before args s = true) (hlocks : meth.locks = false) (hin : meth.name = yX2_popInto.name) (hE : m_EV st A s s.heap) (hA : ∀ q, s.heap.size ≤ q → A q) (h : mH) (H : Heap) (locs : List Loc) (ls : Array Slot) (hrun : s_X2_popInto_b49 h = some hF) (hR : Rl D ids A h s H) (hz : H.size = z) (hS : va_S A s.heap H locs) (hl : lv_has ls 3 []) : W p l e rm_X2_popInto s m args below meth c H locs 0 0 (MQ below (mQv D ids A hF z) args s 0 0 A) (F0 m 49 ls []) := by
  unfold s_X2_popInto_b49 at hrun
  obtain rfl := Option.some.inj hrun
  exact mr_vret hx hb hr hlocks hR hz hS dX2_popInto_49
set_option maxRecDepth 100000 in
set_option maxHeartbeats 4000000 in
theorem k_X2_popInto_b18 {p : Program} {l : Launch} {e : Env} {s : State} {m : MethodId} {args : Array Value} {below : List Frame} {meth : Method} {c : Code} {D : va_G} {ids : m_I3} {st : m_T} {A : Nat → Prop} {z : Nat} {hF : mH} (hx : p.tables.exec = Jvm.exec) (hb : c.code = cX2_popInto) (hr : meth.sig.returnType = none) (hml : c.maxLocals = 3) (hown : s.vm.findClass RX2 = some m.cls) (hts : ∀ w ∈ (m_ws yX2_popInto cX2_popInto 3 (none)), w.before args s = true) (hlocks : meth.locks = false) (hin : meth.name = yX2_popInto.name) (hE : m_EV st A s s.heap) (hA : ∀ q, s.heap.size ≤ q → A q) (h : mH) (v0 : Nat) (v1 : Nat) (t0 : Nat) (t1 : Int32) (H : Heap) (locs : List Loc) (ls : Array Slot) (hrun : s_X2_popInto_b18 h v0 v1 t0 t1 = some hF) (hR : Rl D ids A h s H) (hz : H.size = z) (hS : va_S A s.heap H locs) (hl : lv_has ls 3 [(0, .ref v0), (1, .ref v1)]) : W p l e rm_X2_popInto s m args below meth c H locs 0 0 (MQ below (mQv D ids A hF z) args s 0 0 A) (F0 m 18 ls [.int t1, .ref t0]) := by
  unfold s_X2_popInto_b18 at hrun
  obtain ⟨h18, hc9, hrun⟩ := m_bind hrun
  refine mr_put (C := RX2) (T := TX2) (N := 3) (ci := 1) hx hb hts (fun w q => m_ws_in (wi_X2 w q)) tyX2 tyX2_ok nmX2 hown hR hz hS rfl 1 (by decide) (hts _ (m_ws_in wm_0_143)) (fun _ h9 => h9) rfl (tyX2_ok 1 (by decide)) rfl rfl hc9 dX2_popInto_18 (fun H locs hR hz hS => ?_)
  refine lv_aload_n hx hb dX2_popInto_21 rfl (lv_at hl 0 rfl) ?_
  refine lv_dup hx hb dX2_popInto_22 rfl ?_
  obtain ⟨x23, hc9, hrun⟩ := m_bind hrun
  refine mr_get (C := RX2) (T := TX2) (N := 3) (ci := 1) hx hb hts (fun w q => m_ws_in (wi_X2 w q)) hown hR rfl 2 (by decide) (hts _ (m_ws_in wm_0_144)) (fun _ h9 => h9) (m_gi_spec hc9) dX2_popInto_23 ?_
  refine lv_iconst (v := 1) hx hb dX2_popInto_26 (by decide) ?_
  refine lv_isub hx hb dX2_popInto_27 ?_
  obtain ⟨h28, hc9, hrun⟩ := m_bind hrun
  refine mr_put (C := RX2) (T := TX2) (N := 3) (ci := 1) hx hb hts (fun w q => m_ws_in (wi_X2 w q)) tyX2 tyX2_ok nmX2 hown hR hz hS rfl 2 (by decide) (hts _ (m_ws_in wm_0_144)) (fun _ h9 => h9) rfl (tyX2_ok 2 (by decide)) rfl rfl hc9 dX2_popInto_28 (fun H locs hR hz hS => ?_)
  refine lv_aload_n hx hb dX2_popInto_31 rfl (lv_at hl 0 rfl) ?_
  refine lv_aload_n hx hb dX2_popInto_32 rfl (lv_at hl 0 rfl) ?_
  obtain ⟨x33, hc9, hrun⟩ := m_bind hrun
  refine mr_get (C := RX2) (T := TX2) (N := 3) (ci := 1) hx hb hts (fun w q => m_ws_in (wi_X2 w q)) hown hR rfl 1 (by decide) (hts _ (m_ws_in wm_0_143)) (fun _ h9 => h9) (m_gi_spec hc9) dX2_popInto_33 ?_
  obtain ⟨_, ho9, hrun⟩ := m_bind hrun
  obtain ⟨fs9, ho9⟩ := m_is_spec ho9
  obtain ⟨x36, hc9, hrun⟩ := m_bind hrun
  refine mr_callq (mr_runV (As := [.int x33]) (rest := []) hx hb hml hown hts (c_X2_slot l D ids st z hc9) yk_X2_slot ys_X2_slot wm_1_108 ⟨(Nat.le_of_ble_eq_true rfl), (Nat.le_of_ble_eq_true rfl)⟩ (mr_recv (ci := 1) hR hE hz hS hA rfl ho9) hl.1 rfl (Nat.le_of_ble_eq_true rfl) dX2_popInto_36 ⟨(Nat.le_of_ble_eq_true rfl), (Nat.le_of_ble_eq_true rfl)⟩) hR hz hS hA (fun H locs hR hz hS => ?_)
  cases x36 with
  | none =>
    refine lv_astore_nN (lv' := [(2, .null), (0, .ref v0), (1, .ref v1)]) hx hb dX2_popInto_39 rfl hl (by decide) rfl (fun ls hl => ?_)
    refine lv_aload_nN hx hb dX2_popInto_40 rfl (lv_at hl 0 rfl) ?_
    refine lv_ifnullN (tgt := 49) hx hb dX2_popInto_41 (by decide) ?_
    exact k_X2_popInto_b49 hx hb hr hml hown hts hlocks hin hE hA _ _ _ _ hrun hR hz hS (lv_sub hl [] rfl)
  | some a36 =>
    refine lv_astore_n (lv' := [(2, .ref a36), (0, .ref v0), (1, .ref v1)]) hx hb dX2_popInto_39 rfl hl (by decide) rfl (fun ls hl => ?_)
    refine lv_aload_n hx hb dX2_popInto_40 rfl (lv_at hl 0 rfl) ?_
    refine lv_ifnull hx hb dX2_popInto_41 ?_
    refine lv_aload_n hx hb dX2_popInto_44 rfl (lv_at hl 2 rfl) ?_
    refine lv_aload_n hx hb dX2_popInto_45 rfl (lv_at hl 0 rfl) ?_
    obtain ⟨_, ho9, hrun⟩ := m_bind hrun
    obtain ⟨fs9, ho9⟩ := m_is_spec ho9
    obtain ⟨h46, hc9, hrun⟩ := m_bind hrun
    refine mr_callv (mr_runV (As := [.ref a36]) (rest := []) hx hb hml hown hts (c_X3_copyFrom l D ids st z hc9) yk_X3_copyFrom ys_X3_copyFrom wm_1_112 ⟨(Nat.le_of_ble_eq_true rfl), (Nat.le_of_ble_eq_true rfl)⟩ (mr_recv (ci := 2) hR hE hz hS hA rfl ho9) hl.1 rfl (Nat.le_of_ble_eq_true rfl) dX2_popInto_46 ⟨(Nat.le_of_ble_eq_true rfl), (Nat.le_of_ble_eq_true rfl)⟩) hR hz hS hA (fun H locs hR hz hS => ?_)
    exact k_X2_popInto_b49 hx hb hr hml hown hts hlocks hin hE hA _ _ _ _ hrun hR hz hS (lv_sub hl [] rfl)
set_option maxRecDepth 100000 in
set_option maxHeartbeats 4000000 in
theorem c_X2_popInto (l : Launch) (D : va_G) (ids : m_I3) (st : m_T) (z : Nat) {h : mH} {v0 : Nat} {v1 : Nat} {hF : mH} (hrun : s_X2_popInto h v0 v1 = some hF) : Met l yX2_popInto (m_ws yX2_popInto cX2_popInto 3 (none)) rm_X2_popInto (mPc D ids st [.ref v0, .ref v1] h z) (mQv D ids (m_A h z) hF z) rm_X2_popInto.cells rm_X2_popInto.slots (m_A h z) := by
  refine mr_of (cc := cX2_popInto) (maxL := 3) (ret := none) (by decide) rfl (Nat.le_of_ble_eq_true rfl) ?_
  intro p e s m below meth c ls hx hb hr hml hown hts hlocks hin hR hE hz hl
  have hA : ∀ q, s.heap.size ≤ q → m_A h z q := fun q hq => Or.inr (by rw [← hz]; exact hq)
  have hS : va_S (m_A h z) s.heap s.heap [] := va_S.rf
  have hl : lv_has ls 3 [(0, .ref v0), (1, .ref v1)] := hl
  unfold s_X2_popInto at hrun
  refine lv_aload_n hx hb dX2_popInto_0 rfl (lv_at hl 0 rfl) ?_
  refine lv_aload_n hx hb dX2_popInto_1 rfl (lv_at hl 0 rfl) ?_
  obtain ⟨x2, hc9, hrun⟩ := m_bind hrun
  refine mr_get (C := RX2) (T := TX2) (N := 3) (ci := 1) hx hb hts (fun w q => m_ws_in (wi_X2 w q)) hown hR rfl 1 (by decide) (hts _ (m_ws_in wm_0_143)) (fun _ h9 => h9) (m_gi_spec hc9) dX2_popInto_2 ?_
  refine lv_if_le (tgt := 17) hx hb dX2_popInto_5 (by decide) (fun hc => ?_) (fun hc => ?_)
  · have hrun := mt_t hrun hc
    refine lv_iconst (v := 5) hx hb dX2_popInto_17 (by decide) ?_
    exact k_X2_popInto_b18 hx hb hr hml hown hts hlocks hin hE hA _ _ _ _ _ _ _ _ hrun hR hz hS (lv_sub hl [0, 1] rfl)
  · have hrun := mt_f hrun hc
    refine lv_aload_n hx hb dX2_popInto_8 rfl (lv_at hl 0 rfl) ?_
    obtain ⟨x9, hc9, hrun⟩ := m_bind hrun
    refine mr_get (C := RX2) (T := TX2) (N := 3) (ci := 1) hx hb hts (fun w q => m_ws_in (wi_X2 w q)) hown hR rfl 1 (by decide) (hts _ (m_ws_in wm_0_143)) (fun _ h9 => h9) (m_gi_spec hc9) dX2_popInto_9 ?_
    refine lv_iconst (v := 1) hx hb dX2_popInto_12 (by decide) ?_
    refine lv_isub hx hb dX2_popInto_13 ?_
    refine lv_goto (tgt := 18) hx hb dX2_popInto_14 (by decide) ?_
    exact k_X2_popInto_b18 hx hb hr hml hown hts hlocks hin hE hA _ _ _ _ _ _ _ _ hrun hR hz hS (lv_sub hl [0, 1] rfl)
/-! X7_undo -/
abbrev rm_X7_undo : Room := { frames := 5, cells := 0, slots := 0, locals := 111 }
theorem yk_X7_undo : m_K yX7_undo cX7_undo 1 (some .int) 0 := ⟨wm_1_35, wm_0_1, by decide +kernel⟩
theorem ys_X7_undo : Cond.instanceMethod yX7_undo ∈ wT ∧ Cond.selects RX7 yX7_undo yX7_undo ∈ wT := ⟨wm_1_33, wm_1_34⟩
set_option maxRecDepth 100000 in
set_option maxHeartbeats 4000000 in
theorem c_X7_undo (l : Launch) (D : va_G) (ids : m_I3) (st : m_T) (z : Nat) {h : mH} {v0 : Nat} {r : Int32} {hF : mH} (hrun : s_X7_undo h v0 = some (Sum.inr r, hF)) : Met l yX7_undo (m_ws yX7_undo cX7_undo 1 (some .int)) rm_X7_undo (mPc D ids st [.ref v0] h z) (mQi D ids (m_A h z) r hF z) rm_X7_undo.cells rm_X7_undo.slots (m_A h z) := by
  refine mr_of (cc := cX7_undo) (maxL := 1) (ret := some .int) (by decide) rfl (Nat.le_of_ble_eq_true rfl) ?_
  intro p e s m below meth c ls hx hb hr hml hown hts hlocks hin hR hE hz hl
  have hA : ∀ q, s.heap.size ≤ q → m_A h z q := fun q hq => Or.inr (by rw [← hz]; exact hq)
  have hS : va_S (m_A h z) s.heap s.heap [] := va_S.rf
  have hl : lv_has ls 1 [(0, .ref v0)] := hl
  unfold s_X7_undo at hrun
  refine lv_aload_n hx hb dX7_undo_0 rfl (lv_at hl 0 rfl) ?_
  obtain ⟨x1, hc9, hrun⟩ := m_bind hrun
  refine mr_get (C := RX7) (T := TX7) (N := 8) (ci := 5) hx hb hts (fun w q => m_ws_in (wi_X7 w q)) hown hR rfl 2 (by decide) (hts _ (m_ws_in wm_1_9)) (fun _ h9 => h9) (m_gr_spec hc9) dX7_undo_1 ?_
  obtain ⟨x4, hc9, hrun⟩ := m_bind hrun
  refine mr_getN (C := RX2) (T := TX2) (N := 3) (ci := 1) hx hb hts (fun w q => m_ws_in (wi_X2 w q)) hown hR rfl 2 (by decide) (hE.nf (i := 17) rfl) (fun _ h9 => h9) (m_gi_spec hc9) dX7_undo_4 ?_
  refine lv_if_gt (tgt := 20) hx hb dX7_undo_7 (by decide) (fun hc => ?_) (fun hc => ?_)
  · have hrun := mt_t hrun hc
    refine lv_aload_n hx hb dX7_undo_20 rfl (lv_at hl 0 rfl) ?_
    obtain ⟨x21, hc9, hrun⟩ := m_bind hrun
    refine mr_get (C := RX7) (T := TX7) (N := 8) (ci := 5) hx hb hts (fun w q => m_ws_in (wi_X7 w q)) hown hR rfl 2 (by decide) (hts _ (m_ws_in wm_1_9)) (fun _ h9 => h9) (m_gr_spec hc9) dX7_undo_21 ?_
    refine lv_aload_n hx hb dX7_undo_24 rfl (lv_at hl 0 rfl) ?_
    obtain ⟨x25, hc9, hrun⟩ := m_bind hrun
    refine mr_get (C := RX7) (T := TX7) (N := 8) (ci := 5) hx hb hts (fun w q => m_ws_in (wi_X7 w q)) hown hR rfl 0 (by decide) (hts _ (m_ws_in wm_1_7)) (fun _ h9 => h9) (m_gr_spec hc9) dX7_undo_25 ?_
    obtain ⟨_, ho9, hrun⟩ := m_bind hrun
    obtain ⟨fs9, ho9⟩ := m_is_spec ho9
    obtain ⟨h28, hc9, hrun⟩ := m_bind hrun
    refine mr_callv (mr_runV (As := [.ref x25]) (rest := []) hx hb hml hown hts (c_X2_popInto l D ids st z hc9) yk_X2_popInto ys_X2_popInto wm_1_104 ⟨(Nat.le_of_ble_eq_true rfl), (Nat.le_of_ble_eq_true rfl)⟩ (mr_recv (ci := 1) hR hE hz hS hA rfl ho9) hl.1 rfl (Nat.le_of_ble_eq_true rfl) dX7_undo_28 ⟨(Nat.le_of_ble_eq_true rfl), (Nat.le_of_ble_eq_true rfl)⟩) hR hz hS hA (fun H locs hR hz hS => ?_)
    refine lv_aload_n hx hb dX7_undo_31 rfl (lv_at hl 0 rfl) ?_
    obtain ⟨_, ho9, hrun⟩ := m_bind hrun
    obtain ⟨fs9, ho9⟩ := m_is_spec ho9
    obtain ⟨h32, hc9, hrun⟩ := m_bind hrun
    refine mr_callv (mr_runV (As := []) (rest := []) hx hb hml hown hts (c_X7_readRides l D ids st z hc9) yk_X7_readRides ys_X7_readRides wm_1_121 ⟨(Nat.le_of_ble_eq_true rfl), (Nat.le_of_ble_eq_true rfl)⟩ (mr_recv (ci := 5) hR hE hz hS hA rfl ho9) hl.1 rfl (Nat.le_of_ble_eq_true rfl) dX7_undo_32 ⟨(Nat.le_of_ble_eq_true rfl), (Nat.le_of_ble_eq_true rfl)⟩) hR hz hS hA (fun H locs hR hz hS => ?_)
    refine lv_aload_n hx hb dX7_undo_35 rfl (lv_at hl 0 rfl) ?_
    obtain ⟨x36, hc9, hrun⟩ := m_bind hrun
    refine mr_get (C := RX7) (T := TX7) (N := 8) (ci := 5) hx hb hts (fun w q => m_ws_in (wi_X7 w q)) hown hR rfl 2 (by decide) (hts _ (m_ws_in wm_1_9)) (fun _ h9 => h9) (m_gr_spec hc9) dX7_undo_36 ?_
    obtain ⟨x39, hc9, hrun⟩ := m_bind hrun
    refine mr_getN (C := RX2) (T := TX2) (N := 3) (ci := 1) hx hb hts (fun w q => m_ws_in (wi_X2 w q)) hown hR rfl 2 (by decide) (hE.nf (i := 17) rfl) (fun _ h9 => h9) (m_gi_spec hc9) dX7_undo_39 ?_
    obtain ⟨hv9, rfl⟩ := Prod.mk.inj (Option.some.inj hrun); obtain rfl := Sum.inr.inj hv9
    exact mr_iret hx hb hr hlocks hR hz hS dX7_undo_42
  · have hrun := mt_f hrun hc
    exact absurd (Prod.mk.inj (Option.some.inj hrun)).1 (fun h9 => nomatch h9)
/-! L_now -/
abbrev rm_L_now : Room := { frames := 6, cells := 0, slots := 0, locals := 134 }
theorem yk_L_now : m_K yL_now cL_now 3 (some .int) 2 := ⟨wm_2_119, wm_0_0, by decide +kernel⟩
theorem ys_L_now : Cond.static yL_now ∈ wT := wm_2_118
set_option maxRecDepth 100000 in
set_option maxHeartbeats 4000000 in
theorem c_L_now (l : Launch) (D : va_G) (ids : m_I3) (st : m_T) (z : Nat) {h : mH} {v0 : Nat} {v1 : Int32} {r : Int32} {hF : mH} (hrun : s_L_now st h v0 v1 = some (r, hF)) : Met l yL_now (m_ws yL_now cL_now 3 (some .int)) rm_L_now (mPc D ids st [.ref v0, .int v1] h z) (mQi D ids (m_A h z) r hF z) rm_L_now.cells rm_L_now.slots (m_A h z) := by
  refine mr_of (cc := cL_now) (maxL := 3) (ret := some .int) (by decide) rfl (Nat.le_of_ble_eq_true rfl) ?_
  intro p e s m below meth c ls hx hb hr hml hown hts hlocks hin hR hE hz hl
  have hA : ∀ q, s.heap.size ≤ q → m_A h z q := fun q hq => Or.inr (by rw [← hz]; exact hq)
  have hS : va_S (m_A h z) s.heap s.heap [] := va_S.rf
  have hl : lv_has ls 3 [(0, .ref v0), (1, .int v1)] := hl
  unfold s_L_now at hrun
  refine lv_aload_n hx hb dL_now_0 rfl (lv_at hl 0 rfl) ?_
  refine lv_iload_n hx hb dL_now_1 rfl (lv_at hl 1 rfl) ?_
  refine lv_iconst (v := 1) hx hb dL_now_2 (by decide) ?_
  obtain ⟨_, ho9, hrun⟩ := m_bind hrun
  obtain ⟨fs9, ho9⟩ := m_is_spec ho9
  obtain ⟨⟨x3, h3⟩, hc9, hrun⟩ := m_bind hrun
  refine mr_calli (mr_runV (As := [.int v1, .int 1]) (rest := []) hx hb hml hown hts (c_X7_set l D ids st z (m_ok_spec hc9)) yk_X7_set ys_X7_set wm_2_17 ⟨(Nat.le_of_ble_eq_true rfl), (Nat.le_of_ble_eq_true rfl)⟩ (mr_recv (ci := 5) hR hE hz hS hA rfl ho9) hl.1 rfl (Nat.le_of_ble_eq_true rfl) dL_now_3 ⟨(Nat.le_of_ble_eq_true rfl), (Nat.le_of_ble_eq_true rfl)⟩) hR hz hS hA (fun H locs hR hz hS => ?_)
  refine lv_istore_n (lv' := [(2, .int x3), (0, .ref v0), (1, .int v1)]) hx hb dL_now_6 rfl hl (by decide) rfl (fun ls hl => ?_)
  refine lv_aload_n hx hb dL_now_7 rfl (lv_at hl 1 rfl) ?_
  obtain ⟨_, ho9, hrun⟩ := m_bind hrun
  obtain ⟨fs9, ho9⟩ := m_is_spec ho9
  obtain ⟨⟨x8, h8⟩, hc9, hrun⟩ := m_bind hrun
  refine mr_calli (mr_runV (As := []) (rest := []) hx hb hml hown hts (c_X7_undo l D ids st z (m_ok_spec hc9)) yk_X7_undo ys_X7_undo wm_1_32 ⟨(Nat.le_of_ble_eq_true rfl), (Nat.le_of_ble_eq_true rfl)⟩ (mr_recv (ci := 5) hR hE hz hS hA rfl ho9) hl.1 rfl (Nat.le_of_ble_eq_true rfl) dL_now_8 ⟨(Nat.le_of_ble_eq_true rfl), (Nat.le_of_ble_eq_true rfl)⟩) hR hz hS hA (fun H locs hR hz hS => ?_)
  refine lv_pop hx hb dL_now_11 rfl ?_
  refine lv_iload_n hx hb dL_now_12 rfl (lv_at hl 0 rfl) ?_
  obtain ⟨rfl, rfl⟩ := Prod.mk.inj (Option.some.inj hrun)
  exact mr_iret hx hb hr hlocks hR hz hS dL_now_13
/-! X7_dayNumber -/
abbrev rm_X7_dayNumber : Room := { frames := 2, cells := 0, slots := 0, locals := 43 }
theorem yk_X7_dayNumber : m_K yX7_dayNumber cX7_dayNumber 4 (some .int) 3 := ⟨wm_2_127, wm_0_1, by decide +kernel⟩
theorem ys_X7_dayNumber : Cond.instanceMethod yX7_dayNumber ∈ wT ∧ Cond.selects RX7 yX7_dayNumber yX7_dayNumber ∈ wT := ⟨wm_2_126, wp_1_0⟩
set_option maxRecDepth 100000 in
set_option maxHeartbeats 4000000 in
theorem c_X7_dayNumber (l : Launch) (D : va_G) (ids : m_I3) (st : m_T) (z : Nat) {h : mH} {v0 : Nat} {v1 : Int32} {v2 : Int32} {v3 : Int32} {r : Int32} (hrun : s_X7_dayNumber h v0 v1 v2 v3 = some r) : Met l yX7_dayNumber (m_ws yX7_dayNumber cX7_dayNumber 4 (some .int)) rm_X7_dayNumber (mPc D ids st [.ref v0, .int v1, .int v2, .int v3] h z) (mQi D ids (m_A h z) r h z) rm_X7_dayNumber.cells rm_X7_dayNumber.slots (m_A h z) := by
  refine mr_of (cc := cX7_dayNumber) (maxL := 4) (ret := some .int) (by decide) rfl (Nat.le_of_ble_eq_true rfl) ?_
  intro p e s m below meth c ls hx hb hr hml hown hts hlocks hin hR hE hz hl
  have hA : ∀ q, s.heap.size ≤ q → m_A h z q := fun q hq => Or.inr (by rw [← hz]; exact hq)
  have hS : va_S (m_A h z) s.heap s.heap [] := va_S.rf
  have hl : lv_has ls 4 [(0, .ref v0), (1, .int v1), (2, .int v2), (3, .int v3)] := hl
  unfold s_X7_dayNumber at hrun
  refine lv_iload_n hx hb dX7_dayNumber_0 rfl (lv_at hl 3 rfl) ?_
  by_cases hc0 : v3 = 0
  · have hrun := mt_t hrun hc0
    refine lv_tableIn (tgt := 28) (off := 27) hx hb dX7_dayNumber_1 (by rw [hc0]; decide) (by rw [hc0]; decide) (by rw [hc0]; rfl) (by decide) ?_
    refine lv_aload_n hx hb dX7_dayNumber_28 rfl (lv_at hl 0 rfl) ?_
    obtain ⟨x29, hc9, hrun⟩ := m_bind hrun
    refine mr_get (C := RX7) (T := TX7) (N := 8) (ci := 5) hx hb hts (fun w q => m_ws_in (wi_X7 w q)) hown hR rfl 1 (by decide) (hts _ (m_ws_in wm_1_8)) (fun _ h9 => h9) (m_gr_spec hc9) dX7_dayNumber_29 ?_
    obtain ⟨x32, hc9, hrun⟩ := m_bind hrun
    refine mr_getN (C := RX0) (T := TX0) (N := 9) (ci := 0) hx hb hts (fun w q => m_ws_in (wi_X0 w q)) hown hR rfl 2 (by decide) (hE.nf (i := 13) rfl) (fun _ h9 => h9) (m_gr_spec hc9) dX7_dayNumber_32 ?_
    refine lv_iload_n hx hb dX7_dayNumber_35 rfl (lv_at hl 1 rfl) ?_
    refine lv_iload_n hx hb dX7_dayNumber_36 rfl (lv_at hl 2 rfl) ?_
    obtain ⟨x37, hc9, hrun⟩ := m_bind hrun
    refine mr_calli (mr_runS (As := [.int v1, .int v2]) (rest := [.ref x32]) hx hb hml hown hts (c_X7_dayCell l D ids st z hc9) yk_X7_dayCell ys_X7_dayCell wm_2_128 ⟨(Nat.le_of_ble_eq_true rfl), (Nat.le_of_ble_eq_true rfl)⟩ (mr_recvS hR hE hz hS hA) hl.1 rfl (Nat.le_of_ble_eq_true rfl) dX7_dayNumber_37 ⟨(Nat.le_of_ble_eq_true rfl), (Nat.le_of_ble_eq_true rfl)⟩) hR hz hS hA (fun H locs hR hz hS => ?_)
    obtain ⟨x40, hc9, hrun⟩ := m_bind hrun
    refine mr_calli (mr_runS (As := [.ref x32, .int x37]) (rest := []) hx hb hml hown hts (c_X1_at l D ids st z hc9) yk_X1_at ys_X1_at wm_1_181 ⟨(Nat.le_of_ble_eq_true rfl), (Nat.le_of_ble_eq_true rfl)⟩ (mr_recvS hR hE hz hS hA) hl.1 rfl (Nat.le_of_ble_eq_true rfl) dX7_dayNumber_40 ⟨(Nat.le_of_ble_eq_true rfl), (Nat.le_of_ble_eq_true rfl)⟩) hR hz hS hA (fun H locs hR hz hS => ?_)
    obtain rfl := Option.some.inj hrun
    exact mr_iret hx hb hr hlocks hR hz hS dX7_dayNumber_43
  have hrun := mt_f hrun hc0
  have hn0 : ¬ (v3).toInt = 0 := lv_neT hc0 rfl
  by_cases hc1 : v3 = 1
  · have hrun := mt_t hrun hc1
    refine lv_tableIn (tgt := 44) (off := 43) hx hb dX7_dayNumber_1 (by rw [hc1]; decide) (by rw [hc1]; decide) (by rw [hc1]; rfl) (by decide) ?_
    refine lv_aload_n hx hb dX7_dayNumber_44 rfl (lv_at hl 0 rfl) ?_
    obtain ⟨x45, hc9, hrun⟩ := m_bind hrun
    refine mr_get (C := RX7) (T := TX7) (N := 8) (ci := 5) hx hb hts (fun w q => m_ws_in (wi_X7 w q)) hown hR rfl 1 (by decide) (hts _ (m_ws_in wm_1_8)) (fun _ h9 => h9) (m_gr_spec hc9) dX7_dayNumber_45 ?_
    obtain ⟨x48, hc9, hrun⟩ := m_bind hrun
    refine mr_getN (C := RX0) (T := TX0) (N := 9) (ci := 0) hx hb hts (fun w q => m_ws_in (wi_X0 w q)) hown hR rfl 3 (by decide) (hE.nf (i := 14) rfl) (fun _ h9 => h9) (m_gr_spec hc9) dX7_dayNumber_48 ?_
    refine lv_iload_n hx hb dX7_dayNumber_51 rfl (lv_at hl 1 rfl) ?_
    refine lv_iload_n hx hb dX7_dayNumber_52 rfl (lv_at hl 2 rfl) ?_
    obtain ⟨x53, hc9, hrun⟩ := m_bind hrun
    refine mr_calli (mr_runS (As := [.int v1, .int v2]) (rest := [.ref x48]) hx hb hml hown hts (c_X7_dayCell l D ids st z hc9) yk_X7_dayCell ys_X7_dayCell wm_2_128 ⟨(Nat.le_of_ble_eq_true rfl), (Nat.le_of_ble_eq_true rfl)⟩ (mr_recvS hR hE hz hS hA) hl.1 rfl (Nat.le_of_ble_eq_true rfl) dX7_dayNumber_53 ⟨(Nat.le_of_ble_eq_true rfl), (Nat.le_of_ble_eq_true rfl)⟩) hR hz hS hA (fun H locs hR hz hS => ?_)
    obtain ⟨x56, hc9, hrun⟩ := m_bind hrun
    refine mr_calli (mr_runS (As := [.ref x48, .int x53]) (rest := []) hx hb hml hown hts (c_X1_at l D ids st z hc9) yk_X1_at ys_X1_at wm_1_181 ⟨(Nat.le_of_ble_eq_true rfl), (Nat.le_of_ble_eq_true rfl)⟩ (mr_recvS hR hE hz hS hA) hl.1 rfl (Nat.le_of_ble_eq_true rfl) dX7_dayNumber_56 ⟨(Nat.le_of_ble_eq_true rfl), (Nat.le_of_ble_eq_true rfl)⟩) hR hz hS hA (fun H locs hR hz hS => ?_)
    obtain rfl := Option.some.inj hrun
    exact mr_iret hx hb hr hlocks hR hz hS dX7_dayNumber_59
  have hrun := mt_f hrun hc1
  have hn1 : ¬ (v3).toInt = 1 := lv_neT hc1 rfl
  by_cases hc2 : v3 = 2
  · have hrun := mt_t hrun hc2
    refine lv_tableIn (tgt := 60) (off := 59) hx hb dX7_dayNumber_1 (by rw [hc2]; decide) (by rw [hc2]; decide) (by rw [hc2]; rfl) (by decide) ?_
    refine lv_aload_n hx hb dX7_dayNumber_60 rfl (lv_at hl 0 rfl) ?_
    obtain ⟨x61, hc9, hrun⟩ := m_bind hrun
    refine mr_get (C := RX7) (T := TX7) (N := 8) (ci := 5) hx hb hts (fun w q => m_ws_in (wi_X7 w q)) hown hR rfl 1 (by decide) (hts _ (m_ws_in wm_1_8)) (fun _ h9 => h9) (m_gr_spec hc9) dX7_dayNumber_61 ?_
    obtain ⟨x64, hc9, hrun⟩ := m_bind hrun
    refine mr_getN (C := RX0) (T := TX0) (N := 9) (ci := 0) hx hb hts (fun w q => m_ws_in (wi_X0 w q)) hown hR rfl 4 (by decide) (hE.nf (i := 15) rfl) (fun _ h9 => h9) (m_gr_spec hc9) dX7_dayNumber_64 ?_
    refine lv_iload_n hx hb dX7_dayNumber_67 rfl (lv_at hl 1 rfl) ?_
    refine lv_iload_n hx hb dX7_dayNumber_68 rfl (lv_at hl 2 rfl) ?_
    obtain ⟨x69, hc9, hrun⟩ := m_bind hrun
    refine mr_calli (mr_runS (As := [.int v1, .int v2]) (rest := [.ref x64]) hx hb hml hown hts (c_X7_dayCell l D ids st z hc9) yk_X7_dayCell ys_X7_dayCell wm_2_128 ⟨(Nat.le_of_ble_eq_true rfl), (Nat.le_of_ble_eq_true rfl)⟩ (mr_recvS hR hE hz hS hA) hl.1 rfl (Nat.le_of_ble_eq_true rfl) dX7_dayNumber_69 ⟨(Nat.le_of_ble_eq_true rfl), (Nat.le_of_ble_eq_true rfl)⟩) hR hz hS hA (fun H locs hR hz hS => ?_)
    obtain ⟨x72, hc9, hrun⟩ := m_bind hrun
    refine mr_calli (mr_runS (As := [.ref x64, .int x69]) (rest := []) hx hb hml hown hts (c_X1_at l D ids st z hc9) yk_X1_at ys_X1_at wm_1_181 ⟨(Nat.le_of_ble_eq_true rfl), (Nat.le_of_ble_eq_true rfl)⟩ (mr_recvS hR hE hz hS hA) hl.1 rfl (Nat.le_of_ble_eq_true rfl) dX7_dayNumber_72 ⟨(Nat.le_of_ble_eq_true rfl), (Nat.le_of_ble_eq_true rfl)⟩) hR hz hS hA (fun H locs hR hz hS => ?_)
    obtain rfl := Option.some.inj hrun
    exact mr_iret hx hb hr hlocks hR hz hS dX7_dayNumber_75
  have hrun := mt_f hrun hc2
  have hn2 : ¬ (v3).toInt = 2 := lv_neT hc2 rfl
  refine lv_tableOut (tgt := 76) hx hb dX7_dayNumber_1 (by omega) (by decide) ?_
  refine lv_aload_n hx hb dX7_dayNumber_76 rfl (lv_at hl 0 rfl) ?_
  obtain ⟨x77, hc9, hrun⟩ := m_bind hrun
  refine mr_get (C := RX7) (T := TX7) (N := 8) (ci := 5) hx hb hts (fun w q => m_ws_in (wi_X7 w q)) hown hR rfl 1 (by decide) (hts _ (m_ws_in wm_1_8)) (fun _ h9 => h9) (m_gr_spec hc9) dX7_dayNumber_77 ?_
  refine lv_iload_n hx hb dX7_dayNumber_80 rfl (lv_at hl 1 rfl) ?_
  refine lv_iload_n hx hb dX7_dayNumber_81 rfl (lv_at hl 2 rfl) ?_
  obtain ⟨_, ho9, hrun⟩ := m_bind hrun
  obtain ⟨fs9, ho9⟩ := m_is_spec ho9
  obtain ⟨x82, hc9, hrun⟩ := m_bind hrun
  refine mr_calli (mr_runV (As := [.int v1, .int v2]) (rest := []) hx hb hml hown hts (c_X0_dayCost l D ids st z hc9) yk_X0_dayCost ys_X0_dayCost wm_2_129 ⟨(Nat.le_of_ble_eq_true rfl), (Nat.le_of_ble_eq_true rfl)⟩ (mr_recv (ci := 0) hR hE hz hS hA rfl ho9) hl.1 rfl (Nat.le_of_ble_eq_true rfl) dX7_dayNumber_82 ⟨(Nat.le_of_ble_eq_true rfl), (Nat.le_of_ble_eq_true rfl)⟩) hR hz hS hA (fun H locs hR hz hS => ?_)
  obtain rfl := Option.some.inj hrun
  exact mr_iret hx hb hr hlocks hR hz hS dX7_dayNumber_85
/-! X7_day -/
abbrev rm_X7_day : Room := { frames := 3, cells := 0, slots := 0, locals := 66 }
theorem yk_X7_day : m_K yX7_day cX7_day 4 (some .int) 3 := ⟨wm_2_123, wm_0_1, by decide +kernel⟩
theorem ys_X7_day : Cond.instanceMethod yX7_day ∈ wT ∧ Cond.selects RX7 yX7_day yX7_day ∈ wT := ⟨wm_2_121, wm_2_122⟩
set_option maxRecDepth 100000 in
set_option maxHeartbeats 4000000 in
theorem k_X7_day_b16 {p : Program} {l : Launch} {e : Env} {s : State} {m : MethodId} {args : Array Value} {below : List Frame} {meth : Method} {c : Code} {D : va_G} {ids : m_I3} {st : m_T} {A : Nat → Prop} {z : Nat} {r : Int32} {hF : mH} (hx : p.tables.exec = Jvm.exec) (hb : c.code = cX7_day) (hr : meth.sig.returnType = some .int) (hml : c.maxLocals = 4) (hown : s.vm.findClass RX7 = some m.cls) (hts : ∀ w ∈ (m_ws yX7_day cX7_day 4 (some .int)), w.before args s = true) (hlocks : meth.locks = false) (hin : meth.name = yX7_day.name) (hE : m_EV st A s s.heap) (hA : ∀ q, s.heap.size ≤ q → A q) (h : mH) (H : Heap) (locs : List Loc) (ls : Array Slot) (hrun : s_X7_day_b16 h = some (Sum.inr r, hF)) (hR : Rl D ids A h s H) (hz : H.size = z) (hS : va_S A s.heap H locs) (hl : lv_has ls 4 []) : W p l e rm_X7_day s m args below meth c H locs 0 0 (MQ below (mQi D ids A r hF z) args s 0 0 A) (F0 m 16 ls []) := by
  unfold s_X7_day_b16 at hrun
  exact absurd (Prod.mk.inj (Option.some.inj hrun)).1 (fun h9 => nomatch h9)
set_option maxRecDepth 100000 in
set_option maxHeartbeats 4000000 in
theorem c_X7_day (l : Launch) (D : va_G) (ids : m_I3) (st : m_T) (z : Nat) {h : mH} {v0 : Nat} {v1 : Int32} {v2 : Int32} {v3 : Int32} {r : Int32} {hF : mH} (hrun : s_X7_day h v0 v1 v2 v3 = some (Sum.inr r, hF)) : Met l yX7_day (m_ws yX7_day cX7_day 4 (some .int)) rm_X7_day (mPc D ids st [.ref v0, .int v1, .int v2, .int v3] h z) (mQi D ids (m_A h z) r hF z) rm_X7_day.cells rm_X7_day.slots (m_A h z) := by
  refine mr_of (cc := cX7_day) (maxL := 4) (ret := some .int) (by decide) rfl (Nat.le_of_ble_eq_true rfl) ?_
  intro p e s m below meth c ls hx hb hr hml hown hts hlocks hin hR hE hz hl
  have hA : ∀ q, s.heap.size ≤ q → m_A h z q := fun q hq => Or.inr (by rw [← hz]; exact hq)
  have hS : va_S (m_A h z) s.heap s.heap [] := va_S.rf
  have hl : lv_has ls 4 [(0, .ref v0), (1, .int v1), (2, .int v2), (3, .int v3)] := hl
  unfold s_X7_day at hrun
  refine lv_iload_n hx hb dX7_day_0 rfl (lv_at hl 1 rfl) ?_
  refine lv_iload_n hx hb dX7_day_1 rfl (lv_at hl 2 rfl) ?_
  obtain ⟨x2, hc9, hrun⟩ := m_bind hrun
  refine mr_calli (mr_runS (As := [.int v1, .int v2]) (rest := []) hx hb hml hown hts (c_X7_isWalletDay l D ids st z hc9) yk_X7_isWalletDay ys_X7_isWalletDay wm_2_109 ⟨(Nat.le_of_ble_eq_true rfl), (Nat.le_of_ble_eq_true rfl)⟩ (mr_recvS hR hE hz hS hA) hl.1 rfl (Nat.le_of_ble_eq_true rfl) dX7_day_2 ⟨(Nat.le_of_ble_eq_true rfl), (Nat.le_of_ble_eq_true rfl)⟩) hR hz hS hA (fun H locs hR hz hS => ?_)
  refine lv_if_eq (tgt := 16) hx hb dX7_day_5 (by decide) (fun hc => ?_) (fun hc => ?_)
  · have hrun := mt_t hrun hc
    exact k_X7_day_b16 hx hb hr hml hown hts hlocks hin hE hA _ _ _ _ hrun hR hz hS (lv_sub hl [] rfl)
  · have hrun := mt_f hrun hc
    refine lv_iload_n hx hb dX7_day_8 rfl (lv_at hl 3 rfl) ?_
    refine lv_iconst (v := 4) hx hb dX7_day_9 (by decide) ?_
    obtain ⟨x10, hc9, hrun⟩ := m_bind hrun
    refine mr_calli (mr_runS (As := [.int v3, .int 4]) (rest := []) hx hb hml hown hts (c_X7_isBelow l D ids st z hc9) yk_X7_isBelow ys_X7_isBelow wm_1_129 ⟨(Nat.le_of_ble_eq_true rfl), (Nat.le_of_ble_eq_true rfl)⟩ (mr_recvS hR hE hz hS hA) hl.1 rfl (Nat.le_of_ble_eq_true rfl) dX7_day_10 ⟨(Nat.le_of_ble_eq_true rfl), (Nat.le_of_ble_eq_true rfl)⟩) hR hz hS hA (fun H locs hR hz hS => ?_)
    refine lv_if_ne (tgt := 26) hx hb dX7_day_13 (by decide) (fun hc => ?_) (fun hc => ?_)
    · have hrun := mt_f hrun hc
      refine lv_aload_n hx hb dX7_day_26 rfl (lv_at hl 0 rfl) ?_
      refine lv_iload_n hx hb dX7_day_27 rfl (lv_at hl 1 rfl) ?_
      refine lv_iload_n hx hb dX7_day_28 rfl (lv_at hl 2 rfl) ?_
      refine lv_iload_n hx hb dX7_day_29 rfl (lv_at hl 3 rfl) ?_
      obtain ⟨_, ho9, hrun⟩ := m_bind hrun
      obtain ⟨fs9, ho9⟩ := m_is_spec ho9
      obtain ⟨x30, hc9, hrun⟩ := m_bind hrun
      refine mr_calli (mr_runV (As := [.int v1, .int v2, .int v3]) (rest := []) hx hb hml hown hts (c_X7_dayNumber l D ids st z hc9) yk_X7_dayNumber ys_X7_dayNumber wm_2_124 ⟨(Nat.le_of_ble_eq_true rfl), (Nat.le_of_ble_eq_true rfl)⟩ (mr_recv (ci := 5) hR hE hz hS hA rfl ho9) hl.1 rfl (Nat.le_of_ble_eq_true rfl) dX7_day_30 ⟨(Nat.le_of_ble_eq_true rfl), (Nat.le_of_ble_eq_true rfl)⟩) hR hz hS hA (fun H locs hR hz hS => ?_)
      obtain ⟨hv9, rfl⟩ := Prod.mk.inj (Option.some.inj hrun); obtain rfl := Sum.inr.inj hv9
      exact mr_iret hx hb hr hlocks hR hz hS dX7_day_33
    · have hrun := mt_t hrun hc
      exact k_X7_day_b16 hx hb hr hml hown hts hlocks hin hE hA _ _ _ _ hrun hR hz hS (lv_sub hl [] rfl)
/-! X7_capShare -/
abbrev rm_X7_capShare : Room := { frames := 5, cells := 0, slots := 0, locals := 112 }
theorem yk_X7_capShare : m_K yX7_capShare cX7_capShare 2 (some .double) 0 := ⟨wm_2_133, wm_0_1, by decide +kernel⟩
theorem ys_X7_capShare : Cond.instanceMethod yX7_capShare ∈ wT ∧ Cond.selects RX7 yX7_capShare yX7_capShare ∈ wT := ⟨wm_2_131, wm_2_132⟩
set_option maxRecDepth 100000 in
set_option maxHeartbeats 4000000 in
theorem k_X7_capShare_b27 {p : Program} {l : Launch} {e : Env} {s : State} {m : MethodId} {args : Array Value} {below : List Frame} {meth : Method} {c : Code} {D : va_G} {ids : m_I3} {st : m_T} {A : Nat → Prop} {z : Nat} {r : UInt64} (hx : p.tables.exec = Jvm.exec) (hb : c.code = cX7_capShare) (hr : meth.sig.returnType = some .double) (hml : c.maxLocals = 2) (hown : s.vm.findClass RX7 = some m.cls) (hts : ∀ w ∈ (m_ws yX7_capShare cX7_capShare 2 (some .double)), w.before args s = true) (hlocks : meth.locks = false) (hin : meth.name = yX7_capShare.name) (hE : m_EV st A s s.heap) (hA : ∀ q, s.heap.size ≤ q → A q) {h : mH} (t0 : UInt64) (H : Heap) (locs : List Loc) (ls : Array Slot) (hrun : s_X7_capShare_b27 h t0 = some r) (hR : Rl D ids A h s H) (hz : H.size = z) (hS : va_S A s.heap H locs) (hl : lv_has ls 2 []) : W p l e rm_X7_capShare s m args below meth c H locs 0 0 (MQ below (mQd D ids A r h z) args s 0 0 A) (F0 m 27 ls [.double t0]) := by
  unfold s_X7_capShare_b27 at hrun
  obtain rfl := Option.some.inj hrun
  exact mr_dret hx hb hr hlocks hR hz hS dX7_capShare_27
set_option maxRecDepth 100000 in
set_option maxHeartbeats 4000000 in
theorem c_X7_capShare (l : Launch) (D : va_G) (ids : m_I3) (st : m_T) (z : Nat) {h : mH} {v0 : Nat} {r : UInt64} (hrun : s_X7_capShare h v0 = some r) : Met l yX7_capShare (m_ws yX7_capShare cX7_capShare 2 (some .double)) rm_X7_capShare (mPc D ids st [.ref v0] h z) (mQd D ids (m_A h z) r h z) rm_X7_capShare.cells rm_X7_capShare.slots (m_A h z) := by
  refine mr_of (cc := cX7_capShare) (maxL := 2) (ret := some .double) (by decide) rfl (Nat.le_of_ble_eq_true rfl) ?_
  intro p e s m below meth c ls hx hb hr hml hown hts hlocks hin hR hE hz hl
  have hA : ∀ q, s.heap.size ≤ q → m_A h z q := fun q hq => Or.inr (by rw [← hz]; exact hq)
  have hS : va_S (m_A h z) s.heap s.heap [] := va_S.rf
  have hl : lv_has ls 2 [(0, .ref v0)] := hl
  unfold s_X7_capShare at hrun
  refine lv_aload_n hx hb dX7_capShare_0 rfl (lv_at hl 0 rfl) ?_
  obtain ⟨x1, hc9, hrun⟩ := m_bind hrun
  refine mr_get (C := RX7) (T := TX7) (N := 8) (ci := 5) hx hb hts (fun w q => m_ws_in (wi_X7 w q)) hown hR rfl 1 (by decide) (hts _ (m_ws_in wm_1_8)) (fun _ h9 => h9) (m_gr_spec hc9) dX7_capShare_1 ?_
  obtain ⟨x4, hc9, hrun⟩ := m_bind hrun
  refine mr_getN (C := RX0) (T := TX0) (N := 9) (ci := 0) hx hb hts (fun w q => m_ws_in (wi_X0 w q)) hown hR rfl 4 (by decide) (hE.nf (i := 15) rfl) (fun _ h9 => h9) (m_gr_spec hc9) dX7_capShare_4 ?_
  obtain ⟨x7, hc9, hrun⟩ := m_bind hrun
  refine mr_calli (mr_runS (As := [.ref x4]) (rest := []) hx hb hml hown hts (c_X1_sum l D ids st z hc9) yk_X1_sum ys_X1_sum wm_1_152 ⟨(Nat.le_of_ble_eq_true rfl), (Nat.le_of_ble_eq_true rfl)⟩ (mr_recvS hR hE hz hS hA) hl.1 rfl (Nat.le_of_ble_eq_true rfl) dX7_capShare_7 ⟨(Nat.le_of_ble_eq_true rfl), (Nat.le_of_ble_eq_true rfl)⟩) hR hz hS hA (fun H locs hR hz hS => ?_)
  refine lv_istore_n (lv' := [(1, .int x7), (0, .ref v0)]) hx hb dX7_capShare_10 rfl hl (by decide) rfl (fun ls hl => ?_)
  refine lv_iload_n hx hb dX7_capShare_11 rfl (lv_at hl 0 rfl) ?_
  refine lv_if_le (tgt := 26) hx hb dX7_capShare_12 (by decide) (fun hc => ?_) (fun hc => ?_)
  · have hrun := mt_t hrun hc
    refine lv_dconst1 hx hb dX7_capShare_26 ?_
    exact k_X7_capShare_b27 hx hb hr hml hown hts hlocks hin hE hA _ _ _ _ hrun hR hz hS (lv_sub hl [] rfl)
  · have hrun := mt_f hrun hc
    refine lv_aload_n hx hb dX7_capShare_15 rfl (lv_at hl 1 rfl) ?_
    obtain ⟨_, ho9, hrun⟩ := m_bind hrun
    obtain ⟨fs9, ho9⟩ := m_is_spec ho9
    obtain ⟨x16, hc9, hrun⟩ := m_bind hrun
    refine mr_calli (mr_runV (As := []) (rest := []) hx hb hml hown hts (c_X7_costOfAll l D ids st z hc9) yk_X7_costOfAll ys_X7_costOfAll wm_1_155 ⟨(Nat.le_of_ble_eq_true rfl), (Nat.le_of_ble_eq_true rfl)⟩ (mr_recv (ci := 5) hR hE hz hS hA rfl ho9) hl.1 rfl (Nat.le_of_ble_eq_true rfl) dX7_capShare_16 ⟨(Nat.le_of_ble_eq_true rfl), (Nat.le_of_ble_eq_true rfl)⟩) hR hz hS hA (fun H locs hR hz hS => ?_)
    refine lv_i2d hx hb dX7_capShare_19 ?_
    refine lv_iload_n hx hb dX7_capShare_20 rfl (lv_at hl 0 rfl) ?_
    refine lv_i2d hx hb dX7_capShare_21 ?_
    obtain ⟨x22, hc9, hrun⟩ := m_bind hrun
    obtain ⟨hn9, he9⟩ := m_d_spec hc9
    refine lv_ddiv hx hb dX7_capShare_22 hn9 ?_
    rw [he9]
    refine lv_goto (tgt := 27) hx hb dX7_capShare_23 (by decide) ?_
    exact k_X7_capShare_b27 hx hb hr hml hown hts hlocks hin hE hA _ _ _ _ hrun hR hz hS (lv_sub hl [] rfl)
/-! X7_leaky -/
abbrev rm_X7_leaky : Room := { frames := 1, cells := 0, slots := 0, locals := 21 }
theorem yk_X7_leaky : m_K yX7_leaky cX7_leaky 5 (some .int) 0 := ⟨wm_2_137, wm_0_1, by decide +kernel⟩
theorem ys_X7_leaky : Cond.instanceMethod yX7_leaky ∈ wT ∧ Cond.selects RX7 yX7_leaky yX7_leaky ∈ wT := ⟨wm_2_135, wm_2_136⟩
set_option maxRecDepth 100000 in
set_option maxHeartbeats 4000000 in
theorem k_X7_leaky_b36 {p : Program} {l : Launch} {e : Env} {s : State} {m : MethodId} {args : Array Value} {below : List Frame} {meth : Method} {c : Code} {D : va_G} {ids : m_I3} {st : m_T} {A : Nat → Prop} {z : Nat} {r : Int32} (hx : p.tables.exec = Jvm.exec) (hb : c.code = cX7_leaky) (hr : meth.sig.returnType = some .int) (hml : c.maxLocals = 5) (hown : s.vm.findClass RX7 = some m.cls) (hts : ∀ w ∈ (m_ws yX7_leaky cX7_leaky 5 (some .int)), w.before args s = true) (hlocks : meth.locks = false) (hin : meth.name = yX7_leaky.name) (hE : m_EV st A s s.heap) (hA : ∀ q, s.heap.size ≤ q → A q) {h : mH} {k6 : Nat → Int32 → Int32 → Int32 → Option (Int32)} (hk6 : ∀ (v0 : Nat) (v1 : Int32) (v2 : Int32) (v3 : Int32) (H : Heap) (locs : List Loc) (ls : Array Slot), k6 v0 v1 v2 v3 = some r → Rl D ids A h s H → H.size = z → va_S A s.heap H locs → lv_has ls 5 [(0, .ref v0), (1, .int v1), (2, .int v2), (3, .int v3)] → W p l e rm_X7_leaky s m args below meth c H locs 0 0 (MQ below (mQi D ids A r h z) args s 0 0 A) (F0 m 6 ls [])) (v0 : Nat) (v1 : Int32) (v2 : Int32) (v3 : Int32) (H : Heap) (locs : List Loc) (ls : Array Slot) (hrun : s_X7_leaky_b36 k6 h v0 v1 v2 v3 = some r) (hR : Rl D ids A h s H) (hz : H.size = z) (hS : va_S A s.heap H locs) (hl : lv_has ls 5 [(0, .ref v0), (1, .int v1), (2, .int v2), (3, .int v3)]) : W p l e rm_X7_leaky s m args below meth c H locs 0 0 (MQ below (mQi D ids A r h z) args s 0 0 A) (F0 m 36 ls []) := by
  unfold s_X7_leaky_b36 at hrun
  refine lv_iinc (v := v3 + 1) (lv' := [(3, .int (v3 + 1)), (0, .ref v0), (1, .int v1), (2, .int v2)]) hx hb dX7_leaky_36 hl (k := 3) rfl rfl (by decide) rfl (fun ls hl => ?_)
  refine lv_goto (tgt := 6) hx hb dX7_leaky_39 (by decide) ?_
  exact hk6 _ _ _ _ _ _ _ hrun hR hz hS (lv_sub hl [1, 2, 3, 0] rfl)
set_option maxRecDepth 100000 in
set_option maxHeartbeats 4000000 in
theorem k_X7_leaky_L6 {p : Program} {l : Launch} {e : Env} {s : State} {m : MethodId} {args : Array Value} {below : List Frame} {meth : Method} {c : Code} {D : va_G} {ids : m_I3} {st : m_T} {A : Nat → Prop} {z : Nat} {r : Int32} (hx : p.tables.exec = Jvm.exec) (hb : c.code = cX7_leaky) (hr : meth.sig.returnType = some .int) (hml : c.maxLocals = 5) (hown : s.vm.findClass RX7 = some m.cls) (hts : ∀ w ∈ (m_ws yX7_leaky cX7_leaky 5 (some .int)), w.before args s = true) (hlocks : meth.locks = false) (hin : meth.name = yX7_leaky.name) (hE : m_EV st A s s.heap) (hA : ∀ q, s.heap.size ≤ q → A q) {h : mH} : ∀ (n : Nat) (v0 : Nat) (v1 : Int32) (v2 : Int32) (v3 : Int32) (H : Heap) (locs : List Loc) (ls : Array Slot), s_X7_leaky_L6 h n v0 v1 v2 v3 = some r → Rl D ids A h s H → H.size = z → va_S A s.heap H locs → lv_has ls 5 [(0, .ref v0), (1, .int v1), (2, .int v2), (3, .int v3)] → W p l e rm_X7_leaky s m args below meth c H locs 0 0 (MQ below (mQi D ids A r h z) args s 0 0 A) (F0 m 6 ls []) := by
  intro n
  induction n with
  | zero => intro v0 v1 v2 v3 H locs ls hrun; exact absurd hrun (by intro h9; cases h9)
  | succ n ih =>
    intro v0 v1 v2 v3 H locs ls hrun hR hz hS hl
    rw [s_X7_leaky_L6] at hrun
    refine lv_iload_n hx hb dX7_leaky_6 rfl (lv_at hl 3 rfl) ?_
    refine lv_bipush (v := 10) hx hb dX7_leaky_7 (by decide) ?_
    refine lv_icmp_ge (tgt := 42) hx hb dX7_leaky_9 (by decide) (fun hc => ?_) (fun hc => ?_)
    · have hrun := mt_t hrun hc
      refine lv_iload_n hx hb dX7_leaky_42 rfl (lv_at hl 2 rfl) ?_
      obtain rfl := Option.some.inj hrun
      exact mr_iret hx hb hr hlocks hR hz hS dX7_leaky_43
    · have hrun := mt_f hrun hc
      refine lv_aload_n hx hb dX7_leaky_12 rfl (lv_at hl 0 rfl) ?_
      obtain ⟨x13, hc9, hrun⟩ := m_bind hrun
      refine mr_get (C := RX7) (T := TX7) (N := 8) (ci := 5) hx hb hts (fun w q => m_ws_in (wi_X7 w q)) hown hR rfl 1 (by decide) (hts _ (m_ws_in wm_1_8)) (fun _ h9 => h9) (m_gr_spec hc9) dX7_leaky_13 ?_
      obtain ⟨x16, hc9, hrun⟩ := m_bind hrun
      refine mr_getN (C := RX0) (T := TX0) (N := 9) (ci := 0) hx hb hts (fun w q => m_ws_in (wi_X0 w q)) hown hR rfl 5 (by decide) (hE.nf (i := 16) rfl) (fun _ h9 => h9) (m_gr_spec hc9) dX7_leaky_16 ?_
      refine lv_iload_n hx hb dX7_leaky_19 rfl (lv_at hl 3 rfl) ?_
      obtain ⟨x20, hc9, hrun⟩ := m_bind hrun
      refine mr_calli (mr_runS (As := [.ref x16, .int v3]) (rest := []) hx hb hml hown hts (c_X1_at l D ids st z hc9) yk_X1_at ys_X1_at wm_1_181 ⟨(Nat.le_of_ble_eq_true rfl), (Nat.le_of_ble_eq_true rfl)⟩ (mr_recvS hR hE hz hS hA) hl.1 rfl (Nat.le_of_ble_eq_true rfl) dX7_leaky_20 ⟨(Nat.le_of_ble_eq_true rfl), (Nat.le_of_ble_eq_true rfl)⟩) hR hz hS hA (fun H locs hR hz hS => ?_)
      refine lv_istore (lv' := [(4, .int x20), (0, .ref v0), (1, .int v1), (2, .int v2), (3, .int v3)]) hx hb dX7_leaky_23 hl (by decide) rfl (fun ls hl => ?_)
      refine lv_iload hx hb dX7_leaky_25 (lv_at hl 0 rfl) ?_
      refine lv_iload_n hx hb dX7_leaky_27 rfl (lv_at hl 2 rfl) ?_
      refine lv_icmp_le (tgt := 36) hx hb dX7_leaky_28 (by decide) (fun hc => ?_) (fun hc => ?_)
      · have hrun := mt_t hrun hc
        exact k_X7_leaky_b36 hx hb hr hml hown hts hlocks hin hE hA ih _ _ _ _ _ _ _ hrun hR hz hS (lv_sub hl [1, 2, 3, 4] rfl)
      · have hrun := mt_f hrun hc
        refine lv_iload hx hb dX7_leaky_31 (lv_at hl 0 rfl) ?_
        refine lv_istore_n (lv' := [(1, .int x20), (4, .int x20), (0, .ref v0), (2, .int v2), (3, .int v3)]) hx hb dX7_leaky_33 rfl hl (by decide) rfl (fun ls hl => ?_)
        refine lv_iload_n hx hb dX7_leaky_34 rfl (lv_at hl 4 rfl) ?_
        refine lv_istore_n (lv' := [(2, .int v3), (1, .int x20), (4, .int x20), (0, .ref v0), (3, .int v3)]) hx hb dX7_leaky_35 rfl hl (by decide) rfl (fun ls hl => ?_)
        exact k_X7_leaky_b36 hx hb hr hml hown hts hlocks hin hE hA ih _ _ _ _ _ _ _ hrun hR hz hS (lv_sub hl [3, 1, 0, 4] rfl)
set_option maxRecDepth 100000 in
set_option maxHeartbeats 4000000 in
theorem c_X7_leaky (l : Launch) (D : va_G) (ids : m_I3) (st : m_T) (z : Nat) {h : mH} {v0 : Nat} {r : Int32} (hrun : s_X7_leaky h v0 = some r) : Met l yX7_leaky (m_ws yX7_leaky cX7_leaky 5 (some .int)) rm_X7_leaky (mPc D ids st [.ref v0] h z) (mQi D ids (m_A h z) r h z) rm_X7_leaky.cells rm_X7_leaky.slots (m_A h z) := by
  refine mr_of (cc := cX7_leaky) (maxL := 5) (ret := some .int) (by decide) rfl (Nat.le_of_ble_eq_true rfl) ?_
  intro p e s m below meth c ls hx hb hr hml hown hts hlocks hin hR hE hz hl
  have hA : ∀ q, s.heap.size ≤ q → m_A h z q := fun q hq => Or.inr (by rw [← hz]; exact hq)
  have hS : va_S (m_A h z) s.heap s.heap [] := va_S.rf
  have hl : lv_has ls 5 [(0, .ref v0)] := hl
  unfold s_X7_leaky at hrun
  refine lv_iconst (v := 0) hx hb dX7_leaky_0 (by decide) ?_
  refine lv_istore_n (lv' := [(1, .int 0), (0, .ref v0)]) hx hb dX7_leaky_1 rfl hl (by decide) rfl (fun ls hl => ?_)
  refine lv_iconst (v := (-1)) hx hb dX7_leaky_2 (by decide) ?_
  refine lv_istore_n (lv' := [(2, .int (-1)), (1, .int 0), (0, .ref v0)]) hx hb dX7_leaky_3 rfl hl (by decide) rfl (fun ls hl => ?_)
  refine lv_iconst (v := 0) hx hb dX7_leaky_4 (by decide) ?_
  refine lv_istore_n (lv' := [(3, .int 0), (2, .int (-1)), (1, .int 0), (0, .ref v0)]) hx hb dX7_leaky_5 rfl hl (by decide) rfl (fun ls hl => ?_)
  exact k_X7_leaky_L6 hx hb hr hml hown hts hlocks hin hE hA _ _ _ _ _ _ _ _ hrun hR hz hS (lv_sub hl [3, 2, 1, 0] rfl)
/-! L_holds -/
abbrev rm_L_holds : Room := { frames := 7, cells := 0, slots := 0, locals := 156 }
theorem yk_L_holds : m_K yL_holds cL_holds 17 (some .boolean) 1 := ⟨wm_2_116, wm_0_0, by decide +kernel⟩
theorem ys_L_holds : Cond.static yL_holds ∈ wT := wm_2_115
set_option maxRecDepth 100000 in
set_option maxHeartbeats 4000000 in
theorem k_L_holds_b590 {p : Program} {l : Launch} {e : Env} {s : State} {m : MethodId} {args : Array Value} {below : List Frame} {meth : Method} {c : Code} {D : va_G} {ids : m_I3} {st : m_T} {A : Nat → Prop} {z : Nat} {r : Int32} {hF : mH} (hx : p.tables.exec = Jvm.exec) (hb : c.code = cL_holds) (hr : meth.sig.returnType = some .boolean) (hml : c.maxLocals = 17) (hown : s.vm.findClass RL = some m.cls) (hts : ∀ w ∈ (m_ws yL_holds cL_holds 17 (some .boolean)), w.before args s = true) (hlocks : meth.locks = false) (hin : meth.name = yL_holds.name) (hE : m_EV st A s s.heap) (hA : ∀ q, s.heap.size ≤ q → A q) (h : mH) (t0 : Int32) (H : Heap) (locs : List Loc) (ls : Array Slot) (hrun : s_L_holds_b590 st h t0 = some (r, hF)) (hR : Rl D ids A h s H) (hz : H.size = z) (hS : va_S A s.heap H locs) (hl : lv_has ls 17 []) : W p l e rm_L_holds s m args below meth c H locs 0 0 (MQ below (mQi D ids A r hF z) args s 0 0 A) (F0 m 590 ls [.int t0]) := by
  unfold s_L_holds_b590 at hrun
  obtain ⟨w9, hzr, hrun⟩ := m_bind hrun
  obtain ⟨rfl, rfl⟩ := Prod.mk.inj (Option.some.inj hrun)
  exact mr_zret hzr hx hb hr hlocks hR hz hS dL_holds_590
set_option maxRecDepth 100000 in
set_option maxHeartbeats 4000000 in
theorem k_L_holds_b589 {p : Program} {l : Launch} {e : Env} {s : State} {m : MethodId} {args : Array Value} {below : List Frame} {meth : Method} {c : Code} {D : va_G} {ids : m_I3} {st : m_T} {A : Nat → Prop} {z : Nat} {r : Int32} {hF : mH} (hx : p.tables.exec = Jvm.exec) (hb : c.code = cL_holds) (hr : meth.sig.returnType = some .boolean) (hml : c.maxLocals = 17) (hown : s.vm.findClass RL = some m.cls) (hts : ∀ w ∈ (m_ws yL_holds cL_holds 17 (some .boolean)), w.before args s = true) (hlocks : meth.locks = false) (hin : meth.name = yL_holds.name) (hE : m_EV st A s s.heap) (hA : ∀ q, s.heap.size ≤ q → A q) (h : mH) (H : Heap) (locs : List Loc) (ls : Array Slot) (hrun : s_L_holds_b589 st h = some (r, hF)) (hR : Rl D ids A h s H) (hz : H.size = z) (hS : va_S A s.heap H locs) (hl : lv_has ls 17 []) : W p l e rm_L_holds s m args below meth c H locs 0 0 (MQ below (mQi D ids A r hF z) args s 0 0 A) (F0 m 589 ls []) := by
  unfold s_L_holds_b589 at hrun
  refine lv_iconst (v := 0) hx hb dL_holds_589 (by decide) ?_
  exact k_L_holds_b590 hx hb hr hml hown hts hlocks hin hE hA _ _ _ _ _ hrun hR hz hS (lv_sub hl [] rfl)
set_option maxRecDepth 100000 in
set_option maxHeartbeats 4000000 in
theorem k_L_holds_b582 {p : Program} {l : Launch} {e : Env} {s : State} {m : MethodId} {args : Array Value} {below : List Frame} {meth : Method} {c : Code} {D : va_G} {ids : m_I3} {st : m_T} {A : Nat → Prop} {z : Nat} {r : Int32} {hF : mH} (hx : p.tables.exec = Jvm.exec) (hb : c.code = cL_holds) (hr : meth.sig.returnType = some .boolean) (hml : c.maxLocals = 17) (hown : s.vm.findClass RL = some m.cls) (hts : ∀ w ∈ (m_ws yL_holds cL_holds 17 (some .boolean)), w.before args s = true) (hlocks : meth.locks = false) (hin : meth.name = yL_holds.name) (hE : m_EV st A s s.heap) (hA : ∀ q, s.heap.size ≤ q → A q) (h : mH) (t0 : Int32) (t1 : Int32) (H : Heap) (locs : List Loc) (ls : Array Slot) (hrun : s_L_holds_b582 st h t0 t1 = some (r, hF)) (hR : Rl D ids A h s H) (hz : H.size = z) (hS : va_S A s.heap H locs) (hl : lv_has ls 17 []) : W p l e rm_L_holds s m args below meth c H locs 0 0 (MQ below (mQi D ids A r hF z) args s 0 0 A) (F0 m 582 ls [.int t1, .int t0]) := by
  unfold s_L_holds_b582 at hrun
  refine lv_icmp_ne (tgt := 589) hx hb dL_holds_582 (by decide) (fun hc => ?_) (fun hc => ?_)
  · have hrun := mt_f hrun hc
    exact k_L_holds_b589 hx hb hr hml hown hts hlocks hin hE hA _ _ _ _ hrun hR hz hS (lv_sub hl [] rfl)
  · have hrun := mt_t hrun hc
    refine lv_iconst (v := 1) hx hb dL_holds_585 (by decide) ?_
    refine lv_goto (tgt := 590) hx hb dL_holds_586 (by decide) ?_
    exact k_L_holds_b590 hx hb hr hml hown hts hlocks hin hE hA _ _ _ _ _ hrun hR hz hS (lv_sub hl [] rfl)
set_option maxRecDepth 100000 in
set_option maxHeartbeats 4000000 in
theorem k_L_holds_b572 {p : Program} {l : Launch} {e : Env} {s : State} {m : MethodId} {args : Array Value} {below : List Frame} {meth : Method} {c : Code} {D : va_G} {ids : m_I3} {st : m_T} {A : Nat → Prop} {z : Nat} {r : Int32} {hF : mH} (hx : p.tables.exec = Jvm.exec) (hb : c.code = cL_holds) (hr : meth.sig.returnType = some .boolean) (hml : c.maxLocals = 17) (hown : s.vm.findClass RL = some m.cls) (hts : ∀ w ∈ (m_ws yL_holds cL_holds 17 (some .boolean)), w.before args s = true) (hlocks : meth.locks = false) (hin : meth.name = yL_holds.name) (hE : m_EV st A s s.heap) (hA : ∀ q, s.heap.size ≤ q → A q) (h : mH) (v6 : Int32) (t0 : Int32) (H : Heap) (locs : List Loc) (ls : Array Slot) (hrun : s_L_holds_b572 st h v6 t0 = some (r, hF)) (hR : Rl D ids A h s H) (hz : H.size = z) (hS : va_S A s.heap H locs) (hl : lv_has ls 17 [(6, .int v6)]) : W p l e rm_L_holds s m args below meth c H locs 0 0 (MQ below (mQi D ids A r hF z) args s 0 0 A) (F0 m 572 ls [.int t0]) := by
  unfold s_L_holds_b572 at hrun
  refine lv_iload hx hb dL_holds_572 (lv_at hl 0 rfl) ?_
  refine lv_if_ne (tgt := 581) hx hb dL_holds_574 (by decide) (fun hc => ?_) (fun hc => ?_)
  · have hrun := mt_f hrun hc
    refine lv_iconst (v := 0) hx hb dL_holds_581 (by decide) ?_
    exact k_L_holds_b582 hx hb hr hml hown hts hlocks hin hE hA _ _ _ _ _ _ hrun hR hz hS (lv_sub hl [] rfl)
  · have hrun := mt_t hrun hc
    refine lv_iconst (v := 1) hx hb dL_holds_577 (by decide) ?_
    refine lv_goto (tgt := 582) hx hb dL_holds_578 (by decide) ?_
    exact k_L_holds_b582 hx hb hr hml hown hts hlocks hin hE hA _ _ _ _ _ _ hrun hR hz hS (lv_sub hl [] rfl)
set_option maxRecDepth 100000 in
set_option maxHeartbeats 4000000 in
theorem k_L_holds_b510 {p : Program} {l : Launch} {e : Env} {s : State} {m : MethodId} {args : Array Value} {below : List Frame} {meth : Method} {c : Code} {D : va_G} {ids : m_I3} {st : m_T} {A : Nat → Prop} {z : Nat} {r : Int32} {hF : mH} (hx : p.tables.exec = Jvm.exec) (hb : c.code = cL_holds) (hr : meth.sig.returnType = some .boolean) (hml : c.maxLocals = 17) (hown : s.vm.findClass RL = some m.cls) (hts : ∀ w ∈ (m_ws yL_holds cL_holds 17 (some .boolean)), w.before args s = true) (hlocks : meth.locks = false) (hin : meth.name = yL_holds.name) (hE : m_EV st A s s.heap) (hA : ∀ q, s.heap.size ≤ q → A q) (h : mH) (v0 : Nat) (v6 : Int32) (v7 : Int32) (v8 : Int32) (v9 : Int32) (t0 : Int32) (H : Heap) (locs : List Loc) (ls : Array Slot) (hrun : s_L_holds_b510 st h v0 v6 v7 v8 v9 t0 = some (r, hF)) (hR : Rl D ids A h s H) (hz : H.size = z) (hS : va_S A s.heap H locs) (hl : lv_has ls 17 [(0, .ref v0), (6, .int v6), (7, .int v7), (8, .int v8), (9, .int v9)]) : W p l e rm_L_holds s m args below meth c H locs 0 0 (MQ below (mQi D ids A r hF z) args s 0 0 A) (F0 m 510 ls [.int t0]) := by
  unfold s_L_holds_b510 at hrun
  refine lv_istore (lv' := [(13, .int t0), (0, .ref v0), (6, .int v6), (7, .int v7), (8, .int v8), (9, .int v9)]) hx hb dL_holds_510 hl (by decide) rfl (fun ls hl => ?_)
  refine lv_iload hx hb dL_holds_512 (lv_at hl 0 rfl) ?_
  refine lv_if_eq (tgt := 589) hx hb dL_holds_514 (by decide) (fun hc => ?_) (fun hc => ?_)
  · have hrun := mt_t hrun hc
    exact k_L_holds_b589 hx hb hr hml hown hts hlocks hin hE hA _ _ _ _ hrun hR hz hS (lv_sub hl [] rfl)
  · have hrun := mt_f hrun hc
    refine lv_iload hx hb dL_holds_517 (lv_at hl 2 rfl) ?_
    refine lv_aload_n hx hb dL_holds_519 rfl (lv_at hl 1 rfl) ?_
    refine lv_iconst (v := 2) hx hb dL_holds_520 (by decide) ?_
    obtain ⟨_, ho9, hrun⟩ := m_bind hrun
    obtain ⟨fs9, ho9⟩ := m_is_spec ho9
    obtain ⟨⟨x521, h521⟩, hc9, hrun⟩ := m_bind hrun
    refine mr_calli (mr_runV (As := [.int 2]) (rest := [.int v6]) hx hb hml hown hts (c_X7_count l D ids st z (m_ok_spec hc9)) yk_X7_count ys_X7_count wm_1_125 ⟨(Nat.le_of_ble_eq_true rfl), (Nat.le_of_ble_eq_true rfl)⟩ (mr_recv (ci := 5) hR hE hz hS hA rfl ho9) hl.1 rfl (Nat.le_of_ble_eq_true rfl) dL_holds_521 ⟨(Nat.le_of_ble_eq_true rfl), (Nat.le_of_ble_eq_true rfl)⟩) hR hz hS hA (fun H locs hR hz hS => ?_)
    refine lv_icmp_ne (tgt := 589) hx hb dL_holds_524 (by decide) (fun hc => ?_) (fun hc => ?_)
    · have hrun := mt_f hrun hc
      exact k_L_holds_b589 hx hb hr hml hown hts hlocks hin hE hA _ _ _ _ hrun hR hz hS (lv_sub hl [] rfl)
    · have hrun := mt_t hrun hc
      refine lv_iload hx hb dL_holds_527 (lv_at hl 2 rfl) ?_
      refine lv_iload hx hb dL_holds_529 (lv_at hl 3 rfl) ?_
      refine lv_iadd hx hb dL_holds_531 ?_
      refine lv_aload_n hx hb dL_holds_532 rfl (lv_at hl 1 rfl) ?_
      refine lv_iconst (v := 1) hx hb dL_holds_533 (by decide) ?_
      obtain ⟨_, ho9, hrun⟩ := m_bind hrun
      obtain ⟨fs9, ho9⟩ := m_is_spec ho9
      obtain ⟨⟨x534, h534⟩, hc9, hrun⟩ := m_bind hrun
      refine mr_calli (mr_runV (As := [.int 1]) (rest := [.int (v6 + v7)]) hx hb hml hown hts (c_X7_count l D ids st z (m_ok_spec hc9)) yk_X7_count ys_X7_count wm_1_125 ⟨(Nat.le_of_ble_eq_true rfl), (Nat.le_of_ble_eq_true rfl)⟩ (mr_recv (ci := 5) hR hE hz hS hA rfl ho9) hl.1 rfl (Nat.le_of_ble_eq_true rfl) dL_holds_534 ⟨(Nat.le_of_ble_eq_true rfl), (Nat.le_of_ble_eq_true rfl)⟩) hR hz hS hA (fun H locs hR hz hS => ?_)
      refine lv_icmp_ne (tgt := 589) hx hb dL_holds_537 (by decide) (fun hc => ?_) (fun hc => ?_)
      · have hrun := mt_f hrun hc
        exact k_L_holds_b589 hx hb hr hml hown hts hlocks hin hE hA _ _ _ _ hrun hR hz hS (lv_sub hl [] rfl)
      · have hrun := mt_t hrun hc
        refine lv_iload hx hb dL_holds_540 (lv_at hl 4 rfl) ?_
        refine lv_aload_n hx hb dL_holds_542 rfl (lv_at hl 1 rfl) ?_
        refine lv_iconst (v := 3) hx hb dL_holds_543 (by decide) ?_
        obtain ⟨_, ho9, hrun⟩ := m_bind hrun
        obtain ⟨fs9, ho9⟩ := m_is_spec ho9
        obtain ⟨⟨x544, h544⟩, hc9, hrun⟩ := m_bind hrun
        refine mr_calli (mr_runV (As := [.int 3]) (rest := [.int v8]) hx hb hml hown hts (c_X7_count l D ids st z (m_ok_spec hc9)) yk_X7_count ys_X7_count wm_1_125 ⟨(Nat.le_of_ble_eq_true rfl), (Nat.le_of_ble_eq_true rfl)⟩ (mr_recv (ci := 5) hR hE hz hS hA rfl ho9) hl.1 rfl (Nat.le_of_ble_eq_true rfl) dL_holds_544 ⟨(Nat.le_of_ble_eq_true rfl), (Nat.le_of_ble_eq_true rfl)⟩) hR hz hS hA (fun H locs hR hz hS => ?_)
        refine lv_icmp_ne (tgt := 589) hx hb dL_holds_547 (by decide) (fun hc => ?_) (fun hc => ?_)
        · have hrun := mt_f hrun hc
          exact k_L_holds_b589 hx hb hr hml hown hts hlocks hin hE hA _ _ _ _ hrun hR hz hS (lv_sub hl [] rfl)
        · have hrun := mt_t hrun hc
          refine lv_iload hx hb dL_holds_550 (lv_at hl 5 rfl) ?_
          refine lv_aload_n hx hb dL_holds_552 rfl (lv_at hl 1 rfl) ?_
          refine lv_iconst (v := 4) hx hb dL_holds_553 (by decide) ?_
          obtain ⟨_, ho9, hrun⟩ := m_bind hrun
          obtain ⟨fs9, ho9⟩ := m_is_spec ho9
          obtain ⟨⟨x554, h554⟩, hc9, hrun⟩ := m_bind hrun
          refine mr_calli (mr_runV (As := [.int 4]) (rest := [.int v9]) hx hb hml hown hts (c_X7_count l D ids st z (m_ok_spec hc9)) yk_X7_count ys_X7_count wm_1_125 ⟨(Nat.le_of_ble_eq_true rfl), (Nat.le_of_ble_eq_true rfl)⟩ (mr_recv (ci := 5) hR hE hz hS hA rfl ho9) hl.1 rfl (Nat.le_of_ble_eq_true rfl) dL_holds_554 ⟨(Nat.le_of_ble_eq_true rfl), (Nat.le_of_ble_eq_true rfl)⟩) hR hz hS hA (fun H locs hR hz hS => ?_)
          refine lv_icmp_ne (tgt := 589) hx hb dL_holds_557 (by decide) (fun hc => ?_) (fun hc => ?_)
          · have hrun := mt_f hrun hc
            exact k_L_holds_b589 hx hb hr hml hown hts hlocks hin hE hA _ _ _ _ hrun hR hz hS (lv_sub hl [] rfl)
          · have hrun := mt_t hrun hc
            refine lv_aload_n hx hb dL_holds_560 rfl (lv_at hl 1 rfl) ?_
            obtain ⟨_, ho9, hrun⟩ := m_bind hrun
            obtain ⟨fs9, ho9⟩ := m_is_spec ho9
            obtain ⟨x561, hc9, hrun⟩ := m_bind hrun
            refine mr_calli (mr_runV (As := []) (rest := []) hx hb hml hown hts (c_X7_leaky l D ids st z hc9) yk_X7_leaky ys_X7_leaky wm_2_134 ⟨(Nat.le_of_ble_eq_true rfl), (Nat.le_of_ble_eq_true rfl)⟩ (mr_recv (ci := 5) hR hE hz hS hA rfl ho9) hl.1 rfl (Nat.le_of_ble_eq_true rfl) dL_holds_561 ⟨(Nat.le_of_ble_eq_true rfl), (Nat.le_of_ble_eq_true rfl)⟩) hR hz hS hA (fun H locs hR hz hS => ?_)
            refine lv_if_ge (tgt := 571) hx hb dL_holds_564 (by decide) (fun hc => ?_) (fun hc => ?_)
            · have hrun := mt_t hrun hc
              refine lv_iconst (v := 0) hx hb dL_holds_571 (by decide) ?_
              exact k_L_holds_b572 hx hb hr hml hown hts hlocks hin hE hA _ _ _ _ _ _ hrun hR hz hS (lv_sub hl [2] rfl)
            · have hrun := mt_f hrun hc
              refine lv_iconst (v := 1) hx hb dL_holds_567 (by decide) ?_
              refine lv_goto (tgt := 572) hx hb dL_holds_568 (by decide) ?_
              exact k_L_holds_b572 hx hb hr hml hown hts hlocks hin hE hA _ _ _ _ _ _ hrun hR hz hS (lv_sub hl [2] rfl)
set_option maxRecDepth 100000 in
set_option maxHeartbeats 4000000 in
theorem k_L_holds_b509 {p : Program} {l : Launch} {e : Env} {s : State} {m : MethodId} {args : Array Value} {below : List Frame} {meth : Method} {c : Code} {D : va_G} {ids : m_I3} {st : m_T} {A : Nat → Prop} {z : Nat} {r : Int32} {hF : mH} (hx : p.tables.exec = Jvm.exec) (hb : c.code = cL_holds) (hr : meth.sig.returnType = some .boolean) (hml : c.maxLocals = 17) (hown : s.vm.findClass RL = some m.cls) (hts : ∀ w ∈ (m_ws yL_holds cL_holds 17 (some .boolean)), w.before args s = true) (hlocks : meth.locks = false) (hin : meth.name = yL_holds.name) (hE : m_EV st A s s.heap) (hA : ∀ q, s.heap.size ≤ q → A q) (h : mH) (v0 : Nat) (v6 : Int32) (v7 : Int32) (v8 : Int32) (v9 : Int32) (H : Heap) (locs : List Loc) (ls : Array Slot) (hrun : s_L_holds_b509 st h v0 v6 v7 v8 v9 = some (r, hF)) (hR : Rl D ids A h s H) (hz : H.size = z) (hS : va_S A s.heap H locs) (hl : lv_has ls 17 [(0, .ref v0), (6, .int v6), (7, .int v7), (8, .int v8), (9, .int v9)]) : W p l e rm_L_holds s m args below meth c H locs 0 0 (MQ below (mQi D ids A r hF z) args s 0 0 A) (F0 m 509 ls []) := by
  unfold s_L_holds_b509 at hrun
  refine lv_iconst (v := 0) hx hb dL_holds_509 (by decide) ?_
  exact k_L_holds_b510 hx hb hr hml hown hts hlocks hin hE hA _ _ _ _ _ _ _ _ _ _ hrun hR hz hS (lv_sub hl [0, 1, 2, 3, 4] rfl)
set_option maxRecDepth 100000 in
set_option maxHeartbeats 4000000 in
theorem k_L_holds_b444 {p : Program} {l : Launch} {e : Env} {s : State} {m : MethodId} {args : Array Value} {below : List Frame} {meth : Method} {c : Code} {D : va_G} {ids : m_I3} {st : m_T} {A : Nat → Prop} {z : Nat} {r : Int32} {hF : mH} (hx : p.tables.exec = Jvm.exec) (hb : c.code = cL_holds) (hr : meth.sig.returnType = some .boolean) (hml : c.maxLocals = 17) (hown : s.vm.findClass RL = some m.cls) (hts : ∀ w ∈ (m_ws yL_holds cL_holds 17 (some .boolean)), w.before args s = true) (hlocks : meth.locks = false) (hin : meth.name = yL_holds.name) (hE : m_EV st A s s.heap) (hA : ∀ q, s.heap.size ≤ q → A q) (h : mH) (H : Heap) (locs : List Loc) (ls : Array Slot) (hrun : s_L_holds_b444 st h = some (r, hF)) (hR : Rl D ids A h s H) (hz : H.size = z) (hS : va_S A s.heap H locs) (hl : lv_has ls 17 []) : W p l e rm_L_holds s m args below meth c H locs 0 0 (MQ below (mQi D ids A r hF z) args s 0 0 A) (F0 m 444 ls []) := by
  unfold s_L_holds_b444 at hrun
  refine lv_iconst (v := 0) hx hb dL_holds_444 (by decide) ?_
  obtain ⟨w9, hzr, hrun⟩ := m_bind hrun
  obtain ⟨rfl, rfl⟩ := Prod.mk.inj (Option.some.inj hrun)
  exact mr_zret hzr hx hb hr hlocks hR hz hS dL_holds_445
set_option maxRecDepth 100000 in
set_option maxHeartbeats 4000000 in
theorem k_L_holds_b431 {p : Program} {l : Launch} {e : Env} {s : State} {m : MethodId} {args : Array Value} {below : List Frame} {meth : Method} {c : Code} {D : va_G} {ids : m_I3} {st : m_T} {A : Nat → Prop} {z : Nat} {r : Int32} {hF : mH} (hx : p.tables.exec = Jvm.exec) (hb : c.code = cL_holds) (hr : meth.sig.returnType = some .boolean) (hml : c.maxLocals = 17) (hown : s.vm.findClass RL = some m.cls) (hts : ∀ w ∈ (m_ws yL_holds cL_holds 17 (some .boolean)), w.before args s = true) (hlocks : meth.locks = false) (hin : meth.name = yL_holds.name) (hE : m_EV st A s s.heap) (hA : ∀ q, s.heap.size ≤ q → A q) {k243 : mH → Nat → Int32 → Int32 → Int32 → Int32 → Int32 → Int32 → Int32 → Int32 → Option (Int32 × mH)} (hk243 : ∀ (h : mH) (v0 : Nat) (v2 : Int32) (v3 : Int32) (v6 : Int32) (v7 : Int32) (v8 : Int32) (v9 : Int32) (v10 : Int32) (v11 : Int32) (H : Heap) (locs : List Loc) (ls : Array Slot), k243 h v0 v2 v3 v6 v7 v8 v9 v10 v11 = some (r, hF) → Rl D ids A h s H → H.size = z → va_S A s.heap H locs → lv_has ls 17 [(0, .ref v0), (2, .int v2), (3, .int v3), (6, .int v6), (7, .int v7), (8, .int v8), (9, .int v9), (10, .int v10), (11, .int v11)] → W p l e rm_L_holds s m args below meth c H locs 0 0 (MQ below (mQi D ids A r hF z) args s 0 0 A) (F0 m 243 ls [])) (h : mH) (v0 : Nat) (v2 : Int32) (v3 : Int32) (v6 : Int32) (v7 : Int32) (v8 : Int32) (v9 : Int32) (v10 : Int32) (v11 : Int32) (v12 : Int32) (v13 : Int32) (H : Heap) (locs : List Loc) (ls : Array Slot) (hrun : s_L_holds_b431 st k243 h v0 v2 v3 v6 v7 v8 v9 v10 v11 v12 v13 = some (r, hF)) (hR : Rl D ids A h s H) (hz : H.size = z) (hS : va_S A s.heap H locs) (hl : lv_has ls 17 [(0, .ref v0), (2, .int v2), (3, .int v3), (6, .int v6), (7, .int v7), (8, .int v8), (9, .int v9), (10, .int v10), (11, .int v11), (12, .int v12), (13, .int v13)]) : W p l e rm_L_holds s m args below meth c H locs 0 0 (MQ below (mQi D ids A r hF z) args s 0 0 A) (F0 m 431 ls []) := by
  unfold s_L_holds_b431 at hrun
  refine lv_aload_n hx hb dL_holds_431 rfl (lv_at hl 0 rfl) ?_
  refine lv_iload hx hb dL_holds_432 (lv_at hl 9 rfl) ?_
  refine lv_iload hx hb dL_holds_434 (lv_at hl 10 rfl) ?_
  refine lv_iconst (v := 5) hx hb dL_holds_436 (by decide) ?_
  obtain ⟨_, ho9, hrun⟩ := m_bind hrun
  obtain ⟨fs9, ho9⟩ := m_is_spec ho9
  obtain ⟨⟨x437, h437⟩, hc9, hrun⟩ := m_bind hrun
  refine mr_calli (mr_runV (As := [.int v12, .int v13, .int 5]) (rest := []) hx hb hml hown hts (c_X7_week l D ids st z (m_ok_spec hc9)) yk_X7_week ys_X7_week wm_1_228 ⟨(Nat.le_of_ble_eq_true rfl), (Nat.le_of_ble_eq_true rfl)⟩ (mr_recv (ci := 5) hR hE hz hS hA rfl ho9) hl.1 rfl (Nat.le_of_ble_eq_true rfl) dL_holds_437 ⟨(Nat.le_of_ble_eq_true rfl), (Nat.le_of_ble_eq_true rfl)⟩) hR hz hS hA (fun H locs hR hz hS => ?_)
  refine lv_iconst (v := 2) hx hb dL_holds_440 (by decide) ?_
  refine lv_icmp_le (tgt := 446) hx hb dL_holds_441 (by decide) (fun hc => ?_) (fun hc => ?_)
  · have hrun := mt_t hrun hc
    refine lv_iinc (v := v11 + 1) (lv' := [(11, .int (v11 + 1)), (0, .ref v0), (2, .int v2), (3, .int v3), (6, .int v6), (7, .int v7), (8, .int v8), (9, .int v9), (10, .int v10), (12, .int v12), (13, .int v13)]) hx hb dL_holds_446 hl (k := 8) rfl rfl (by decide) rfl (fun ls hl => ?_)
    refine lv_goto (tgt := 243) hx hb dL_holds_449 (by decide) ?_
    exact hk243 _ _ _ _ _ _ _ _ _ _ _ _ _ hrun hR hz hS (lv_sub hl [1, 2, 3, 4, 5, 6, 7, 8, 0] rfl)
  · have hrun := mt_f hrun hc
    exact k_L_holds_b444 hx hb hr hml hown hts hlocks hin hE hA _ _ _ _ hrun hR hz hS (lv_sub hl [] rfl)
set_option maxRecDepth 100000 in
set_option maxHeartbeats 4000000 in
theorem k_L_holds_b323 {p : Program} {l : Launch} {e : Env} {s : State} {m : MethodId} {args : Array Value} {below : List Frame} {meth : Method} {c : Code} {D : va_G} {ids : m_I3} {st : m_T} {A : Nat → Prop} {z : Nat} {r : Int32} {hF : mH} (hx : p.tables.exec = Jvm.exec) (hb : c.code = cL_holds) (hr : meth.sig.returnType = some .boolean) (hml : c.maxLocals = 17) (hown : s.vm.findClass RL = some m.cls) (hts : ∀ w ∈ (m_ws yL_holds cL_holds 17 (some .boolean)), w.before args s = true) (hlocks : meth.locks = false) (hin : meth.name = yL_holds.name) (hE : m_EV st A s s.heap) (hA : ∀ q, s.heap.size ≤ q → A q) (h : mH) (H : Heap) (locs : List Loc) (ls : Array Slot) (hrun : s_L_holds_b323 st h = some (r, hF)) (hR : Rl D ids A h s H) (hz : H.size = z) (hS : va_S A s.heap H locs) (hl : lv_has ls 17 []) : W p l e rm_L_holds s m args below meth c H locs 0 0 (MQ below (mQi D ids A r hF z) args s 0 0 A) (F0 m 323 ls []) := by
  unfold s_L_holds_b323 at hrun
  refine lv_iconst (v := 0) hx hb dL_holds_323 (by decide) ?_
  obtain ⟨w9, hzr, hrun⟩ := m_bind hrun
  obtain ⟨rfl, rfl⟩ := Prod.mk.inj (Option.some.inj hrun)
  exact mr_zret hzr hx hb hr hlocks hR hz hS dL_holds_324
set_option maxRecDepth 100000 in
set_option maxHeartbeats 4000000 in
theorem k_L_holds_L272 {p : Program} {l : Launch} {e : Env} {s : State} {m : MethodId} {args : Array Value} {below : List Frame} {meth : Method} {c : Code} {D : va_G} {ids : m_I3} {st : m_T} {A : Nat → Prop} {z : Nat} {r : Int32} {hF : mH} (hx : p.tables.exec = Jvm.exec) (hb : c.code = cL_holds) (hr : meth.sig.returnType = some .boolean) (hml : c.maxLocals = 17) (hown : s.vm.findClass RL = some m.cls) (hts : ∀ w ∈ (m_ws yL_holds cL_holds 17 (some .boolean)), w.before args s = true) (hlocks : meth.locks = false) (hin : meth.name = yL_holds.name) (hE : m_EV st A s s.heap) (hA : ∀ q, s.heap.size ≤ q → A q) {k243 : mH → Nat → Int32 → Int32 → Int32 → Int32 → Int32 → Int32 → Int32 → Int32 → Option (Int32 × mH)} (hk243 : ∀ (h : mH) (v0 : Nat) (v2 : Int32) (v3 : Int32) (v6 : Int32) (v7 : Int32) (v8 : Int32) (v9 : Int32) (v10 : Int32) (v11 : Int32) (H : Heap) (locs : List Loc) (ls : Array Slot), k243 h v0 v2 v3 v6 v7 v8 v9 v10 v11 = some (r, hF) → Rl D ids A h s H → H.size = z → va_S A s.heap H locs → lv_has ls 17 [(0, .ref v0), (2, .int v2), (3, .int v3), (6, .int v6), (7, .int v7), (8, .int v8), (9, .int v9), (10, .int v10), (11, .int v11)] → W p l e rm_L_holds s m args below meth c H locs 0 0 (MQ below (mQi D ids A r hF z) args s 0 0 A) (F0 m 243 ls [])) : ∀ (n : Nat) (h : mH) (v0 : Nat) (v2 : Int32) (v3 : Int32) (v6 : Int32) (v7 : Int32) (v8 : Int32) (v9 : Int32) (v10 : Int32) (v11 : Int32) (v12 : Int32) (v13 : Int32) (v14 : Int32) (v15 : Int32) (H : Heap) (locs : List Loc) (ls : Array Slot), s_L_holds_L272 st k243 n h v0 v2 v3 v6 v7 v8 v9 v10 v11 v12 v13 v14 v15 = some (r, hF) → Rl D ids A h s H → H.size = z → va_S A s.heap H locs → lv_has ls 17 [(0, .ref v0), (2, .int v2), (3, .int v3), (6, .int v6), (7, .int v7), (8, .int v8), (9, .int v9), (10, .int v10), (11, .int v11), (12, .int v12), (13, .int v13), (14, .int v14), (15, .int v15)] → W p l e rm_L_holds s m args below meth c H locs 0 0 (MQ below (mQi D ids A r hF z) args s 0 0 A) (F0 m 272 ls []) := by
  intro n
  induction n with
  | zero => intro h v0 v2 v3 v6 v7 v8 v9 v10 v11 v12 v13 v14 v15 H locs ls hrun; exact absurd hrun (by intro h9; cases h9)
  | succ n ih =>
    intro h v0 v2 v3 v6 v7 v8 v9 v10 v11 v12 v13 v14 v15 H locs ls hrun hR hz hS hl
    rw [s_L_holds_L272] at hrun
    refine lv_iload hx hb dL_holds_272 (lv_at hl 12 rfl) ?_
    refine lv_bipush (v := 7) hx hb dL_holds_274 (by decide) ?_
    refine lv_iload hx hb dL_holds_276 (lv_at hl 10 rfl) ?_
    refine lv_imul hx hb dL_holds_278 ?_
    refine lv_bipush (v := 7) hx hb dL_holds_279 (by decide) ?_
    refine lv_iadd hx hb dL_holds_281 ?_
    refine lv_icmp_ge (tgt := 331) hx hb dL_holds_282 (by decide) (fun hc => ?_) (fun hc => ?_)
    · have hrun := mt_t hrun hc
      refine lv_aload_n hx hb dL_holds_331 rfl (lv_at hl 0 rfl) ?_
      refine lv_iload hx hb dL_holds_332 (lv_at hl 9 rfl) ?_
      refine lv_iload hx hb dL_holds_334 (lv_at hl 10 rfl) ?_
      refine lv_iconst (v := 3) hx hb dL_holds_336 (by decide) ?_
      obtain ⟨_, ho9, hrun⟩ := m_bind hrun
      obtain ⟨fs9, ho9⟩ := m_is_spec ho9
      obtain ⟨⟨x337, h337⟩, hc9, hrun⟩ := m_bind hrun
      refine mr_calli (mr_runV (As := [.int v12, .int v13, .int 3]) (rest := []) hx hb hml hown hts (c_X7_week l D ids st z (m_ok_spec hc9)) yk_X7_week ys_X7_week wm_1_228 ⟨(Nat.le_of_ble_eq_true rfl), (Nat.le_of_ble_eq_true rfl)⟩ (mr_recv (ci := 5) hR hE hz hS hA rfl ho9) hl.1 rfl (Nat.le_of_ble_eq_true rfl) dL_holds_337 ⟨(Nat.le_of_ble_eq_true rfl), (Nat.le_of_ble_eq_true rfl)⟩) hR hz hS hA (fun H locs hR hz hS => ?_)
      refine lv_istore (lv' := [(15, .int x337), (0, .ref v0), (2, .int v2), (3, .int v3), (6, .int v6), (7, .int v7), (8, .int v8), (9, .int v9), (10, .int v10), (11, .int v11), (12, .int v12), (13, .int v13), (14, .int v14)]) hx hb dL_holds_340 hl (by decide) rfl (fun ls hl => ?_)
      refine lv_iload hx hb dL_holds_342 (lv_at hl 6 rfl) ?_
      refine lv_iload hx hb dL_holds_344 (lv_at hl 0 rfl) ?_
      refine lv_iadd hx hb dL_holds_346 ?_
      refine lv_istore (lv' := [(8, .int (v8 + x337)), (15, .int x337), (0, .ref v0), (2, .int v2), (3, .int v3), (6, .int v6), (7, .int v7), (9, .int v9), (10, .int v10), (11, .int v11), (12, .int v12), (13, .int v13), (14, .int v14)]) hx hb dL_holds_347 hl (by decide) rfl (fun ls hl => ?_)
      refine lv_iload hx hb dL_holds_349 (lv_at hl 7 rfl) ?_
      refine lv_aload_n hx hb dL_holds_351 rfl (lv_at hl 2 rfl) ?_
      refine lv_iload hx hb dL_holds_352 (lv_at hl 10 rfl) ?_
      refine lv_iload hx hb dL_holds_354 (lv_at hl 11 rfl) ?_
      refine lv_iconst (v := 4) hx hb dL_holds_356 (by decide) ?_
      obtain ⟨_, ho9, hrun⟩ := m_bind hrun
      obtain ⟨fs9, ho9⟩ := m_is_spec ho9
      obtain ⟨⟨x357, h357⟩, hc9, hrun⟩ := m_bind hrun
      refine mr_calli (mr_runV (As := [.int v12, .int v13, .int 4]) (rest := [.int v9]) hx hb hml hown hts (c_X7_week l D ids st z (m_ok_spec hc9)) yk_X7_week ys_X7_week wm_1_228 ⟨(Nat.le_of_ble_eq_true rfl), (Nat.le_of_ble_eq_true rfl)⟩ (mr_recv (ci := 5) hR hE hz hS hA rfl ho9) hl.1 rfl (Nat.le_of_ble_eq_true rfl) dL_holds_357 ⟨(Nat.le_of_ble_eq_true rfl), (Nat.le_of_ble_eq_true rfl)⟩) hR hz hS hA (fun H locs hR hz hS => ?_)
      refine lv_iadd hx hb dL_holds_360 ?_
      refine lv_istore (lv' := [(9, .int (v9 + x357)), (8, .int (v8 + x337)), (15, .int x337), (0, .ref v0), (2, .int v2), (3, .int v3), (6, .int v6), (7, .int v7), (10, .int v10), (11, .int v11), (12, .int v12), (13, .int v13), (14, .int v14)]) hx hb dL_holds_361 hl (by decide) rfl (fun ls hl => ?_)
      refine lv_iload hx hb dL_holds_363 (lv_at hl 8 rfl) ?_
      refine lv_aload_n hx hb dL_holds_365 rfl (lv_at hl 3 rfl) ?_
      refine lv_iload hx hb dL_holds_366 (lv_at hl 10 rfl) ?_
      refine lv_iload hx hb dL_holds_368 (lv_at hl 11 rfl) ?_
      refine lv_iconst (v := 1) hx hb dL_holds_370 (by decide) ?_
      obtain ⟨_, ho9, hrun⟩ := m_bind hrun
      obtain ⟨fs9, ho9⟩ := m_is_spec ho9
      obtain ⟨⟨x371, h371⟩, hc9, hrun⟩ := m_bind hrun
      refine mr_calli (mr_runV (As := [.int v12, .int v13, .int 1]) (rest := [.int v10]) hx hb hml hown hts (c_X7_week l D ids st z (m_ok_spec hc9)) yk_X7_week ys_X7_week wm_1_228 ⟨(Nat.le_of_ble_eq_true rfl), (Nat.le_of_ble_eq_true rfl)⟩ (mr_recv (ci := 5) hR hE hz hS hA rfl ho9) hl.1 rfl (Nat.le_of_ble_eq_true rfl) dL_holds_371 ⟨(Nat.le_of_ble_eq_true rfl), (Nat.le_of_ble_eq_true rfl)⟩) hR hz hS hA (fun H locs hR hz hS => ?_)
      refine lv_iadd hx hb dL_holds_374 ?_
      refine lv_istore (lv' := [(10, .int (v10 + x371)), (9, .int (v9 + x357)), (8, .int (v8 + x337)), (15, .int x337), (0, .ref v0), (2, .int v2), (3, .int v3), (6, .int v6), (7, .int v7), (11, .int v11), (12, .int v12), (13, .int v13), (14, .int v14)]) hx hb dL_holds_375 hl (by decide) rfl (fun ls hl => ?_)
      refine lv_iload hx hb dL_holds_377 (lv_at hl 3 rfl) ?_
      refine lv_iload_n hx hb dL_holds_379 rfl (lv_at hl 6 rfl) ?_
      refine lv_icmp_gt (tgt := 444) hx hb dL_holds_380 (by decide) (fun hc => ?_) (fun hc => ?_)
      · have hrun := mt_t hrun hc
        exact k_L_holds_b444 hx hb hr hml hown hts hlocks hin hE hA _ _ _ _ hrun hR hz hS (lv_sub hl [] rfl)
      · have hrun := mt_f hrun hc
        refine lv_iload hx hb dL_holds_383 (lv_at hl 3 rfl) ?_
        refine lv_iload hx hb dL_holds_385 (lv_at hl 12 rfl) ?_
        refine lv_icmp_gt (tgt := 444) hx hb dL_holds_387 (by decide) (fun hc => ?_) (fun hc => ?_)
        · have hrun := mt_t hrun hc
          exact k_L_holds_b444 hx hb hr hml hown hts hlocks hin hE hA _ _ _ _ hrun hR hz hS (lv_sub hl [] rfl)
        · have hrun := mt_f hrun hc
          refine lv_iload hx hb dL_holds_390 (lv_at hl 12 rfl) ?_
          refine lv_aload_n hx hb dL_holds_392 rfl (lv_at hl 4 rfl) ?_
          refine lv_iload hx hb dL_holds_393 (lv_at hl 10 rfl) ?_
          refine lv_iload hx hb dL_holds_395 (lv_at hl 11 rfl) ?_
          refine lv_iconst (v := 2) hx hb dL_holds_397 (by decide) ?_
          obtain ⟨_, ho9, hrun⟩ := m_bind hrun
          obtain ⟨fs9, ho9⟩ := m_is_spec ho9
          obtain ⟨⟨x398, h398⟩, hc9, hrun⟩ := m_bind hrun
          refine mr_calli (mr_runV (As := [.int v12, .int v13, .int 2]) (rest := [.int v14]) hx hb hml hown hts (c_X7_week l D ids st z (m_ok_spec hc9)) yk_X7_week ys_X7_week wm_1_228 ⟨(Nat.le_of_ble_eq_true rfl), (Nat.le_of_ble_eq_true rfl)⟩ (mr_recv (ci := 5) hR hE hz hS hA rfl ho9) hl.1 rfl (Nat.le_of_ble_eq_true rfl) dL_holds_398 ⟨(Nat.le_of_ble_eq_true rfl), (Nat.le_of_ble_eq_true rfl)⟩) hR hz hS hA (fun H locs hR hz hS => ?_)
          refine lv_icmp_ne (tgt := 444) hx hb dL_holds_401 (by decide) (fun hc => ?_) (fun hc => ?_)
          · have hrun := mt_f hrun hc
            exact k_L_holds_b444 hx hb hr hml hown hts hlocks hin hE hA _ _ _ _ hrun hR hz hS (lv_sub hl [] rfl)
          · have hrun := mt_t hrun hc
            refine lv_iload hx hb dL_holds_404 (lv_at hl 12 rfl) ?_
            refine lv_aload_n hx hb dL_holds_406 rfl (lv_at hl 4 rfl) ?_
            refine lv_iload hx hb dL_holds_407 (lv_at hl 10 rfl) ?_
            refine lv_iload hx hb dL_holds_409 (lv_at hl 11 rfl) ?_
            refine lv_iconst (v := 1) hx hb dL_holds_411 (by decide) ?_
            obtain ⟨_, ho9, hrun⟩ := m_bind hrun
            obtain ⟨fs9, ho9⟩ := m_is_spec ho9
            obtain ⟨⟨x412, h412⟩, hc9, hrun⟩ := m_bind hrun
            refine mr_calli (mr_runV (As := [.int v12, .int v13, .int 1]) (rest := [.int v14]) hx hb hml hown hts (c_X7_week l D ids st z (m_ok_spec hc9)) yk_X7_week ys_X7_week wm_1_228 ⟨(Nat.le_of_ble_eq_true rfl), (Nat.le_of_ble_eq_true rfl)⟩ (mr_recv (ci := 5) hR hE hz hS hA rfl ho9) hl.1 rfl (Nat.le_of_ble_eq_true rfl) dL_holds_412 ⟨(Nat.le_of_ble_eq_true rfl), (Nat.le_of_ble_eq_true rfl)⟩) hR hz hS hA (fun H locs hR hz hS => ?_)
            refine lv_icmp_gt (tgt := 444) hx hb dL_holds_415 (by decide) (fun hc => ?_) (fun hc => ?_)
            · have hrun := mt_t hrun hc
              exact k_L_holds_b444 hx hb hr hml hown hts hlocks hin hE hA _ _ _ _ hrun hR hz hS (lv_sub hl [] rfl)
            · have hrun := mt_f hrun hc
              refine lv_iload hx hb dL_holds_418 (lv_at hl 3 rfl) ?_
              refine lv_iload hx hb dL_holds_420 (lv_at hl 12 rfl) ?_
              refine lv_icmp_ge (tgt := 431) hx hb dL_holds_422 (by decide) (fun hc => ?_) (fun hc => ?_)
              · have hrun := mt_t hrun hc
                exact k_L_holds_b431 hx hb hr hml hown hts hlocks hin hE hA hk243 _ _ _ _ _ _ _ _ _ _ _ _ _ _ _ hrun hR hz hS (lv_sub hl [4, 5, 6, 7, 8, 2, 1, 0, 9, 10, 11] rfl)
              · have hrun := mt_f hrun hc
                refine lv_iload hx hb dL_holds_425 (lv_at hl 3 rfl) ?_
                refine lv_iload_n hx hb dL_holds_427 rfl (lv_at hl 6 rfl) ?_
                refine lv_icmp_ne (tgt := 444) hx hb dL_holds_428 (by decide) (fun hc => ?_) (fun hc => ?_)
                · have hrun := mt_f hrun hc
                  exact k_L_holds_b444 hx hb hr hml hown hts hlocks hin hE hA _ _ _ _ hrun hR hz hS (lv_sub hl [] rfl)
                · have hrun := mt_t hrun hc
                  exact k_L_holds_b431 hx hb hr hml hown hts hlocks hin hE hA hk243 _ _ _ _ _ _ _ _ _ _ _ _ _ _ _ hrun hR hz hS (lv_sub hl [4, 5, 6, 7, 8, 2, 1, 0, 9, 10, 11] rfl)
    · have hrun := mt_f hrun hc
      refine lv_aload_n hx hb dL_holds_285 rfl (lv_at hl 0 rfl) ?_
      refine lv_iload hx hb dL_holds_286 (lv_at hl 9 rfl) ?_
      refine lv_iload hx hb dL_holds_288 (lv_at hl 12 rfl) ?_
      refine lv_iconst (v := 3) hx hb dL_holds_290 (by decide) ?_
      obtain ⟨_, ho9, hrun⟩ := m_bind hrun
      obtain ⟨fs9, ho9⟩ := m_is_spec ho9
      obtain ⟨⟨x291, h291⟩, hc9, hrun⟩ := m_bind hrun
      refine mr_calli (mr_runV (As := [.int v12, .int v15, .int 3]) (rest := []) hx hb hml hown hts (c_X7_day l D ids st z (m_ok_spec hc9)) yk_X7_day ys_X7_day wm_2_120 ⟨(Nat.le_of_ble_eq_true rfl), (Nat.le_of_ble_eq_true rfl)⟩ (mr_recv (ci := 5) hR hE hz hS hA rfl ho9) hl.1 rfl (Nat.le_of_ble_eq_true rfl) dL_holds_291 ⟨(Nat.le_of_ble_eq_true rfl), (Nat.le_of_ble_eq_true rfl)⟩) hR hz hS hA (fun H locs hR hz hS => ?_)
      refine lv_istore (lv' := [(16, .int x291), (0, .ref v0), (2, .int v2), (3, .int v3), (6, .int v6), (7, .int v7), (8, .int v8), (9, .int v9), (10, .int v10), (11, .int v11), (12, .int v12), (13, .int v13), (14, .int v14), (15, .int v15)]) hx hb dL_holds_294 hl (by decide) rfl (fun ls hl => ?_)
      refine lv_iload hx hb dL_holds_296 (lv_at hl 12 rfl) ?_
      refine lv_iload hx hb dL_holds_298 (lv_at hl 0 rfl) ?_
      refine lv_iadd hx hb dL_holds_300 ?_
      refine lv_istore (lv' := [(14, .int (v14 + x291)), (16, .int x291), (0, .ref v0), (2, .int v2), (3, .int v3), (6, .int v6), (7, .int v7), (8, .int v8), (9, .int v9), (10, .int v10), (11, .int v11), (12, .int v12), (13, .int v13), (15, .int v15)]) hx hb dL_holds_301 hl (by decide) rfl (fun ls hl => ?_)
      refine lv_iload hx hb dL_holds_303 (lv_at hl 1 rfl) ?_
      refine lv_iload_n hx hb dL_holds_305 rfl (lv_at hl 3 rfl) ?_
      refine lv_icmp_gt (tgt := 323) hx hb dL_holds_306 (by decide) (fun hc => ?_) (fun hc => ?_)
      · have hrun := mt_t hrun hc
        exact k_L_holds_b323 hx hb hr hml hown hts hlocks hin hE hA _ _ _ _ hrun hR hz hS (lv_sub hl [] rfl)
      · have hrun := mt_f hrun hc
        refine lv_iload hx hb dL_holds_309 (lv_at hl 1 rfl) ?_
        refine lv_aload_n hx hb dL_holds_311 rfl (lv_at hl 2 rfl) ?_
        refine lv_iload hx hb dL_holds_312 (lv_at hl 11 rfl) ?_
        refine lv_iload hx hb dL_holds_314 (lv_at hl 13 rfl) ?_
        refine lv_iconst (v := 2) hx hb dL_holds_316 (by decide) ?_
        obtain ⟨_, ho9, hrun⟩ := m_bind hrun
        obtain ⟨fs9, ho9⟩ := m_is_spec ho9
        obtain ⟨⟨x317, h317⟩, hc9, hrun⟩ := m_bind hrun
        refine mr_calli (mr_runV (As := [.int v12, .int v15, .int 2]) (rest := [.int x291]) hx hb hml hown hts (c_X7_day l D ids st z (m_ok_spec hc9)) yk_X7_day ys_X7_day wm_2_120 ⟨(Nat.le_of_ble_eq_true rfl), (Nat.le_of_ble_eq_true rfl)⟩ (mr_recv (ci := 5) hR hE hz hS hA rfl ho9) hl.1 rfl (Nat.le_of_ble_eq_true rfl) dL_holds_317 ⟨(Nat.le_of_ble_eq_true rfl), (Nat.le_of_ble_eq_true rfl)⟩) hR hz hS hA (fun H locs hR hz hS => ?_)
        refine lv_icmp_le (tgt := 325) hx hb dL_holds_320 (by decide) (fun hc => ?_) (fun hc => ?_)
        · have hrun := mt_t hrun hc
          refine lv_iinc (v := v15 + 1) (lv' := [(15, .int (v15 + 1)), (14, .int (v14 + x291)), (16, .int x291), (0, .ref v0), (2, .int v2), (3, .int v3), (6, .int v6), (7, .int v7), (8, .int v8), (9, .int v9), (10, .int v10), (11, .int v11), (12, .int v12), (13, .int v13)]) hx hb dL_holds_325 hl (k := 13) rfl rfl (by decide) rfl (fun ls hl => ?_)
          refine lv_goto (tgt := 272) hx hb dL_holds_328 (by decide) ?_
          exact ih _ _ _ _ _ _ _ _ _ _ _ _ _ _ _ _ _ hrun hR hz hS (lv_sub hl [3, 4, 5, 6, 7, 8, 9, 10, 11, 12, 13, 1, 0] rfl)
        · have hrun := mt_f hrun hc
          exact k_L_holds_b323 hx hb hr hml hown hts hlocks hin hE hA _ _ _ _ hrun hR hz hS (lv_sub hl [] rfl)
set_option maxRecDepth 100000 in
set_option maxHeartbeats 4000000 in
theorem k_L_holds_L243 {p : Program} {l : Launch} {e : Env} {s : State} {m : MethodId} {args : Array Value} {below : List Frame} {meth : Method} {c : Code} {D : va_G} {ids : m_I3} {st : m_T} {A : Nat → Prop} {z : Nat} {r : Int32} {hF : mH} (hx : p.tables.exec = Jvm.exec) (hb : c.code = cL_holds) (hr : meth.sig.returnType = some .boolean) (hml : c.maxLocals = 17) (hown : s.vm.findClass RL = some m.cls) (hts : ∀ w ∈ (m_ws yL_holds cL_holds 17 (some .boolean)), w.before args s = true) (hlocks : meth.locks = false) (hin : meth.name = yL_holds.name) (hE : m_EV st A s s.heap) (hA : ∀ q, s.heap.size ≤ q → A q) : ∀ (n : Nat) (h : mH) (v0 : Nat) (v2 : Int32) (v3 : Int32) (v6 : Int32) (v7 : Int32) (v8 : Int32) (v9 : Int32) (v10 : Int32) (v11 : Int32) (H : Heap) (locs : List Loc) (ls : Array Slot), s_L_holds_L243 st n h v0 v2 v3 v6 v7 v8 v9 v10 v11 = some (r, hF) → Rl D ids A h s H → H.size = z → va_S A s.heap H locs → lv_has ls 17 [(0, .ref v0), (2, .int v2), (3, .int v3), (6, .int v6), (7, .int v7), (8, .int v8), (9, .int v9), (10, .int v10), (11, .int v11)] → W p l e rm_L_holds s m args below meth c H locs 0 0 (MQ below (mQi D ids A r hF z) args s 0 0 A) (F0 m 243 ls []) := by
  intro n
  induction n with
  | zero => intro h v0 v2 v3 v6 v7 v8 v9 v10 v11 H locs ls hrun; exact absurd hrun (by intro h9; cases h9)
  | succ n ih =>
    intro h v0 v2 v3 v6 v7 v8 v9 v10 v11 H locs ls hrun hR hz hS hl
    rw [s_L_holds_L243] at hrun
    refine lv_iload hx hb dL_holds_243 (lv_at hl 8 rfl) ?_
    refine lv_bipush (v := 16) hx hb dL_holds_245 (by decide) ?_
    refine lv_icmp_ge (tgt := 452) hx hb dL_holds_247 (by decide) (fun hc => ?_) (fun hc => ?_)
    · have hrun := mt_t hrun hc
      refine lv_aload_n hx hb dL_holds_452 rfl (lv_at hl 0 rfl) ?_
      obtain ⟨_, ho9, hrun⟩ := m_bind hrun
      obtain ⟨fs9, ho9⟩ := m_is_spec ho9
      obtain ⟨x453, hc9, hrun⟩ := m_bind hrun
      refine mr_calld (mr_runV (As := []) (rest := []) hx hb hml hown hts (c_X7_capShare l D ids st z hc9) yk_X7_capShare ys_X7_capShare wm_2_130 ⟨(Nat.le_of_ble_eq_true rfl), (Nat.le_of_ble_eq_true rfl)⟩ (mr_recv (ci := 5) hR hE hz hS hA rfl ho9) hl.1 rfl (Nat.le_of_ble_eq_true rfl) dL_holds_453 ⟨(Nat.le_of_ble_eq_true rfl), (Nat.le_of_ble_eq_true rfl)⟩) hR hz hS hA (fun H locs hR hz hS => ?_)
      refine lv_dstore (lv' := [(11, .double x453), (0, .ref v0), (2, .int v2), (3, .int v3), (6, .int v6), (7, .int v7), (8, .int v8), (9, .int v9), (10, .int v10)]) hx hb dL_holds_456 hl (by decide) rfl (fun ls hl => ?_)
      refine lv_iload hx hb dL_holds_458 (lv_at hl 8 rfl) ?_
      refine lv_if_ne (tgt := 478) hx hb dL_holds_460 (by decide) (fun hc => ?_) (fun hc => ?_)
      · have hrun := mt_f hrun hc
        refine lv_dload hx hb dL_holds_478 (lv_at hl 0 rfl) ?_
        refine lv_iload hx hb dL_holds_480 (lv_at hl 6 rfl) ?_
        refine lv_i2d hx hb dL_holds_482 ?_
        refine lv_iload hx hb dL_holds_483 (lv_at hl 8 rfl) ?_
        refine lv_i2d hx hb dL_holds_485 ?_
        obtain ⟨x486, hc9, hrun⟩ := m_bind hrun
        obtain ⟨hn9, he9⟩ := m_d_spec hc9
        refine lv_ddiv hx hb dL_holds_486 hn9 ?_
        rw [he9]
        refine lv_dcmp hx hb dL_holds_487 ?_
        refine lv_if_ne (tgt := 509) hx hb dL_holds_488 (by decide) (fun hc => ?_) (fun hc => ?_)
        · have hrun := mt_f hrun hc
          exact k_L_holds_b509 hx hb hr hml hown hts hlocks hin hE hA _ _ _ _ _ _ _ _ _ hrun hR hz hS (lv_sub hl [1, 4, 5, 6, 7] rfl)
        · have hrun := mt_t hrun hc
          refine lv_dload hx hb dL_holds_491 (lv_at hl 0 rfl) ?_
          refine lv_dconst0 hx hb dL_holds_493 ?_
          refine lv_dcmp hx hb dL_holds_494 ?_
          refine lv_if_lt (tgt := 509) hx hb dL_holds_495 (by decide) (fun hc => ?_) (fun hc => ?_)
          · have hrun := mt_t hrun hc
            exact k_L_holds_b509 hx hb hr hml hown hts hlocks hin hE hA _ _ _ _ _ _ _ _ _ hrun hR hz hS (lv_sub hl [1, 4, 5, 6, 7] rfl)
          · have hrun := mt_f hrun hc
            refine lv_dload hx hb dL_holds_498 (lv_at hl 0 rfl) ?_
            refine lv_dconst1 hx hb dL_holds_500 ?_
            refine lv_dcmp hx hb dL_holds_501 ?_
            refine lv_if_gt (tgt := 509) hx hb dL_holds_502 (by decide) (fun hc => ?_) (fun hc => ?_)
            · have hrun := mt_t hrun hc
              exact k_L_holds_b509 hx hb hr hml hown hts hlocks hin hE hA _ _ _ _ _ _ _ _ _ hrun hR hz hS (lv_sub hl [1, 4, 5, 6, 7] rfl)
            · have hrun := mt_f hrun hc
              refine lv_iconst (v := 1) hx hb dL_holds_505 (by decide) ?_
              refine lv_goto (tgt := 510) hx hb dL_holds_506 (by decide) ?_
              exact k_L_holds_b510 hx hb hr hml hown hts hlocks hin hE hA _ _ _ _ _ _ _ _ _ _ hrun hR hz hS (lv_sub hl [1, 4, 5, 6, 7] rfl)
      · have hrun := mt_t hrun hc
        refine lv_dload hx hb dL_holds_463 (lv_at hl 0 rfl) ?_
        refine lv_dconst1 hx hb dL_holds_465 ?_
        refine lv_dcmp hx hb dL_holds_466 ?_
        refine lv_if_ne (tgt := 474) hx hb dL_holds_467 (by decide) (fun hc => ?_) (fun hc => ?_)
        · have hrun := mt_f hrun hc
          refine lv_iconst (v := 0) hx hb dL_holds_474 (by decide) ?_
          refine lv_goto (tgt := 510) hx hb dL_holds_475 (by decide) ?_
          exact k_L_holds_b510 hx hb hr hml hown hts hlocks hin hE hA _ _ _ _ _ _ _ _ _ _ hrun hR hz hS (lv_sub hl [1, 4, 5, 6, 7] rfl)
        · have hrun := mt_t hrun hc
          refine lv_iconst (v := 1) hx hb dL_holds_470 (by decide) ?_
          refine lv_goto (tgt := 510) hx hb dL_holds_471 (by decide) ?_
          exact k_L_holds_b510 hx hb hr hml hown hts hlocks hin hE hA _ _ _ _ _ _ _ _ _ _ hrun hR hz hS (lv_sub hl [1, 4, 5, 6, 7] rfl)
    · have hrun := mt_f hrun hc
      refine lv_iload hx hb dL_holds_250 (lv_at hl 8 rfl) ?_
      refine lv_iconst (v := 4) hx hb dL_holds_252 (by decide) ?_
      obtain ⟨x253, hc9, hrun⟩ := m_bind hrun
      obtain ⟨hn9, rfl⟩ := m_div_spec hc9
      refine lv_idiv hx hb dL_holds_253 hn9 ?_
      refine lv_topi (fun x253 ex253 => ?_)
      try rw [← ex253] at hrun
      refine lv_istore (lv' := [(12, .int x253), (0, .ref v0), (2, .int v2), (3, .int v3), (6, .int v6), (7, .int v7), (8, .int v8), (9, .int v9), (10, .int v10), (11, .int v11)]) hx hb dL_holds_254 hl (by decide) rfl (fun ls hl => ?_)
      refine lv_iload hx hb dL_holds_256 (lv_at hl 9 rfl) ?_
      refine lv_iconst (v := 4) hx hb dL_holds_258 (by decide) ?_
      obtain ⟨x259, hc9, hrun⟩ := m_bind hrun
      obtain ⟨hn9, rfl⟩ := m_rem_spec hc9
      refine lv_irem hx hb dL_holds_259 hn9 ?_
      refine lv_topi (fun x259 ex259 => ?_)
      try rw [← ex259] at hrun
      refine lv_istore (lv' := [(13, .int x259), (12, .int x253), (0, .ref v0), (2, .int v2), (3, .int v3), (6, .int v6), (7, .int v7), (8, .int v8), (9, .int v9), (10, .int v10), (11, .int v11)]) hx hb dL_holds_260 hl (by decide) rfl (fun ls hl => ?_)
      refine lv_iconst (v := 0) hx hb dL_holds_262 (by decide) ?_
      refine lv_istore (lv' := [(14, .int 0), (13, .int x259), (12, .int x253), (0, .ref v0), (2, .int v2), (3, .int v3), (6, .int v6), (7, .int v7), (8, .int v8), (9, .int v9), (10, .int v10), (11, .int v11)]) hx hb dL_holds_263 hl (by decide) rfl (fun ls hl => ?_)
      refine lv_bipush (v := 7) hx hb dL_holds_265 (by decide) ?_
      refine lv_iload hx hb dL_holds_267 (lv_at hl 1 rfl) ?_
      refine lv_imul hx hb dL_holds_269 ?_
      refine lv_istore (lv' := [(15, .int (7 * x259)), (14, .int 0), (13, .int x259), (12, .int x253), (0, .ref v0), (2, .int v2), (3, .int v3), (6, .int v6), (7, .int v7), (8, .int v8), (9, .int v9), (10, .int v10), (11, .int v11)]) hx hb dL_holds_270 hl (by decide) rfl (fun ls hl => ?_)
      exact k_L_holds_L272 hx hb hr hml hown hts hlocks hin hE hA ih _ _ _ _ _ _ _ _ _ _ _ _ _ _ _ _ _ _ hrun hR hz hS (lv_sub hl [4, 5, 6, 7, 8, 9, 10, 11, 12, 3, 2, 1, 0] rfl)
set_option maxRecDepth 100000 in
set_option maxHeartbeats 4000000 in
theorem k_L_holds_b130 {p : Program} {l : Launch} {e : Env} {s : State} {m : MethodId} {args : Array Value} {below : List Frame} {meth : Method} {c : Code} {D : va_G} {ids : m_I3} {st : m_T} {A : Nat → Prop} {z : Nat} {r : Int32} {hF : mH} (hx : p.tables.exec = Jvm.exec) (hb : c.code = cL_holds) (hr : meth.sig.returnType = some .boolean) (hml : c.maxLocals = 17) (hown : s.vm.findClass RL = some m.cls) (hts : ∀ w ∈ (m_ws yL_holds cL_holds 17 (some .boolean)), w.before args s = true) (hlocks : meth.locks = false) (hin : meth.name = yL_holds.name) (hE : m_EV st A s s.heap) (hA : ∀ q, s.heap.size ≤ q → A q) (h : mH) (H : Heap) (locs : List Loc) (ls : Array Slot) (hrun : s_L_holds_b130 st h = some (r, hF)) (hR : Rl D ids A h s H) (hz : H.size = z) (hS : va_S A s.heap H locs) (hl : lv_has ls 17 []) : W p l e rm_L_holds s m args below meth c H locs 0 0 (MQ below (mQi D ids A r hF z) args s 0 0 A) (F0 m 130 ls []) := by
  unfold s_L_holds_b130 at hrun
  refine lv_iconst (v := 0) hx hb dL_holds_130 (by decide) ?_
  obtain ⟨w9, hzr, hrun⟩ := m_bind hrun
  obtain ⟨rfl, rfl⟩ := Prod.mk.inj (Option.some.inj hrun)
  exact mr_zret hzr hx hb hr hlocks hR hz hS dL_holds_131
set_option maxRecDepth 100000 in
set_option maxHeartbeats 4000000 in
theorem k_L_holds_b221 {p : Program} {l : Launch} {e : Env} {s : State} {m : MethodId} {args : Array Value} {below : List Frame} {meth : Method} {c : Code} {D : va_G} {ids : m_I3} {st : m_T} {A : Nat → Prop} {z : Nat} {r : Int32} {hF : mH} (hx : p.tables.exec = Jvm.exec) (hb : c.code = cL_holds) (hr : meth.sig.returnType = some .boolean) (hml : c.maxLocals = 17) (hown : s.vm.findClass RL = some m.cls) (hts : ∀ w ∈ (m_ws yL_holds cL_holds 17 (some .boolean)), w.before args s = true) (hlocks : meth.locks = false) (hin : meth.name = yL_holds.name) (hE : m_EV st A s s.heap) (hA : ∀ q, s.heap.size ≤ q → A q) {k37 : mH → Nat → Int32 → Int32 → Int32 → Int32 → Int32 → Int32 → Int32 → Int32 → Option (Int32 × mH)} (hk37 : ∀ (h : mH) (v0 : Nat) (v1 : Int32) (v2 : Int32) (v3 : Int32) (v4 : Int32) (v5 : Int32) (v6 : Int32) (v7 : Int32) (v8 : Int32) (H : Heap) (locs : List Loc) (ls : Array Slot), k37 h v0 v1 v2 v3 v4 v5 v6 v7 v8 = some (r, hF) → Rl D ids A h s H → H.size = z → va_S A s.heap H locs → lv_has ls 17 [(0, .ref v0), (1, .int v1), (2, .int v2), (3, .int v3), (4, .int v4), (5, .int v5), (6, .int v6), (7, .int v7), (8, .int v8)] → W p l e rm_L_holds s m args below meth c H locs 0 0 (MQ below (mQi D ids A r hF z) args s 0 0 A) (F0 m 37 ls [])) (h : mH) (v0 : Nat) (v1 : Int32) (v2 : Int32) (v3 : Int32) (v4 : Int32) (v6 : Int32) (v7 : Int32) (v8 : Int32) (v9 : Int32) (H : Heap) (locs : List Loc) (ls : Array Slot) (hrun : s_L_holds_b221 st k37 h v0 v1 v2 v3 v4 v6 v7 v8 v9 = some (r, hF)) (hR : Rl D ids A h s H) (hz : H.size = z) (hS : va_S A s.heap H locs) (hl : lv_has ls 17 [(0, .ref v0), (1, .int v1), (2, .int v2), (3, .int v3), (4, .int v4), (6, .int v6), (7, .int v7), (8, .int v8), (9, .int v9)]) : W p l e rm_L_holds s m args below meth c H locs 0 0 (MQ below (mQi D ids A r hF z) args s 0 0 A) (F0 m 221 ls []) := by
  unfold s_L_holds_b221 at hrun
  refine lv_iload hx hb dL_holds_221 (lv_at hl 8 rfl) ?_
  refine lv_istore (lv' := [(5, .int v9), (0, .ref v0), (1, .int v1), (2, .int v2), (3, .int v3), (4, .int v4), (6, .int v6), (7, .int v7), (8, .int v8), (9, .int v9)]) hx hb dL_holds_223 hl (by decide) rfl (fun ls hl => ?_)
  refine lv_iinc (v := v8 + 1) (lv' := [(8, .int (v8 + 1)), (5, .int v9), (0, .ref v0), (1, .int v1), (2, .int v2), (3, .int v3), (4, .int v4), (6, .int v6), (7, .int v7), (9, .int v9)]) hx hb dL_holds_225 hl (k := 8) rfl rfl (by decide) rfl (fun ls hl => ?_)
  refine lv_goto (tgt := 37) hx hb dL_holds_228 (by decide) ?_
  exact hk37 _ _ _ _ _ _ _ _ _ _ _ _ _ hrun hR hz hS (lv_sub hl [2, 3, 4, 5, 6, 1, 7, 8, 0] rfl)
set_option maxRecDepth 100000 in
set_option maxHeartbeats 4000000 in
theorem k_L_holds_b219 {p : Program} {l : Launch} {e : Env} {s : State} {m : MethodId} {args : Array Value} {below : List Frame} {meth : Method} {c : Code} {D : va_G} {ids : m_I3} {st : m_T} {A : Nat → Prop} {z : Nat} {r : Int32} {hF : mH} (hx : p.tables.exec = Jvm.exec) (hb : c.code = cL_holds) (hr : meth.sig.returnType = some .boolean) (hml : c.maxLocals = 17) (hown : s.vm.findClass RL = some m.cls) (hts : ∀ w ∈ (m_ws yL_holds cL_holds 17 (some .boolean)), w.before args s = true) (hlocks : meth.locks = false) (hin : meth.name = yL_holds.name) (hE : m_EV st A s s.heap) (hA : ∀ q, s.heap.size ≤ q → A q) (h : mH) (H : Heap) (locs : List Loc) (ls : Array Slot) (hrun : s_L_holds_b219 st h = some (r, hF)) (hR : Rl D ids A h s H) (hz : H.size = z) (hS : va_S A s.heap H locs) (hl : lv_has ls 17 []) : W p l e rm_L_holds s m args below meth c H locs 0 0 (MQ below (mQi D ids A r hF z) args s 0 0 A) (F0 m 219 ls []) := by
  unfold s_L_holds_b219 at hrun
  refine lv_iconst (v := 0) hx hb dL_holds_219 (by decide) ?_
  obtain ⟨w9, hzr, hrun⟩ := m_bind hrun
  obtain ⟨rfl, rfl⟩ := Prod.mk.inj (Option.some.inj hrun)
  exact mr_zret hzr hx hb hr hlocks hR hz hS dL_holds_220
set_option maxRecDepth 100000 in
set_option maxHeartbeats 4000000 in
theorem k_L_holds_b132 {p : Program} {l : Launch} {e : Env} {s : State} {m : MethodId} {args : Array Value} {below : List Frame} {meth : Method} {c : Code} {D : va_G} {ids : m_I3} {st : m_T} {A : Nat → Prop} {z : Nat} {r : Int32} {hF : mH} (hx : p.tables.exec = Jvm.exec) (hb : c.code = cL_holds) (hr : meth.sig.returnType = some .boolean) (hml : c.maxLocals = 17) (hown : s.vm.findClass RL = some m.cls) (hts : ∀ w ∈ (m_ws yL_holds cL_holds 17 (some .boolean)), w.before args s = true) (hlocks : meth.locks = false) (hin : meth.name = yL_holds.name) (hE : m_EV st A s s.heap) (hA : ∀ q, s.heap.size ≤ q → A q) {k37 : mH → Nat → Int32 → Int32 → Int32 → Int32 → Int32 → Int32 → Int32 → Int32 → Option (Int32 × mH)} (hk37 : ∀ (h : mH) (v0 : Nat) (v1 : Int32) (v2 : Int32) (v3 : Int32) (v4 : Int32) (v5 : Int32) (v6 : Int32) (v7 : Int32) (v8 : Int32) (H : Heap) (locs : List Loc) (ls : Array Slot), k37 h v0 v1 v2 v3 v4 v5 v6 v7 v8 = some (r, hF) → Rl D ids A h s H → H.size = z → va_S A s.heap H locs → lv_has ls 17 [(0, .ref v0), (1, .int v1), (2, .int v2), (3, .int v3), (4, .int v4), (5, .int v5), (6, .int v6), (7, .int v7), (8, .int v8)] → W p l e rm_L_holds s m args below meth c H locs 0 0 (MQ below (mQi D ids A r hF z) args s 0 0 A) (F0 m 37 ls [])) (h : mH) (v0 : Nat) (v1 : Int32) (v2 : Int32) (v3 : Int32) (v4 : Int32) (v6 : Int32) (v7 : Int32) (v8 : Int32) (v9 : Int32) (v10 : Int32) (H : Heap) (locs : List Loc) (ls : Array Slot) (hrun : s_L_holds_b132 st k37 h v0 v1 v2 v3 v4 v6 v7 v8 v9 v10 = some (r, hF)) (hR : Rl D ids A h s H) (hz : H.size = z) (hS : va_S A s.heap H locs) (hl : lv_has ls 17 [(0, .ref v0), (1, .int v1), (2, .int v2), (3, .int v3), (4, .int v4), (6, .int v6), (7, .int v7), (8, .int v8), (9, .int v9), (10, .int v10)]) : W p l e rm_L_holds s m args below meth c H locs 0 0 (MQ below (mQi D ids A r hF z) args s 0 0 A) (F0 m 132 ls []) := by
  unfold s_L_holds_b132 at hrun
  refine lv_iload hx hb dL_holds_132 (lv_at hl 9 rfl) ?_
  refine lv_if_lt (tgt := 221) hx hb dL_holds_134 (by decide) (fun hc => ?_) (fun hc => ?_)
  · have hrun := mt_t hrun hc
    exact k_L_holds_b221 hx hb hr hml hown hts hlocks hin hE hA hk37 _ _ _ _ _ _ _ _ _ _ _ _ _ hrun hR hz hS (lv_sub hl [0, 1, 2, 3, 4, 5, 6, 7, 8] rfl)
  · have hrun := mt_f hrun hc
    refine lv_aload_n hx hb dL_holds_137 rfl (lv_at hl 0 rfl) ?_
    refine lv_iload hx hb dL_holds_138 (lv_at hl 9 rfl) ?_
    refine lv_iconst (v := 5) hx hb dL_holds_140 (by decide) ?_
    obtain ⟨_, ho9, hrun⟩ := m_bind hrun
    obtain ⟨fs9, ho9⟩ := m_is_spec ho9
    obtain ⟨⟨x141, h141⟩, hc9, hrun⟩ := m_bind hrun
    refine mr_calli (mr_runV (As := [.int v10, .int 5]) (rest := []) hx hb hml hown hts (c_X7_tapOf l D ids st z (m_ok_spec hc9)) yk_X7_tapOf ys_X7_tapOf wm_1_190 ⟨(Nat.le_of_ble_eq_true rfl), (Nat.le_of_ble_eq_true rfl)⟩ (mr_recv (ci := 5) hR hE hz hS hA rfl ho9) hl.1 rfl (Nat.le_of_ble_eq_true rfl) dL_holds_141 ⟨(Nat.le_of_ble_eq_true rfl), (Nat.le_of_ble_eq_true rfl)⟩) hR hz hS hA (fun H locs hR hz hS => ?_)
    refine lv_iload hx hb dL_holds_144 (lv_at hl 7 rfl) ?_
    refine lv_icmp_ne (tgt := 219) hx hb dL_holds_146 (by decide) (fun hc => ?_) (fun hc => ?_)
    · have hrun := mt_f hrun hc
      exact k_L_holds_b219 hx hb hr hml hown hts hlocks hin hE hA _ _ _ _ hrun hR hz hS (lv_sub hl [] rfl)
    · have hrun := mt_t hrun hc
      refine lv_aload_n hx hb dL_holds_149 rfl (lv_at hl 0 rfl) ?_
      refine lv_iload hx hb dL_holds_150 (lv_at hl 9 rfl) ?_
      refine lv_iconst (v := 0) hx hb dL_holds_152 (by decide) ?_
      obtain ⟨_, ho9, hrun⟩ := m_bind hrun
      obtain ⟨fs9, ho9⟩ := m_is_spec ho9
      obtain ⟨⟨x153, h153⟩, hc9, hrun⟩ := m_bind hrun
      refine mr_calli (mr_runV (As := [.int v10, .int 0]) (rest := []) hx hb hml hown hts (c_X7_tapOf l D ids st z (m_ok_spec hc9)) yk_X7_tapOf ys_X7_tapOf wm_1_190 ⟨(Nat.le_of_ble_eq_true rfl), (Nat.le_of_ble_eq_true rfl)⟩ (mr_recv (ci := 5) hR hE hz hS hA rfl ho9) hl.1 rfl (Nat.le_of_ble_eq_true rfl) dL_holds_153 ⟨(Nat.le_of_ble_eq_true rfl), (Nat.le_of_ble_eq_true rfl)⟩) hR hz hS hA (fun H locs hR hz hS => ?_)
      refine lv_aload_n hx hb dL_holds_156 rfl (lv_at hl 0 rfl) ?_
      refine lv_iload hx hb dL_holds_157 (lv_at hl 7 rfl) ?_
      refine lv_iconst (v := 0) hx hb dL_holds_159 (by decide) ?_
      obtain ⟨_, ho9, hrun⟩ := m_bind hrun
      obtain ⟨fs9, ho9⟩ := m_is_spec ho9
      obtain ⟨⟨x160, h160⟩, hc9, hrun⟩ := m_bind hrun
      refine mr_calli (mr_runV (As := [.int v8, .int 0]) (rest := [.int x153]) hx hb hml hown hts (c_X7_tapOf l D ids st z (m_ok_spec hc9)) yk_X7_tapOf ys_X7_tapOf wm_1_190 ⟨(Nat.le_of_ble_eq_true rfl), (Nat.le_of_ble_eq_true rfl)⟩ (mr_recv (ci := 5) hR hE hz hS hA rfl ho9) hl.1 rfl (Nat.le_of_ble_eq_true rfl) dL_holds_160 ⟨(Nat.le_of_ble_eq_true rfl), (Nat.le_of_ble_eq_true rfl)⟩) hR hz hS hA (fun H locs hR hz hS => ?_)
      refine lv_icmp_ne (tgt := 219) hx hb dL_holds_163 (by decide) (fun hc => ?_) (fun hc => ?_)
      · have hrun := mt_f hrun hc
        exact k_L_holds_b219 hx hb hr hml hown hts hlocks hin hE hA _ _ _ _ hrun hR hz hS (lv_sub hl [] rfl)
      · have hrun := mt_t hrun hc
        refine lv_aload_n hx hb dL_holds_166 rfl (lv_at hl 0 rfl) ?_
        refine lv_iload hx hb dL_holds_167 (lv_at hl 9 rfl) ?_
        refine lv_iconst (v := 1) hx hb dL_holds_169 (by decide) ?_
        obtain ⟨_, ho9, hrun⟩ := m_bind hrun
        obtain ⟨fs9, ho9⟩ := m_is_spec ho9
        obtain ⟨⟨x170, h170⟩, hc9, hrun⟩ := m_bind hrun
        refine mr_calli (mr_runV (As := [.int v10, .int 1]) (rest := []) hx hb hml hown hts (c_X7_tapOf l D ids st z (m_ok_spec hc9)) yk_X7_tapOf ys_X7_tapOf wm_1_190 ⟨(Nat.le_of_ble_eq_true rfl), (Nat.le_of_ble_eq_true rfl)⟩ (mr_recv (ci := 5) hR hE hz hS hA rfl ho9) hl.1 rfl (Nat.le_of_ble_eq_true rfl) dL_holds_170 ⟨(Nat.le_of_ble_eq_true rfl), (Nat.le_of_ble_eq_true rfl)⟩) hR hz hS hA (fun H locs hR hz hS => ?_)
        refine lv_aload_n hx hb dL_holds_173 rfl (lv_at hl 0 rfl) ?_
        refine lv_iload hx hb dL_holds_174 (lv_at hl 7 rfl) ?_
        refine lv_iconst (v := 1) hx hb dL_holds_176 (by decide) ?_
        obtain ⟨_, ho9, hrun⟩ := m_bind hrun
        obtain ⟨fs9, ho9⟩ := m_is_spec ho9
        obtain ⟨⟨x177, h177⟩, hc9, hrun⟩ := m_bind hrun
        refine mr_calli (mr_runV (As := [.int v8, .int 1]) (rest := [.int x170]) hx hb hml hown hts (c_X7_tapOf l D ids st z (m_ok_spec hc9)) yk_X7_tapOf ys_X7_tapOf wm_1_190 ⟨(Nat.le_of_ble_eq_true rfl), (Nat.le_of_ble_eq_true rfl)⟩ (mr_recv (ci := 5) hR hE hz hS hA rfl ho9) hl.1 rfl (Nat.le_of_ble_eq_true rfl) dL_holds_177 ⟨(Nat.le_of_ble_eq_true rfl), (Nat.le_of_ble_eq_true rfl)⟩) hR hz hS hA (fun H locs hR hz hS => ?_)
        refine lv_icmp_ne (tgt := 219) hx hb dL_holds_180 (by decide) (fun hc => ?_) (fun hc => ?_)
        · have hrun := mt_f hrun hc
          exact k_L_holds_b219 hx hb hr hml hown hts hlocks hin hE hA _ _ _ _ hrun hR hz hS (lv_sub hl [] rfl)
        · have hrun := mt_t hrun hc
          refine lv_aload_n hx hb dL_holds_183 rfl (lv_at hl 0 rfl) ?_
          refine lv_iload hx hb dL_holds_184 (lv_at hl 9 rfl) ?_
          refine lv_iconst (v := 4) hx hb dL_holds_186 (by decide) ?_
          obtain ⟨_, ho9, hrun⟩ := m_bind hrun
          obtain ⟨fs9, ho9⟩ := m_is_spec ho9
          obtain ⟨⟨x187, h187⟩, hc9, hrun⟩ := m_bind hrun
          refine mr_calli (mr_runV (As := [.int v10, .int 4]) (rest := []) hx hb hml hown hts (c_X7_tapOf l D ids st z (m_ok_spec hc9)) yk_X7_tapOf ys_X7_tapOf wm_1_190 ⟨(Nat.le_of_ble_eq_true rfl), (Nat.le_of_ble_eq_true rfl)⟩ (mr_recv (ci := 5) hR hE hz hS hA rfl ho9) hl.1 rfl (Nat.le_of_ble_eq_true rfl) dL_holds_187 ⟨(Nat.le_of_ble_eq_true rfl), (Nat.le_of_ble_eq_true rfl)⟩) hR hz hS hA (fun H locs hR hz hS => ?_)
          refine lv_aload_n hx hb dL_holds_190 rfl (lv_at hl 0 rfl) ?_
          refine lv_iload hx hb dL_holds_191 (lv_at hl 7 rfl) ?_
          refine lv_iconst (v := 4) hx hb dL_holds_193 (by decide) ?_
          obtain ⟨_, ho9, hrun⟩ := m_bind hrun
          obtain ⟨fs9, ho9⟩ := m_is_spec ho9
          obtain ⟨⟨x194, h194⟩, hc9, hrun⟩ := m_bind hrun
          refine mr_calli (mr_runV (As := [.int v8, .int 4]) (rest := [.int x187]) hx hb hml hown hts (c_X7_tapOf l D ids st z (m_ok_spec hc9)) yk_X7_tapOf ys_X7_tapOf wm_1_190 ⟨(Nat.le_of_ble_eq_true rfl), (Nat.le_of_ble_eq_true rfl)⟩ (mr_recv (ci := 5) hR hE hz hS hA rfl ho9) hl.1 rfl (Nat.le_of_ble_eq_true rfl) dL_holds_194 ⟨(Nat.le_of_ble_eq_true rfl), (Nat.le_of_ble_eq_true rfl)⟩) hR hz hS hA (fun H locs hR hz hS => ?_)
          refine lv_icmp_eq (tgt := 219) hx hb dL_holds_197 (by decide) (fun hc => ?_) (fun hc => ?_)
          · have hrun := mt_t hrun hc
            exact k_L_holds_b219 hx hb hr hml hown hts hlocks hin hE hA _ _ _ _ hrun hR hz hS (lv_sub hl [] rfl)
          · have hrun := mt_f hrun hc
            refine lv_aload_n hx hb dL_holds_200 rfl (lv_at hl 0 rfl) ?_
            refine lv_iload hx hb dL_holds_201 (lv_at hl 9 rfl) ?_
            refine lv_bipush (v := 6) hx hb dL_holds_203 (by decide) ?_
            obtain ⟨_, ho9, hrun⟩ := m_bind hrun
            obtain ⟨fs9, ho9⟩ := m_is_spec ho9
            obtain ⟨⟨x205, h205⟩, hc9, hrun⟩ := m_bind hrun
            refine mr_calli (mr_runV (As := [.int v10, .int 6]) (rest := []) hx hb hml hown hts (c_X7_tapOf l D ids st z (m_ok_spec hc9)) yk_X7_tapOf ys_X7_tapOf wm_1_190 ⟨(Nat.le_of_ble_eq_true rfl), (Nat.le_of_ble_eq_true rfl)⟩ (mr_recv (ci := 5) hR hE hz hS hA rfl ho9) hl.1 rfl (Nat.le_of_ble_eq_true rfl) dL_holds_205 ⟨(Nat.le_of_ble_eq_true rfl), (Nat.le_of_ble_eq_true rfl)⟩) hR hz hS hA (fun H locs hR hz hS => ?_)
            refine lv_aload_n hx hb dL_holds_208 rfl (lv_at hl 0 rfl) ?_
            refine lv_iload hx hb dL_holds_209 (lv_at hl 7 rfl) ?_
            refine lv_bipush (v := 6) hx hb dL_holds_211 (by decide) ?_
            obtain ⟨_, ho9, hrun⟩ := m_bind hrun
            obtain ⟨fs9, ho9⟩ := m_is_spec ho9
            obtain ⟨⟨x213, h213⟩, hc9, hrun⟩ := m_bind hrun
            refine mr_calli (mr_runV (As := [.int v8, .int 6]) (rest := [.int x205]) hx hb hml hown hts (c_X7_tapOf l D ids st z (m_ok_spec hc9)) yk_X7_tapOf ys_X7_tapOf wm_1_190 ⟨(Nat.le_of_ble_eq_true rfl), (Nat.le_of_ble_eq_true rfl)⟩ (mr_recv (ci := 5) hR hE hz hS hA rfl ho9) hl.1 rfl (Nat.le_of_ble_eq_true rfl) dL_holds_213 ⟨(Nat.le_of_ble_eq_true rfl), (Nat.le_of_ble_eq_true rfl)⟩) hR hz hS hA (fun H locs hR hz hS => ?_)
            refine lv_icmp_eq (tgt := 221) hx hb dL_holds_216 (by decide) (fun hc => ?_) (fun hc => ?_)
            · have hrun := mt_t hrun hc
              exact k_L_holds_b221 hx hb hr hml hown hts hlocks hin hE hA hk37 _ _ _ _ _ _ _ _ _ _ _ _ _ hrun hR hz hS (lv_sub hl [0, 1, 2, 3, 4, 5, 6, 7, 8] rfl)
            · have hrun := mt_f hrun hc
              exact k_L_holds_b219 hx hb hr hml hown hts hlocks hin hE hA _ _ _ _ hrun hR hz hS (lv_sub hl [] rfl)
set_option maxRecDepth 100000 in
set_option maxHeartbeats 4000000 in
theorem k_L_holds_b103 {p : Program} {l : Launch} {e : Env} {s : State} {m : MethodId} {args : Array Value} {below : List Frame} {meth : Method} {c : Code} {D : va_G} {ids : m_I3} {st : m_T} {A : Nat → Prop} {z : Nat} {r : Int32} {hF : mH} (hx : p.tables.exec = Jvm.exec) (hb : c.code = cL_holds) (hr : meth.sig.returnType = some .boolean) (hml : c.maxLocals = 17) (hown : s.vm.findClass RL = some m.cls) (hts : ∀ w ∈ (m_ws yL_holds cL_holds 17 (some .boolean)), w.before args s = true) (hlocks : meth.locks = false) (hin : meth.name = yL_holds.name) (hE : m_EV st A s s.heap) (hA : ∀ q, s.heap.size ≤ q → A q) {k37 : mH → Nat → Int32 → Int32 → Int32 → Int32 → Int32 → Int32 → Int32 → Int32 → Option (Int32 × mH)} (hk37 : ∀ (h : mH) (v0 : Nat) (v1 : Int32) (v2 : Int32) (v3 : Int32) (v4 : Int32) (v5 : Int32) (v6 : Int32) (v7 : Int32) (v8 : Int32) (H : Heap) (locs : List Loc) (ls : Array Slot), k37 h v0 v1 v2 v3 v4 v5 v6 v7 v8 = some (r, hF) → Rl D ids A h s H → H.size = z → va_S A s.heap H locs → lv_has ls 17 [(0, .ref v0), (1, .int v1), (2, .int v2), (3, .int v3), (4, .int v4), (5, .int v5), (6, .int v6), (7, .int v7), (8, .int v8)] → W p l e rm_L_holds s m args below meth c H locs 0 0 (MQ below (mQi D ids A r hF z) args s 0 0 A) (F0 m 37 ls [])) (h : mH) (v0 : Nat) (v1 : Int32) (v2 : Int32) (v3 : Int32) (v4 : Int32) (v5 : Int32) (v6 : Int32) (v8 : Int32) (v9 : Int32) (v10 : Int32) (t0 : Int32) (t1 : Int32) (H : Heap) (locs : List Loc) (ls : Array Slot) (hrun : s_L_holds_b103 st k37 h v0 v1 v2 v3 v4 v5 v6 v8 v9 v10 t0 t1 = some (r, hF)) (hR : Rl D ids A h s H) (hz : H.size = z) (hS : va_S A s.heap H locs) (hl : lv_has ls 17 [(0, .ref v0), (1, .int v1), (2, .int v2), (3, .int v3), (4, .int v4), (5, .int v5), (6, .int v6), (8, .int v8), (9, .int v9), (10, .int v10)]) : W p l e rm_L_holds s m args below meth c H locs 0 0 (MQ below (mQi D ids A r hF z) args s 0 0 A) (F0 m 103 ls [.int t1, .int t0]) := by
  unfold s_L_holds_b103 at hrun
  refine lv_iadd hx hb dL_holds_103 ?_
  refine lv_istore (lv' := [(7, .int (t0 + t1)), (0, .ref v0), (1, .int v1), (2, .int v2), (3, .int v3), (4, .int v4), (5, .int v5), (6, .int v6), (8, .int v8), (9, .int v9), (10, .int v10)]) hx hb dL_holds_104 hl (by decide) rfl (fun ls hl => ?_)
  refine lv_iload hx hb dL_holds_106 (lv_at hl 9 rfl) ?_
  refine lv_iload hx hb dL_holds_108 (lv_at hl 6 rfl) ?_
  refine lv_icmp_lt (tgt := 130) hx hb dL_holds_110 (by decide) (fun hc => ?_) (fun hc => ?_)
  · have hrun := mt_t hrun hc
    exact k_L_holds_b130 hx hb hr hml hown hts hlocks hin hE hA _ _ _ _ hrun hR hz hS (lv_sub hl [] rfl)
  · have hrun := mt_f hrun hc
    refine lv_iload hx hb dL_holds_113 (lv_at hl 10 rfl) ?_
    refine lv_if_ge (tgt := 132) hx hb dL_holds_115 (by decide) (fun hc => ?_) (fun hc => ?_)
    · have hrun := mt_t hrun hc
      exact k_L_holds_b132 hx hb hr hml hown hts hlocks hin hE hA hk37 _ _ _ _ _ _ _ _ _ _ _ _ _ _ hrun hR hz hS (lv_sub hl [1, 2, 3, 4, 5, 7, 0, 8, 9, 10] rfl)
    · have hrun := mt_f hrun hc
      refine lv_aload_n hx hb dL_holds_118 rfl (lv_at hl 1 rfl) ?_
      refine lv_iload hx hb dL_holds_119 (lv_at hl 8 rfl) ?_
      refine lv_bipush (v := 6) hx hb dL_holds_121 (by decide) ?_
      obtain ⟨_, ho9, hrun⟩ := m_bind hrun
      obtain ⟨fs9, ho9⟩ := m_is_spec ho9
      obtain ⟨⟨x123, h123⟩, hc9, hrun⟩ := m_bind hrun
      refine mr_calli (mr_runV (As := [.int v8, .int 6]) (rest := []) hx hb hml hown hts (c_X7_tapOf l D ids st z (m_ok_spec hc9)) yk_X7_tapOf ys_X7_tapOf wm_1_190 ⟨(Nat.le_of_ble_eq_true rfl), (Nat.le_of_ble_eq_true rfl)⟩ (mr_recv (ci := 5) hR hE hz hS hA rfl ho9) hl.1 rfl (Nat.le_of_ble_eq_true rfl) dL_holds_123 ⟨(Nat.le_of_ble_eq_true rfl), (Nat.le_of_ble_eq_true rfl)⟩) hR hz hS hA (fun H locs hR hz hS => ?_)
      refine lv_iload_n hx hb dL_holds_126 rfl (lv_at hl 2 rfl) ?_
      refine lv_icmp_eq (tgt := 132) hx hb dL_holds_127 (by decide) (fun hc => ?_) (fun hc => ?_)
      · have hrun := mt_t hrun hc
        exact k_L_holds_b132 hx hb hr hml hown hts hlocks hin hE hA hk37 _ _ _ _ _ _ _ _ _ _ _ _ _ _ hrun hR hz hS (lv_sub hl [1, 2, 3, 4, 5, 7, 0, 8, 9, 10] rfl)
      · have hrun := mt_f hrun hc
        exact k_L_holds_b130 hx hb hr hml hown hts hlocks hin hE hA _ _ _ _ hrun hR hz hS (lv_sub hl [] rfl)
set_option maxRecDepth 100000 in
set_option maxHeartbeats 4000000 in
theorem k_L_holds_b86 {p : Program} {l : Launch} {e : Env} {s : State} {m : MethodId} {args : Array Value} {below : List Frame} {meth : Method} {c : Code} {D : va_G} {ids : m_I3} {st : m_T} {A : Nat → Prop} {z : Nat} {r : Int32} {hF : mH} (hx : p.tables.exec = Jvm.exec) (hb : c.code = cL_holds) (hr : meth.sig.returnType = some .boolean) (hml : c.maxLocals = 17) (hown : s.vm.findClass RL = some m.cls) (hts : ∀ w ∈ (m_ws yL_holds cL_holds 17 (some .boolean)), w.before args s = true) (hlocks : meth.locks = false) (hin : meth.name = yL_holds.name) (hE : m_EV st A s s.heap) (hA : ∀ q, s.heap.size ≤ q → A q) {k37 : mH → Nat → Int32 → Int32 → Int32 → Int32 → Int32 → Int32 → Int32 → Int32 → Option (Int32 × mH)} (hk37 : ∀ (h : mH) (v0 : Nat) (v1 : Int32) (v2 : Int32) (v3 : Int32) (v4 : Int32) (v5 : Int32) (v6 : Int32) (v7 : Int32) (v8 : Int32) (H : Heap) (locs : List Loc) (ls : Array Slot), k37 h v0 v1 v2 v3 v4 v5 v6 v7 v8 = some (r, hF) → Rl D ids A h s H → H.size = z → va_S A s.heap H locs → lv_has ls 17 [(0, .ref v0), (1, .int v1), (2, .int v2), (3, .int v3), (4, .int v4), (5, .int v5), (6, .int v6), (7, .int v7), (8, .int v8)] → W p l e rm_L_holds s m args below meth c H locs 0 0 (MQ below (mQi D ids A r hF z) args s 0 0 A) (F0 m 37 ls [])) (h : mH) (v0 : Nat) (v1 : Int32) (v2 : Int32) (v3 : Int32) (v4 : Int32) (v5 : Int32) (v7 : Int32) (v8 : Int32) (v9 : Int32) (v10 : Int32) (t0 : Int32) (t1 : Int32) (H : Heap) (locs : List Loc) (ls : Array Slot) (hrun : s_L_holds_b86 st k37 h v0 v1 v2 v3 v4 v5 v7 v8 v9 v10 t0 t1 = some (r, hF)) (hR : Rl D ids A h s H) (hz : H.size = z) (hS : va_S A s.heap H locs) (hl : lv_has ls 17 [(0, .ref v0), (1, .int v1), (2, .int v2), (3, .int v3), (4, .int v4), (5, .int v5), (7, .int v7), (8, .int v8), (9, .int v9), (10, .int v10)]) : W p l e rm_L_holds s m args below meth c H locs 0 0 (MQ below (mQi D ids A r hF z) args s 0 0 A) (F0 m 86 ls [.int t1, .int t0]) := by
  unfold s_L_holds_b86 at hrun
  refine lv_iadd hx hb dL_holds_86 ?_
  refine lv_istore (lv' := [(6, .int (t0 + t1)), (0, .ref v0), (1, .int v1), (2, .int v2), (3, .int v3), (4, .int v4), (5, .int v5), (7, .int v7), (8, .int v8), (9, .int v9), (10, .int v10)]) hx hb dL_holds_87 hl (by decide) rfl (fun ls hl => ?_)
  refine lv_iload hx hb dL_holds_89 (lv_at hl 7 rfl) ?_
  refine lv_iload hx hb dL_holds_91 (lv_at hl 10 rfl) ?_
  refine lv_iload hx hb dL_holds_93 (lv_at hl 8 rfl) ?_
  refine lv_icmp_le (tgt := 102) hx hb dL_holds_95 (by decide) (fun hc => ?_) (fun hc => ?_)
  · have hrun := mt_t hrun hc
    refine lv_iconst (v := 0) hx hb dL_holds_102 (by decide) ?_
    exact k_L_holds_b103 hx hb hr hml hown hts hlocks hin hE hA hk37 _ _ _ _ _ _ _ _ _ _ _ _ _ _ _ _ hrun hR hz hS (lv_sub hl [1, 2, 3, 4, 5, 6, 0, 8, 9, 10] rfl)
  · have hrun := mt_f hrun hc
    refine lv_iconst (v := 1) hx hb dL_holds_98 (by decide) ?_
    refine lv_goto (tgt := 103) hx hb dL_holds_99 (by decide) ?_
    exact k_L_holds_b103 hx hb hr hml hown hts hlocks hin hE hA hk37 _ _ _ _ _ _ _ _ _ _ _ _ _ _ _ _ hrun hR hz hS (lv_sub hl [1, 2, 3, 4, 5, 6, 0, 8, 9, 10] rfl)
set_option maxRecDepth 100000 in
set_option maxHeartbeats 4000000 in
theorem k_L_holds_L37 {p : Program} {l : Launch} {e : Env} {s : State} {m : MethodId} {args : Array Value} {below : List Frame} {meth : Method} {c : Code} {D : va_G} {ids : m_I3} {st : m_T} {A : Nat → Prop} {z : Nat} {r : Int32} {hF : mH} (hx : p.tables.exec = Jvm.exec) (hb : c.code = cL_holds) (hr : meth.sig.returnType = some .boolean) (hml : c.maxLocals = 17) (hown : s.vm.findClass RL = some m.cls) (hts : ∀ w ∈ (m_ws yL_holds cL_holds 17 (some .boolean)), w.before args s = true) (hlocks : meth.locks = false) (hin : meth.name = yL_holds.name) (hE : m_EV st A s s.heap) (hA : ∀ q, s.heap.size ≤ q → A q) : ∀ (n : Nat) (h : mH) (v0 : Nat) (v1 : Int32) (v2 : Int32) (v3 : Int32) (v4 : Int32) (v5 : Int32) (v6 : Int32) (v7 : Int32) (v8 : Int32) (H : Heap) (locs : List Loc) (ls : Array Slot), s_L_holds_L37 st n h v0 v1 v2 v3 v4 v5 v6 v7 v8 = some (r, hF) → Rl D ids A h s H → H.size = z → va_S A s.heap H locs → lv_has ls 17 [(0, .ref v0), (1, .int v1), (2, .int v2), (3, .int v3), (4, .int v4), (5, .int v5), (6, .int v6), (7, .int v7), (8, .int v8)] → W p l e rm_L_holds s m args below meth c H locs 0 0 (MQ below (mQi D ids A r hF z) args s 0 0 A) (F0 m 37 ls []) := by
  intro n
  induction n with
  | zero => intro h v0 v1 v2 v3 v4 v5 v6 v7 v8 H locs ls hrun; exact absurd hrun (by intro h9; cases h9)
  | succ n ih =>
    intro h v0 v1 v2 v3 v4 v5 v6 v7 v8 H locs ls hrun hR hz hS hl
    rw [s_L_holds_L37] at hrun
    refine lv_iload hx hb dL_holds_37 (lv_at hl 8 rfl) ?_
    refine lv_iload hx hb dL_holds_39 (lv_at hl 4 rfl) ?_
    refine lv_icmp_ge (tgt := 231) hx hb dL_holds_41 (by decide) (fun hc => ?_) (fun hc => ?_)
    · have hrun := mt_t hrun hc
      refine lv_iconst (v := 0) hx hb dL_holds_231 (by decide) ?_
      refine lv_istore (lv' := [(8, .int 0), (0, .ref v0), (1, .int v1), (2, .int v2), (3, .int v3), (4, .int v4), (5, .int v5), (6, .int v6), (7, .int v7)]) hx hb dL_holds_232 hl (by decide) rfl (fun ls hl => ?_)
      refine lv_iconst (v := 0) hx hb dL_holds_234 (by decide) ?_
      refine lv_istore (lv' := [(9, .int 0), (8, .int 0), (0, .ref v0), (1, .int v1), (2, .int v2), (3, .int v3), (4, .int v4), (5, .int v5), (6, .int v6), (7, .int v7)]) hx hb dL_holds_235 hl (by decide) rfl (fun ls hl => ?_)
      refine lv_iconst (v := 0) hx hb dL_holds_237 (by decide) ?_
      refine lv_istore (lv' := [(10, .int 0), (9, .int 0), (8, .int 0), (0, .ref v0), (1, .int v1), (2, .int v2), (3, .int v3), (4, .int v4), (5, .int v5), (6, .int v6), (7, .int v7)]) hx hb dL_holds_238 hl (by decide) rfl (fun ls hl => ?_)
      refine lv_iconst (v := 0) hx hb dL_holds_240 (by decide) ?_
      refine lv_istore (lv' := [(11, .int 0), (10, .int 0), (9, .int 0), (8, .int 0), (0, .ref v0), (1, .int v1), (2, .int v2), (3, .int v3), (4, .int v4), (5, .int v5), (6, .int v6), (7, .int v7)]) hx hb dL_holds_241 hl (by decide) rfl (fun ls hl => ?_)
      exact k_L_holds_L243 hx hb hr hml hown hts hlocks hin hE hA _ _ _ _ _ _ _ _ _ _ _ _ _ _ hrun hR hz hS (lv_sub hl [4, 6, 7, 10, 11, 3, 2, 1, 0] rfl)
    · have hrun := mt_f hrun hc
      refine lv_sipush (v := 1440) hx hb dL_holds_44 (by decide) ?_
      refine lv_aload_n hx hb dL_holds_47 rfl (lv_at hl 0 rfl) ?_
      refine lv_iload hx hb dL_holds_48 (lv_at hl 8 rfl) ?_
      refine lv_iconst (v := 1) hx hb dL_holds_50 (by decide) ?_
      obtain ⟨_, ho9, hrun⟩ := m_bind hrun
      obtain ⟨fs9, ho9⟩ := m_is_spec ho9
      obtain ⟨⟨x51, h51⟩, hc9, hrun⟩ := m_bind hrun
      refine mr_calli (mr_runV (As := [.int v8, .int 1]) (rest := [.int 1440]) hx hb hml hown hts (c_X7_tapOf l D ids st z (m_ok_spec hc9)) yk_X7_tapOf ys_X7_tapOf wm_1_190 ⟨(Nat.le_of_ble_eq_true rfl), (Nat.le_of_ble_eq_true rfl)⟩ (mr_recv (ci := 5) hR hE hz hS hA rfl ho9) hl.1 rfl (Nat.le_of_ble_eq_true rfl) dL_holds_51 ⟨(Nat.le_of_ble_eq_true rfl), (Nat.le_of_ble_eq_true rfl)⟩) hR hz hS hA (fun H locs hR hz hS => ?_)
      refine lv_imul hx hb dL_holds_54 ?_
      refine lv_aload_n hx hb dL_holds_55 rfl (lv_at hl 0 rfl) ?_
      refine lv_iload hx hb dL_holds_56 (lv_at hl 8 rfl) ?_
      refine lv_iconst (v := 2) hx hb dL_holds_58 (by decide) ?_
      obtain ⟨_, ho9, hrun⟩ := m_bind hrun
      obtain ⟨fs9, ho9⟩ := m_is_spec ho9
      obtain ⟨⟨x59, h59⟩, hc9, hrun⟩ := m_bind hrun
      refine mr_calli (mr_runV (As := [.int v8, .int 2]) (rest := [.int (1440 * x51)]) hx hb hml hown hts (c_X7_tapOf l D ids st z (m_ok_spec hc9)) yk_X7_tapOf ys_X7_tapOf wm_1_190 ⟨(Nat.le_of_ble_eq_true rfl), (Nat.le_of_ble_eq_true rfl)⟩ (mr_recv (ci := 5) hR hE hz hS hA rfl ho9) hl.1 rfl (Nat.le_of_ble_eq_true rfl) dL_holds_59 ⟨(Nat.le_of_ble_eq_true rfl), (Nat.le_of_ble_eq_true rfl)⟩) hR hz hS hA (fun H locs hR hz hS => ?_)
      refine lv_iadd hx hb dL_holds_62 ?_
      refine lv_istore (lv' := [(9, .int ((1440 * x51) + x59)), (0, .ref v0), (1, .int v1), (2, .int v2), (3, .int v3), (4, .int v4), (5, .int v5), (6, .int v6), (7, .int v7), (8, .int v8)]) hx hb dL_holds_63 hl (by decide) rfl (fun ls hl => ?_)
      refine lv_aload_n hx hb dL_holds_65 rfl (lv_at hl 1 rfl) ?_
      refine lv_iload hx hb dL_holds_66 (lv_at hl 9 rfl) ?_
      refine lv_iconst (v := 5) hx hb dL_holds_68 (by decide) ?_
      obtain ⟨_, ho9, hrun⟩ := m_bind hrun
      obtain ⟨fs9, ho9⟩ := m_is_spec ho9
      obtain ⟨⟨x69, h69⟩, hc9, hrun⟩ := m_bind hrun
      refine mr_calli (mr_runV (As := [.int v8, .int 5]) (rest := []) hx hb hml hown hts (c_X7_tapOf l D ids st z (m_ok_spec hc9)) yk_X7_tapOf ys_X7_tapOf wm_1_190 ⟨(Nat.le_of_ble_eq_true rfl), (Nat.le_of_ble_eq_true rfl)⟩ (mr_recv (ci := 5) hR hE hz hS hA rfl ho9) hl.1 rfl (Nat.le_of_ble_eq_true rfl) dL_holds_69 ⟨(Nat.le_of_ble_eq_true rfl), (Nat.le_of_ble_eq_true rfl)⟩) hR hz hS hA (fun H locs hR hz hS => ?_)
      refine lv_istore (lv' := [(10, .int x69), (9, .int ((1440 * x51) + x59)), (0, .ref v0), (1, .int v1), (2, .int v2), (3, .int v3), (4, .int v4), (5, .int v5), (6, .int v6), (7, .int v7), (8, .int v8)]) hx hb dL_holds_72 hl (by decide) rfl (fun ls hl => ?_)
      refine lv_iload hx hb dL_holds_74 (lv_at hl 8 rfl) ?_
      refine lv_iload hx hb dL_holds_76 (lv_at hl 0 rfl) ?_
      refine lv_if_ge (tgt := 85) hx hb dL_holds_78 (by decide) (fun hc => ?_) (fun hc => ?_)
      · have hrun := mt_t hrun hc
        refine lv_iconst (v := 0) hx hb dL_holds_85 (by decide) ?_
        exact k_L_holds_b86 hx hb hr hml hown hts hlocks hin hE hA ih _ _ _ _ _ _ _ _ _ _ _ _ _ _ _ _ hrun hR hz hS (lv_sub hl [2, 3, 4, 5, 6, 7, 9, 10, 1, 0] rfl)
      · have hrun := mt_f hrun hc
        refine lv_iconst (v := 1) hx hb dL_holds_81 (by decide) ?_
        refine lv_goto (tgt := 86) hx hb dL_holds_82 (by decide) ?_
        exact k_L_holds_b86 hx hb hr hml hown hts hlocks hin hE hA ih _ _ _ _ _ _ _ _ _ _ _ _ _ _ _ _ hrun hR hz hS (lv_sub hl [2, 3, 4, 5, 6, 7, 9, 10, 1, 0] rfl)
set_option maxRecDepth 100000 in
set_option maxHeartbeats 4000000 in
theorem c_L_holds (l : Launch) (D : va_G) (ids : m_I3) (st : m_T) (z : Nat) {h : mH} {v0 : Nat} {r : Int32} {hF : mH} (hrun : s_L_holds st h v0 = some (r, hF)) : Met l yL_holds (m_ws yL_holds cL_holds 17 (some .boolean)) rm_L_holds (mPc D ids st [.ref v0] h z) (mQi D ids (m_A h z) r hF z) rm_L_holds.cells rm_L_holds.slots (m_A h z) := by
  refine mr_of (cc := cL_holds) (maxL := 17) (ret := some .boolean) (by decide) rfl (Nat.le_of_ble_eq_true rfl) ?_
  intro p e s m below meth c ls hx hb hr hml hown hts hlocks hin hR hE hz hl
  have hA : ∀ q, s.heap.size ≤ q → m_A h z q := fun q hq => Or.inr (by rw [← hz]; exact hq)
  have hS : va_S (m_A h z) s.heap s.heap [] := va_S.rf
  have hl : lv_has ls 17 [(0, .ref v0)] := hl
  unfold s_L_holds at hrun
  refine lv_aload_n hx hb dL_holds_0 rfl (lv_at hl 0 rfl) ?_
  refine lv_iconst (v := 2) hx hb dL_holds_1 (by decide) ?_
  obtain ⟨⟨x2, h2⟩, hc9, hrun⟩ := m_bind hrun
  refine mr_calli (mr_runS (As := [.ref v0, .int 2]) (rest := []) hx hb hml hown hts (c_L_now l D ids st z hc9) yk_L_now ys_L_now wm_2_117 ⟨(Nat.le_of_ble_eq_true rfl), (Nat.le_of_ble_eq_true rfl)⟩ (mr_recvS hR hE hz hS hA) hl.1 rfl (Nat.le_of_ble_eq_true rfl) dL_holds_2 ⟨(Nat.le_of_ble_eq_true rfl), (Nat.le_of_ble_eq_true rfl)⟩) hR hz hS hA (fun H locs hR hz hS => ?_)
  refine lv_istore_n (lv' := [(1, .int x2), (0, .ref v0)]) hx hb dL_holds_5 rfl hl (by decide) rfl (fun ls hl => ?_)
  refine lv_aload_n hx hb dL_holds_6 rfl (lv_at hl 1 rfl) ?_
  refine lv_iconst (v := 4) hx hb dL_holds_7 (by decide) ?_
  obtain ⟨⟨x8, h8⟩, hc9, hrun⟩ := m_bind hrun
  refine mr_calli (mr_runS (As := [.ref v0, .int 4]) (rest := []) hx hb hml hown hts (c_L_now l D ids st z hc9) yk_L_now ys_L_now wm_2_117 ⟨(Nat.le_of_ble_eq_true rfl), (Nat.le_of_ble_eq_true rfl)⟩ (mr_recvS hR hE hz hS hA) hl.1 rfl (Nat.le_of_ble_eq_true rfl) dL_holds_8 ⟨(Nat.le_of_ble_eq_true rfl), (Nat.le_of_ble_eq_true rfl)⟩) hR hz hS hA (fun H locs hR hz hS => ?_)
  refine lv_istore_n (lv' := [(2, .int x8), (1, .int x2), (0, .ref v0)]) hx hb dL_holds_11 rfl hl (by decide) rfl (fun ls hl => ?_)
  refine lv_aload_n hx hb dL_holds_12 rfl (lv_at hl 2 rfl) ?_
  refine lv_iconst (v := 5) hx hb dL_holds_13 (by decide) ?_
  obtain ⟨⟨x14, h14⟩, hc9, hrun⟩ := m_bind hrun
  refine mr_calli (mr_runS (As := [.ref v0, .int 5]) (rest := []) hx hb hml hown hts (c_L_now l D ids st z hc9) yk_L_now ys_L_now wm_2_117 ⟨(Nat.le_of_ble_eq_true rfl), (Nat.le_of_ble_eq_true rfl)⟩ (mr_recvS hR hE hz hS hA) hl.1 rfl (Nat.le_of_ble_eq_true rfl) dL_holds_14 ⟨(Nat.le_of_ble_eq_true rfl), (Nat.le_of_ble_eq_true rfl)⟩) hR hz hS hA (fun H locs hR hz hS => ?_)
  refine lv_istore_n (lv' := [(3, .int x14), (2, .int x8), (1, .int x2), (0, .ref v0)]) hx hb dL_holds_17 rfl hl (by decide) rfl (fun ls hl => ?_)
  refine lv_aload_n hx hb dL_holds_18 rfl (lv_at hl 3 rfl) ?_
  refine lv_iconst (v := 0) hx hb dL_holds_19 (by decide) ?_
  obtain ⟨_, ho9, hrun⟩ := m_bind hrun
  obtain ⟨fs9, ho9⟩ := m_is_spec ho9
  obtain ⟨⟨x20, h20⟩, hc9, hrun⟩ := m_bind hrun
  refine mr_calli (mr_runV (As := [.int 0]) (rest := []) hx hb hml hown hts (c_X7_count l D ids st z (m_ok_spec hc9)) yk_X7_count ys_X7_count wm_1_125 ⟨(Nat.le_of_ble_eq_true rfl), (Nat.le_of_ble_eq_true rfl)⟩ (mr_recv (ci := 5) hR hE hz hS hA rfl ho9) hl.1 rfl (Nat.le_of_ble_eq_true rfl) dL_holds_20 ⟨(Nat.le_of_ble_eq_true rfl), (Nat.le_of_ble_eq_true rfl)⟩) hR hz hS hA (fun H locs hR hz hS => ?_)
  refine lv_istore (lv' := [(4, .int x20), (3, .int x14), (2, .int x8), (1, .int x2), (0, .ref v0)]) hx hb dL_holds_23 hl (by decide) rfl (fun ls hl => ?_)
  refine lv_iconst (v := 0) hx hb dL_holds_25 (by decide) ?_
  refine lv_istore (lv' := [(5, .int 0), (4, .int x20), (3, .int x14), (2, .int x8), (1, .int x2), (0, .ref v0)]) hx hb dL_holds_26 hl (by decide) rfl (fun ls hl => ?_)
  refine lv_iconst (v := 0) hx hb dL_holds_28 (by decide) ?_
  refine lv_istore (lv' := [(6, .int 0), (5, .int 0), (4, .int x20), (3, .int x14), (2, .int x8), (1, .int x2), (0, .ref v0)]) hx hb dL_holds_29 hl (by decide) rfl (fun ls hl => ?_)
  refine lv_iconst (v := 0) hx hb dL_holds_31 (by decide) ?_
  refine lv_istore (lv' := [(7, .int 0), (6, .int 0), (5, .int 0), (4, .int x20), (3, .int x14), (2, .int x8), (1, .int x2), (0, .ref v0)]) hx hb dL_holds_32 hl (by decide) rfl (fun ls hl => ?_)
  refine lv_iconst (v := 0) hx hb dL_holds_34 (by decide) ?_
  refine lv_istore (lv' := [(8, .int 0), (7, .int 0), (6, .int 0), (5, .int 0), (4, .int x20), (3, .int x14), (2, .int x8), (1, .int x2), (0, .ref v0)]) hx hb dL_holds_35 hl (by decide) rfl (fun ls hl => ?_)
  exact k_L_holds_L37 hx hb hr hml hown hts hlocks hin hE hA _ _ _ _ _ _ _ _ _ _ _ _ _ _ hrun hR hz hS (lv_sub hl [8, 7, 6, 5, 4, 3, 2, 1, 0] rfl)
/-! X5_init -/
abbrev rm_X5_init : Room := { frames := 1, cells := 1, slots := 61, locals := 20 }
theorem yk_X5_init : m_K yX5_init cX5_init 1 (none) 0 := ⟨wm_0_34, wm_0_3, by decide +kernel⟩
theorem ys_X5_init : Cond.instanceMethod yX5_init ∈ wT := wm_0_33
set_option maxRecDepth 100000 in
set_option maxHeartbeats 4000000 in
theorem c_X5_init (l : Launch) (D : va_G) (ids : m_I3) (st : m_T) (z : Nat) {h : mH} {v0 : Nat} {hF : mH} {zF : Nat} (hrun : s_X5_init h z v0 = some (hF, zF)) : Met l yX5_init (m_ws yX5_init cX5_init 1 (none)) rm_X5_init (mPc D ids st [.ref v0] h z) (mQv D ids (m_A h z) hF zF) rm_X5_init.cells rm_X5_init.slots (m_A h z) := by
  refine mr_of (cc := cX5_init) (maxL := 1) (ret := none) (by decide) rfl (Nat.le_of_ble_eq_true rfl) ?_
  intro p e s m below meth c ls hx hb hr hml hown hts hlocks hin hR hE hz hl
  have hA : ∀ q, s.heap.size ≤ q → m_A h z q := fun q hq => Or.inr (by rw [← hz]; exact hq)
  have hS : va_S (m_A h z) s.heap s.heap [] := va_S.rf
  have hl : lv_has ls 1 [(0, .ref v0)] := hl
  unfold s_X5_init at hrun
  refine lv_aload_n hx hb dX5_init_0 rfl (lv_at hl 0 rfl) ?_
  refine W.objInit hx hb hown (hts _ (m_ws_in wm_0_35)) (hts _ (m_ws_in wm_0_22)) (hts _ (m_ws_in wm_0_23)) rfl (by rw [hml]; exact hl.1) rfl dX5_init_1 (Nat.le_of_ble_eq_true rfl) (Nat.le_of_ble_eq_true rfl) ?_
  refine W.eq (g2 := F0 m 4 ls []) rfl ?_
  refine lv_aload_n hx hb dX5_init_4 rfl (lv_at hl 0 rfl) ?_
  refine lv_bipush (v := 61) hx hb dX5_init_5 (by decide) ?_
  obtain ⟨h7, hc9, hrun⟩ := m_bind hrun
  refine mr_newi (N := 61) hx hb (hts _ (m_ws_in wm_0_45)) hR hz hS hA (by decide) (by decide) (Nat.le_of_ble_eq_true rfl) (Nat.le_of_ble_eq_true rfl) (Nat.le_of_ble_eq_true rfl) dX5_init_7 (fun H hR hz hS => ?_)
  rw [Option.some.inj hc9] at hR
  obtain ⟨h9, hc9, hrun⟩ := m_bind hrun
  refine mr_putF (C := RX5) (T := TX5) (N := 2) (ci := 3) hx hb hts (fun w q => m_ws_in (wi_X5 w q)) tyX5 tyX5_ok nmX5 hown hR hz hS rfl 0 (by decide) (hts _ (m_ws_in wm_0_36)) (fun _ h9 => h9) rfl hin rfl (tyX5_ok 0 (by decide)) rfl rfl hc9 dX5_init_9 (fun H locs hR hz hS => ?_)
  refine lv_aload_n hx hb dX5_init_12 rfl (lv_at hl 0 rfl) ?_
  refine lv_iconst (v := 0) hx hb dX5_init_13 (by decide) ?_
  obtain ⟨h14, hc9, hrun⟩ := m_bind hrun
  refine mr_put (C := RX5) (T := TX5) (N := 2) (ci := 3) hx hb hts (fun w q => m_ws_in (wi_X5 w q)) tyX5 tyX5_ok nmX5 hown hR hz hS rfl 1 (by decide) (hts _ (m_ws_in wm_0_37)) (fun _ h9 => h9) rfl (tyX5_ok 1 (by decide)) rfl rfl hc9 dX5_init_14 (fun H locs hR hz hS => ?_)
  obtain ⟨rfl, rfl⟩ := Prod.mk.inj (Option.some.inj hrun)
  refine W.widen (k := 1) (n := 61) (Nat.le_of_ble_eq_true rfl) (Nat.le_of_ble_eq_true rfl) ?_
  exact mr_vret hx hb hr hlocks hR hz hS dX5_init_17
/-! X3_init -/
abbrev rm_X3_init : Room := { frames := 2, cells := 8, slots := 181, locals := 40 }
theorem yk_X3_init : m_K yX3_init cX3_init 1 (none) 0 := ⟨wm_0_28, wm_0_2, by decide +kernel⟩
theorem ys_X3_init : Cond.instanceMethod yX3_init ∈ wT := wm_0_27
set_option maxRecDepth 100000 in
set_option maxHeartbeats 4000000 in
theorem c_X3_init (l : Launch) (D : va_G) (ids : m_I3) (st : m_T) (z : Nat) {h : mH} {v0 : Nat} {hF : mH} {zF : Nat} (hrun : s_X3_init st h z v0 = some (hF, zF)) : Met l yX3_init (m_ws yX3_init cX3_init 1 (none)) rm_X3_init (mPc D ids st [.ref v0] h z) (mQv D ids (m_A h z) hF zF) rm_X3_init.cells rm_X3_init.slots (m_A h z) := by
  refine mr_of (cc := cX3_init) (maxL := 1) (ret := none) (by decide) rfl (Nat.le_of_ble_eq_true rfl) ?_
  intro p e s m below meth c ls hx hb hr hml hown hts hlocks hin hR hE hz hl
  have hA : ∀ q, s.heap.size ≤ q → m_A h z q := fun q hq => Or.inr (by rw [← hz]; exact hq)
  have hS : va_S (m_A h z) s.heap s.heap [] := va_S.rf
  have hl : lv_has ls 1 [(0, .ref v0)] := hl
  unfold s_X3_init at hrun
  refine lv_aload_n hx hb dX3_init_0 rfl (lv_at hl 0 rfl) ?_
  refine W.objInit hx hb hown (hts _ (m_ws_in wm_0_29)) (hts _ (m_ws_in wm_0_22)) (hts _ (m_ws_in wm_0_23)) rfl (by rw [hml]; exact hl.1) rfl dX3_init_1 (Nat.le_of_ble_eq_true rfl) (Nat.le_of_ble_eq_true rfl) ?_
  refine W.eq (g2 := F0 m 4 ls []) rfl ?_
  refine lv_aload_n hx hb dX3_init_4 rfl (lv_at hl 0 rfl) ?_
  obtain ⟨h5, hc9, hrun⟩ := m_bind hrun
  refine mr_new (C := RX5) (T := TX5) (N := 2) (ci := 3) (fs := [.null, .int 0]) hx hb hts (fun w q => m_ws_in (wi_X5 w q)) tyX5 tyX5_ok hown (hts _ (m_ws_in wm_0_30)) (hts _ (m_ws_in wm_0_31)) (hts _ (m_ws_in wm_0_3)) hR hz hS hA rfl (fun j hj => by rcases (show j = 0 ∨ j = 1 by omega) with rfl | rfl <;> rfl) (Nat.le_of_ble_eq_true rfl) (Nat.le_of_ble_eq_true rfl) dX3_init_5 (fun H hR hz hS => ?_)
  rw [Option.some.inj hc9] at hR
  refine lv_dup hx hb dX3_init_8 rfl ?_
  obtain ⟨⟨h9, z9⟩, hc9, hrun⟩ := m_bind hrun
  refine mr_callv (mr_runI (As := []) (rest := [.ref z, .ref v0]) hx hb hml hown hts (c_X5_init l D ids st (z + 1) hc9) yk_X5_init ys_X5_init rfl wm_0_32 ⟨(Nat.le_of_ble_eq_true rfl), (Nat.le_of_ble_eq_true rfl)⟩ (mr_recvS hR hE hz hS hA) hl.1 rfl (Nat.le_of_ble_eq_true rfl) dX3_init_9 ⟨(Nat.le_of_ble_eq_true rfl), (Nat.le_of_ble_eq_true rfl)⟩) hR hz hS hA (fun H locs hR hz hS => ?_)
  obtain ⟨h12, hc9, hrun⟩ := m_bind hrun
  refine mr_putF (C := RX3) (T := TX3) (N := 10) (ci := 2) hx hb hts (fun w q => m_ws_in (wi_X3 w q)) tyX3 tyX3_ok nmX3 hown hR hz hS rfl 0 (by decide) (hts _ (m_ws_in wm_0_54)) (fun _ h9 => h9) rfl hin rfl (tyX3_ok 0 (by decide)) rfl rfl hc9 dX3_init_12 (fun H locs hR hz hS => ?_)
  refine lv_aload_n hx hb dX3_init_15 rfl (lv_at hl 0 rfl) ?_
  refine lv_bipush (v := 6) hx hb dX3_init_16 (by decide) ?_
  obtain ⟨h18, hc9, hrun⟩ := m_bind hrun
  refine mr_newi (N := 6) hx hb (hts _ (m_ws_in wm_0_45)) hR hz hS hA (by decide) (by decide) (Nat.le_of_ble_eq_true rfl) (Nat.le_of_ble_eq_true rfl) (Nat.le_of_ble_eq_true rfl) dX3_init_18 (fun H hR hz hS => ?_)
  rw [Option.some.inj hc9] at hR
  obtain ⟨h20, hc9, hrun⟩ := m_bind hrun
  refine mr_putF (C := RX3) (T := TX3) (N := 10) (ci := 2) hx hb hts (fun w q => m_ws_in (wi_X3 w q)) tyX3 tyX3_ok nmX3 hown hR hz hS rfl 1 (by decide) (hts _ (m_ws_in wm_0_56)) (fun _ h9 => h9) rfl hin rfl (tyX3_ok 1 (by decide)) rfl rfl hc9 dX3_init_20 (fun H locs hR hz hS => ?_)
  refine lv_aload_n hx hb dX3_init_23 rfl (lv_at hl 0 rfl) ?_
  refine lv_bipush (v := 16) hx hb dX3_init_24 (by decide) ?_
  obtain ⟨h26, hc9, hrun⟩ := m_bind hrun
  refine mr_newi (N := 16) hx hb (hts _ (m_ws_in wm_0_45)) hR hz hS hA (by decide) (by decide) (Nat.le_of_ble_eq_true rfl) (Nat.le_of_ble_eq_true rfl) (Nat.le_of_ble_eq_true rfl) dX3_init_26 (fun H hR hz hS => ?_)
  rw [Option.some.inj hc9] at hR
  obtain ⟨h28, hc9, hrun⟩ := m_bind hrun
  refine mr_putF (C := RX3) (T := TX3) (N := 10) (ci := 2) hx hb hts (fun w q => m_ws_in (wi_X3 w q)) tyX3 tyX3_ok nmX3 hown hR hz hS rfl 2 (by decide) (hts _ (m_ws_in wm_0_58)) (fun _ h9 => h9) rfl hin rfl (tyX3_ok 2 (by decide)) rfl rfl hc9 dX3_init_28 (fun H locs hR hz hS => ?_)
  refine lv_aload_n hx hb dX3_init_31 rfl (lv_at hl 0 rfl) ?_
  refine lv_bipush (v := 16) hx hb dX3_init_32 (by decide) ?_
  obtain ⟨h34, hc9, hrun⟩ := m_bind hrun
  refine mr_newi (N := 16) hx hb (hts _ (m_ws_in wm_0_45)) hR hz hS hA (by decide) (by decide) (Nat.le_of_ble_eq_true rfl) (Nat.le_of_ble_eq_true rfl) (Nat.le_of_ble_eq_true rfl) dX3_init_34 (fun H hR hz hS => ?_)
  rw [Option.some.inj hc9] at hR
  obtain ⟨h36, hc9, hrun⟩ := m_bind hrun
  refine mr_putF (C := RX3) (T := TX3) (N := 10) (ci := 2) hx hb hts (fun w q => m_ws_in (wi_X3 w q)) tyX3 tyX3_ok nmX3 hown hR hz hS rfl 3 (by decide) (hts _ (m_ws_in wm_0_60)) (fun _ h9 => h9) rfl hin rfl (tyX3_ok 3 (by decide)) rfl rfl hc9 dX3_init_36 (fun H locs hR hz hS => ?_)
  refine lv_aload_n hx hb dX3_init_39 rfl (lv_at hl 0 rfl) ?_
  refine lv_bipush (v := 16) hx hb dX3_init_40 (by decide) ?_
  obtain ⟨h42, hc9, hrun⟩ := m_bind hrun
  refine mr_newi (N := 16) hx hb (hts _ (m_ws_in wm_0_45)) hR hz hS hA (by decide) (by decide) (Nat.le_of_ble_eq_true rfl) (Nat.le_of_ble_eq_true rfl) (Nat.le_of_ble_eq_true rfl) dX3_init_42 (fun H hR hz hS => ?_)
  rw [Option.some.inj hc9] at hR
  obtain ⟨h44, hc9, hrun⟩ := m_bind hrun
  refine mr_putF (C := RX3) (T := TX3) (N := 10) (ci := 2) hx hb hts (fun w q => m_ws_in (wi_X3 w q)) tyX3 tyX3_ok nmX3 hown hR hz hS rfl 4 (by decide) (hts _ (m_ws_in wm_0_62)) (fun _ h9 => h9) rfl hin rfl (tyX3_ok 4 (by decide)) rfl rfl hc9 dX3_init_44 (fun H locs hR hz hS => ?_)
  refine lv_aload_n hx hb dX3_init_47 rfl (lv_at hl 0 rfl) ?_
  refine lv_bipush (v := 32) hx hb dX3_init_48 (by decide) ?_
  obtain ⟨h50, hc9, hrun⟩ := m_bind hrun
  refine mr_newi (N := 32) hx hb (hts _ (m_ws_in wm_0_45)) hR hz hS hA (by decide) (by decide) (Nat.le_of_ble_eq_true rfl) (Nat.le_of_ble_eq_true rfl) (Nat.le_of_ble_eq_true rfl) dX3_init_50 (fun H hR hz hS => ?_)
  rw [Option.some.inj hc9] at hR
  obtain ⟨h52, hc9, hrun⟩ := m_bind hrun
  refine mr_putF (C := RX3) (T := TX3) (N := 10) (ci := 2) hx hb hts (fun w q => m_ws_in (wi_X3 w q)) tyX3 tyX3_ok nmX3 hown hR hz hS rfl 5 (by decide) (hts _ (m_ws_in wm_0_64)) (fun _ h9 => h9) rfl hin rfl (tyX3_ok 5 (by decide)) rfl rfl hc9 dX3_init_52 (fun H locs hR hz hS => ?_)
  refine lv_aload_n hx hb dX3_init_55 rfl (lv_at hl 0 rfl) ?_
  refine lv_bipush (v := 32) hx hb dX3_init_56 (by decide) ?_
  obtain ⟨h58, hc9, hrun⟩ := m_bind hrun
  refine mr_newi (N := 32) hx hb (hts _ (m_ws_in wm_0_45)) hR hz hS hA (by decide) (by decide) (Nat.le_of_ble_eq_true rfl) (Nat.le_of_ble_eq_true rfl) (Nat.le_of_ble_eq_true rfl) dX3_init_58 (fun H hR hz hS => ?_)
  rw [Option.some.inj hc9] at hR
  obtain ⟨h60, hc9, hrun⟩ := m_bind hrun
  refine mr_putF (C := RX3) (T := TX3) (N := 10) (ci := 2) hx hb hts (fun w q => m_ws_in (wi_X3 w q)) tyX3 tyX3_ok nmX3 hown hR hz hS rfl 6 (by decide) (hts _ (m_ws_in wm_0_65)) (fun _ h9 => h9) rfl hin rfl (tyX3_ok 6 (by decide)) rfl rfl hc9 dX3_init_60 (fun H locs hR hz hS => ?_)
  refine lv_aload_n hx hb dX3_init_63 rfl (lv_at hl 0 rfl) ?_
  refine lv_iconst (v := 0) hx hb dX3_init_64 (by decide) ?_
  obtain ⟨h65, hc9, hrun⟩ := m_bind hrun
  refine mr_put (C := RX3) (T := TX3) (N := 10) (ci := 2) hx hb hts (fun w q => m_ws_in (wi_X3 w q)) tyX3 tyX3_ok nmX3 hown hR hz hS rfl 7 (by decide) (hts _ (m_ws_in wm_0_66)) (fun _ h9 => h9) rfl (tyX3_ok 7 (by decide)) rfl rfl hc9 dX3_init_65 (fun H locs hR hz hS => ?_)
  refine lv_aload_n hx hb dX3_init_68 rfl (lv_at hl 0 rfl) ?_
  refine lv_iconst (v := 0) hx hb dX3_init_69 (by decide) ?_
  obtain ⟨h70, hc9, hrun⟩ := m_bind hrun
  refine mr_put (C := RX3) (T := TX3) (N := 10) (ci := 2) hx hb hts (fun w q => m_ws_in (wi_X3 w q)) tyX3 tyX3_ok nmX3 hown hR hz hS rfl 8 (by decide) (hts _ (m_ws_in wm_0_68)) (fun _ h9 => h9) rfl (tyX3_ok 8 (by decide)) rfl rfl hc9 dX3_init_70 (fun H locs hR hz hS => ?_)
  refine lv_aload_n hx hb dX3_init_73 rfl (lv_at hl 0 rfl) ?_
  refine lv_iconst (v := 0) hx hb dX3_init_74 (by decide) ?_
  obtain ⟨h75, hc9, hrun⟩ := m_bind hrun
  refine mr_put (C := RX3) (T := TX3) (N := 10) (ci := 2) hx hb hts (fun w q => m_ws_in (wi_X3 w q)) tyX3 tyX3_ok nmX3 hown hR hz hS rfl 9 (by decide) (hts _ (m_ws_in wm_0_70)) (fun _ h9 => h9) rfl (tyX3_ok 9 (by decide)) rfl rfl hc9 dX3_init_75 (fun H locs hR hz hS => ?_)
  refine mr_getsN (n := "FIRST_VALUES") (k := 0) hx hb hE (List.mem_of_getElem? (i := 0) rfl) hS hown (hE.nf (i := 2) rfl) dX3_init_78 ?_
  refine lv_aload_n hx hb dX3_init_81 rfl (lv_at hl 0 rfl) ?_
  obtain ⟨x82, hc9, hrun⟩ := m_bind hrun
  refine mr_get (C := RX3) (T := TX3) (N := 10) (ci := 2) hx hb hts (fun w q => m_ws_in (wi_X3 w q)) hown hR rfl 1 (by decide) (hts _ (m_ws_in wm_0_56)) (fun _ h9 => h9) (m_gr_spec hc9) dX3_init_82 ?_
  obtain ⟨h85, hc9, hrun⟩ := m_bind hrun
  refine mr_callv (mr_runS (As := [.ref (st.2 0), .ref x82]) (rest := []) hx hb hml hown hts (c_X1_copy l D ids st (z9 + 1 + 1 + 1 + 1 + 1 + 1) hc9) yk_X1_copy ys_X1_copy wm_0_48 ⟨(Nat.le_of_ble_eq_true rfl), (Nat.le_of_ble_eq_true rfl)⟩ (mr_recvS hR hE hz hS hA) hl.1 rfl (Nat.le_of_ble_eq_true rfl) dX3_init_85 ⟨(Nat.le_of_ble_eq_true rfl), (Nat.le_of_ble_eq_true rfl)⟩) hR hz hS hA (fun H locs hR hz hS => ?_)
  refine lv_aload_n hx hb dX3_init_88 rfl (lv_at hl 0 rfl) ?_
  obtain ⟨x89, hc9, hrun⟩ := m_bind hrun
  refine mr_get (C := RX3) (T := TX3) (N := 10) (ci := 2) hx hb hts (fun w q => m_ws_in (wi_X3 w q)) hown hR rfl 5 (by decide) (hts _ (m_ws_in wm_0_64)) (fun _ h9 => h9) (m_gr_spec hc9) dX3_init_89 ?_
  refine lv_iconst (v := (-1)) hx hb dX3_init_92 (by decide) ?_
  obtain ⟨h93, hc9, hrun⟩ := m_bind hrun
  refine mr_callv (mr_runS (As := [.ref x89, .int (-1)]) (rest := []) hx hb hml hown hts (c_X1_fill l D ids st (z9 + 1 + 1 + 1 + 1 + 1 + 1) hc9) yk_X1_fill ys_X1_fill wm_0_51 ⟨(Nat.le_of_ble_eq_true rfl), (Nat.le_of_ble_eq_true rfl)⟩ (mr_recvS hR hE hz hS hA) hl.1 rfl (Nat.le_of_ble_eq_true rfl) dX3_init_93 ⟨(Nat.le_of_ble_eq_true rfl), (Nat.le_of_ble_eq_true rfl)⟩) hR hz hS hA (fun H locs hR hz hS => ?_)
  refine lv_aload_n hx hb dX3_init_96 rfl (lv_at hl 0 rfl) ?_
  obtain ⟨x97, hc9, hrun⟩ := m_bind hrun
  refine mr_get (C := RX3) (T := TX3) (N := 10) (ci := 2) hx hb hts (fun w q => m_ws_in (wi_X3 w q)) hown hR rfl 6 (by decide) (hts _ (m_ws_in wm_0_65)) (fun _ h9 => h9) (m_gr_spec hc9) dX3_init_97 ?_
  refine lv_iconst (v := (-1)) hx hb dX3_init_100 (by decide) ?_
  obtain ⟨h101, hc9, hrun⟩ := m_bind hrun
  refine mr_callv (mr_runS (As := [.ref x97, .int (-1)]) (rest := []) hx hb hml hown hts (c_X1_fill l D ids st (z9 + 1 + 1 + 1 + 1 + 1 + 1) hc9) yk_X1_fill ys_X1_fill wm_0_51 ⟨(Nat.le_of_ble_eq_true rfl), (Nat.le_of_ble_eq_true rfl)⟩ (mr_recvS hR hE hz hS hA) hl.1 rfl (Nat.le_of_ble_eq_true rfl) dX3_init_101 ⟨(Nat.le_of_ble_eq_true rfl), (Nat.le_of_ble_eq_true rfl)⟩) hR hz hS hA (fun H locs hR hz hS => ?_)
  obtain ⟨rfl, rfl⟩ := Prod.mk.inj (Option.some.inj hrun)
  refine W.widen (k := 8) (n := 181) (Nat.le_of_ble_eq_true rfl) (Nat.le_of_ble_eq_true rfl) ?_
  exact mr_vret hx hb hr hlocks hR hz hS dX3_init_104
