/-! THE CLAIM OUT OF ONE WALK OF THE LAW'S BODY. Your part is whole_start (and what it stands on); all else here is the same for every law, but numbers. -/
def R_law : String := "CapWalletsLaw"
def lw_P (b : Addr) (xs : List Int32) (args : Array Value) (s : State) : Prop := args = #[.ref b] ∧ s.IntsAt b xs ∧ xs.length ≤ 260 ∧ (Jvm.Cond.and given_1 narrow_1).before args s = true
/-- what a walk over the start with the record d0 says of its end, said of the start itself -/
theorem lw_closed {s t : State} {o : Outcome} {d0 : Drawn} {L : List Loc} {k n : Nat} (hd0 : s.drawn.sameBut d0 lw_cs) (hv : ∃ v, o = .returned v) (hW : (s.setDrawn d0).WarmedH t.vm) (hs : (s.setDrawn d0).sameButNew ({ t with vm := s.vm } : State) L k n) : State.butDraws s t lw_cs (fun t1 => Framed s o t1 L k n) := by
  have h2 : t.drawn = d0 := congrArg State.drawn hs.1
  refine ⟨⟨hv, hW, State.sameButNew.setDrawn hs s.drawn⟩, ?_, by decide⟩
  rw [h2]
  exact hd0
def lw_Q (_ : Array Value) (s : State) (o : Outcome) (t : State) : Prop := o = .returned (some (.int 1)) ∧ State.butDraws s t lw_cs (fun t1 => Framed s o t1 [] 600086 7301442)
def lw_Z (below : List Frame) (a : Array Value) (s : State) : State → Prop := fun t => ∃ o, t.status = .running ∧ Ended t below o ∧ lw_Q a s o t
/-- the law's own end, with 1 on the stack, nothing written that was there before, its room as the claim has it; d0: the record of draws at this point (at the entry s.drawn: begin with 'refine W.base ?_' and 'have hd0 := Drawn.sameBut.refl s.drawn lw_cs') -/
theorem lw_ret {p : Program} {l : Launch} {e : Env} {s : State} {m : MethodId} {below : List Frame} {meth : Method} {c : Code} {b : Nat} {d0 : Drawn} (hd0 : s.drawn.sameBut d0 lw_cs) (hx : p.tables.exec = Jvm.exec) (hb : c.code = code) (hr : meth.sig.returnType = ret) (hlocks : meth.locks = false) {pc : Nat} {H : Heap} {ls : Array Slot} (hdg : decode code pc = .ok (.ireturn, 1)) : W p l e room_1 (s.setDrawn d0) m #[Value.ref b] below meth c H [] 600086 7301442 (lw_Z below #[Value.ref b] s) (F0 m pc ls [.int 1]) := by
  intro T hT X
  obtain ⟨fs, hret, hrun, hended, hW, hframe⟩ := X.leave (v := some (.int 1)) (hlocks := hlocks) (fun h => by rw [hr] at h; cases h)
  have hmeth' : T.vm.method? m = some meth := X.method'
  refine ⟨T.setFrames fs, ?_, .returned (some (.int 1)), hrun, hended, rfl, lw_closed hd0 ⟨_, rfl⟩ hW hframe⟩
  jvm_step X.here [X.here.top, hx, hb, hdg, hmeth', hr, ret, narrow_b1]
  (try refine ⟨rfl, ?_⟩); (try refine ⟨rfl, ?_⟩)
  first | (intro acts; rw [hret _ acts rfl rfl rfl]) | rw [hret _ _ rfl rfl rfl]
  exact Steps.refl _
/-- what holds at the law's entry: the machine, the code, the tables' words (any of lw_tbl by 'hts w (by decide +kernel)'), the script of L ints xs at the cell b, what the Statement gives of the start (any of its parts by flat_of_before) -/
def lw_At (p : Program) (s : State) (m : MethodId) (meth : Method) (c : Code) (b L : Nat) (xs : Nat → Int32) : Prop :=
  p.tables.exec = Jvm.exec ∧ c.code = code ∧ meth.sig.returnType = ret ∧ c.maxLocals = 12 ∧ s.vm.findClass R_law = some m.cls ∧ (∀ w ∈ lw_tbl, w.before #[Value.ref b] s = true) ∧ va_X b L xs s s.heap ∧ b < s.heap.size ∧ meth.locks = false ∧ (Jvm.Cond.and given_1 narrow_1).before #[Value.ref b] s = true
theorem m_cst_eq {s : State} {H : Heap} {a n n' : Nat} {f f' : Nat → Int32} (h : m_cst s a n f H) (h' : m_cst s a n' f' H) (hn : n < 2 ^ 31) (hn' : n' < 2 ^ 31) : n = n' ∧ ∀ j, j < n → f j = f' j := by
  obtain ⟨c1, a1, -, -, a4, a5, a6⟩ := h
  obtain ⟨c2, b1, -, -, b4, b5, b6⟩ := h'
  cases Option.some.inj (a1.symm.trans b1)
  have e : n = n' := (nI_eq hn hn').mp (a5.symm.trans b5)
  subst e
  refine ⟨rfl, fun j hj => ?_⟩
  have := (a6 j hj).symm.trans (b6 j hj)
  simpa using this
/-- the small heap that a run of the law begins with -/
def m_h0 (t : Nat → Nat) (b L : Nat) (xs : Nat → Int32) : mH := fun q => if q = b then some (mC L xs) else if q = t 0 then some (mC 6 (m_tab 0)) else if q = t 1 then some (mC 6 (m_tab 1)) else if q = t 2 then some (mC 6 (m_tab 2)) else none
theorem m_h0_cst {s : State} {H : Heap} {t : Nat → Nat} {b L : Nat} {xs : Nat → Int32} (hL : L ≤ 260) (hb : m_cst s b L xs H) (ht : ∀ k, k < 3 → m_cst s (t k) (m_len k) (m_tab k) H) {q : Nat} {e : mE} (h : m_h0 t b L xs q = some e) : ∃ (n : Nat) (f : Nat → Int32), e = mC n f ∧ n ≤ 260 ∧ m_cst s q n f H := by
  unfold m_h0 at h
  split at h
  · rename_i hq
    subst hq
    cases h
    exact ⟨_, _, rfl, hL, hb⟩
  · split at h
    · rename_i hq
      subst hq
      cases h
      exact ⟨_, _, rfl, by decide, ht 0 (by decide)⟩
    · split at h
      · rename_i hq
        subst hq
        cases h
        exact ⟨_, _, rfl, by decide, ht 1 (by decide)⟩
      · split at h
        · rename_i hq
          subst hq
          cases h
          exact ⟨_, _, rfl, by decide, ht 2 (by decide)⟩
        · cases h
theorem m_h0_some {t : Nat → Nat} {b L : Nat} {xs : Nat → Int32} {k : Nat} (hk : k < 3) : ∃ e, m_h0 t b L xs (t k) = some e := by
  unfold m_h0
  split
  · exact ⟨_, rfl⟩
  · split
    · exact ⟨_, rfl⟩
    · split
      · exact ⟨_, rfl⟩
      · split
        · exact ⟨_, rfl⟩
        · rename_i h0 h1 h2
          match k, hk with
          | 0, _ => exact absurd rfl h0
          | 1, _ => exact absurd rfl h1
          | 2, _ => exact absurd rfl h2
          | k + 3, h9 => exact absurd h9 (by omega)
set_option maxHeartbeats 4000000 in
set_option maxRecDepth 100000 in
theorem whole_start {p : Program} {e : Env} {s : State} {m : MethodId} {below : List Frame} {meth : Method} {c : Code} (l : Launch) (hflags : l.flags = flags0) {b L : Nat} {xs : Nat → Int32} (hL : L ≤ 260) (C0 : lw_At p s m meth c b L xs) : W p l e room_1 s m #[Value.ref b] below meth c s.heap [] 0 0 (lw_Z below #[Value.ref b] s) (entryFrame m ([Value.ref b] : List Value).toArray 12) := by
  obtain ⟨hx, hb, hr, hml, hown, hts, hX, hbl, hlocks, hgv⟩ := id C0
  have hN : narrow_1.before #[Value.ref b] s = true := sb_r hgv
  obtain ⟨st, hE, hT⟩ := st_all hts hN
  obtain ⟨c0, i0, n0⟩ := u_known (C := RX0) (T := TX0) (N := 9) (n := 9) hts (fun w h => (w_good w (wi_X0 w h)).1) (hts _ (List.mem_append_right _ (List.mem_append_left _ (List.mem_of_getElem? (i := 94) rfl))))
  obtain ⟨c1, i1, n1⟩ := u_known (C := RX2) (T := TX2) (N := 3) (n := 3) hts (fun w h => (w_good w (wi_X2 w h)).1) (hts _ (List.mem_append_right _ (List.mem_append_left _ (List.mem_of_getElem? (i := 134) rfl))))
  obtain ⟨c2, i2, n2⟩ := u_known (C := RX3) (T := TX3) (N := 10) (n := 10) hts (fun w h => (w_good w (wi_X3 w h)).1) (hts _ (List.mem_append_right _ (List.mem_append_left _ (List.mem_of_getElem? (i := 25) rfl))))
  obtain ⟨c3, i3, n3⟩ := u_known (C := RX5) (T := TX5) (N := 2) (n := 2) hts (fun w h => (w_good w (wi_X5 w h)).1) (hts _ (List.mem_append_right _ (List.mem_append_left _ (List.mem_of_getElem? (i := 31) rfl))))
  obtain ⟨c4, i4, n4⟩ := u_known (C := RX6) (T := TX6) (N := 8) (n := 8) hts (fun w h => (w_good w (wi_X6 w h)).1) (hts _ (List.mem_append_right _ (List.mem_append_left _ (List.mem_of_getElem? (i := 156) rfl))))
  obtain ⟨c5, i5, n5⟩ := u_known (C := RX7) (T := TX7) (N := 8) (n := 8) hts (fun w h => (w_good w (wi_X7 w h)).1) (hts _ (List.mem_append_right _ (List.mem_append_left _ (List.mem_of_getElem? (i := 17) rfl))))
  obtain ⟨dC, dI, hKc⟩ : ∃ (dC : Nat → ClassId) (dI : Nat → Nat → Nat), ∀ (k : Nat) (q : vw_C), vwCl[k]? = some q → u_Kn s q.1 q.2.1 q.2.2 (dC k) (dI k) := by
    refine ⟨fun k => if k = 0 then c0 else if k = 1 then c1 else if k = 2 then c2 else if k = 3 then c3 else if k = 4 then c4 else c5, fun k => if k = 0 then i0 else if k = 1 then i1 else if k = 2 then i2 else if k = 3 then i3 else if k = 4 then i4 else i5, ?_⟩
    intro k q hq
    match k, hq with
    | 0, hq => cases hq; exact n0
    | 1, hq => cases hq; exact n1
    | 2, hq => cases hq; exact n2
    | 3, hq => cases hq; exact n3
    | 4, hq => cases hq; exact n4
    | 5, hq => cases hq; exact n5
    | k + 6, hq => simp [vwCl] at hq
  obtain ⟨aI, kI, pI, fI, gI, hI⟩ := Cond.arrayClass_spec (hts _ (List.mem_append_right _ (List.mem_append_left _ (List.mem_of_getElem? (i := 45) rfl))))
  obtain ⟨pR, aR, kR, fR, _, gR, hRk, nR⟩ := Cond.arrayOver_spec (hts _ (List.mem_append_right _ (List.mem_append_left _ (List.mem_of_getElem? (i := 140) rfl))))
  have hK : va_K (dC, dI) vwCl (m_tys (aI, aI, aR)) s := by
    refine ⟨hKc, fun k q h => ?_⟩
    match k, h with
    | 0, h => cases h; exact ⟨fun n z => ⟨fun k h => (by cases h), kI, gI, pI, hI⟩, fI⟩
    | 1, h => cases h; exact ⟨fun n z => ⟨fun k h => (by cases h), kI, gI, pI, hI⟩, fI⟩
    | 2, h => cases h; exact ⟨fun n z => ⟨fun k h => (by cases h), kR, gR, pR, hRk⟩, kR, pR, gR, hRk, fR, nR⟩
    | k + 3, h => simp [m_tys] at h
  have hbc : m_cst s b L xs s.heap := by
    obtain ⟨c1, k1, k2, k3, k4, k5⟩ := hX
    exact ⟨c1, k1, k2, k3, Nat.le_of_eq k4.symm, by rw [k4], k5⟩
  have hc0 : ∀ (q : Nat) (e : mE), m_h0 st.2 b L xs q = some e → ∃ (n : Nat) (f : Nat → Int32), e = mC n f ∧ n ≤ 260 ∧ m_cst s q n f s.heap := fun q e h => m_h0_cst hL hbc hT h
  have hR : Rl (dC, dI) (aI, aI, aR) (fun q : Nat => s.heap.size ≤ q) (m_h0 st.2 b L xs) s s.heap := by
    refine ⟨hK, fun a e h => ?_, fun a h => ?_⟩
    · obtain ⟨n, f, rfl, -, h2⟩ := hc0 a e h
      exact h2
    · unfold m_wr at h
      split at h
      · exact h.elim
      · exact h.elim
      · rename_i e he1 he2
        obtain ⟨n, f, rfl, -, -⟩ := hc0 a _ he2
        exact absurd rfl (he1 n f)
  have hrun : s_L_law st (m_h0 st.2 b L xs) s.heap.size b = some 1 := by
    refine law_ok hL (if_pos rfl) (fun k hk => ?_) (fun q hq => ?_)
    · obtain ⟨e, he⟩ := m_h0_some (t := st.2) (b := b) (L := L) (xs := xs) hk
      obtain ⟨n, f, rfl, h1, h2⟩ := hc0 _ e he
      have hlen : m_len k < 2 ^ 31 := by unfold m_len; decide
      obtain ⟨e1, e2⟩ := m_cst_eq h2 (hT k hk) (by omega) hlen
      subst e1
      exact ⟨f, he, e2⟩
    · cases hq2 : m_h0 st.2 b L xs q with
      | none => rfl
      | some e => exact absurd (hR.lt hq2) (Nat.not_lt.mpr hq)
  refine W.base ?_
  have hd0 := Drawn.sameBut.refl s.drawn lw_cs
  have hl := lv_entry ([.ref b]) (n := 12) (Nat.le_of_ble_eq_true rfl)
  rw [lg_entry_eq]
  refine k_L_law (s := s.setDrawn s.drawn) (st := st) (D := (dC, dI)) (ids := (aI, aI, aR)) hx hb hml hown ?_ hE (fun q h => h) ?_ (m_h0 st.2 b L xs) b s.heap.size s.heap [] _ hrun hR rfl va_S.rf hl
  · have hc : Cond.code yX1_at cX1_at 2 (some .int) ∈ wT := yk_X1_at.1
    have ht2 := dr_words hts s.drawn
    intro w hw
    rcases List.mem_cons.mp hw with h | h
    · rw [h]; exact ht2 _ (w_good _ hc).1
    · exact ht2 _ (w_good _ h).1
  · intro H ls
    exact lw_ret hd0 hx hb hr hlocks dL_law_263
set_option maxHeartbeats 4000000 in
theorem lw_walk (l : Launch) (hflags : l.flags = flags0) (b : Addr) (xs : List Int32) : MetFree l x (headSpec (Jvm.Cond.code x code maxLocals ret :: tables_1) room_1) (lw_P b xs) (fun _ _ _ _ _ => True) lw_Q := by
  refine MetFree.of_bodyS (code := code) (maxLocals := maxLocals) (ret := ret) (by decide) ?_ ?_
  · intro args s m h hn
    obtain ⟨meth, c, h1, h2, h3, h4, h5, h6, -, -⟩ := Cond.code_spec hn (atoms_spec (ws := Jvm.Cond.code x code maxLocals ret :: tables_1) h _ List.mem_cons_self)
    exact ⟨meth, c, h1, h2, h3, h4, h5, h6⟩
  · intro p e s m args below meth c s₁ B hml0 hP _
    obtain ⟨rfl, hx, hbd, hgv⟩ := hP
    obtain ⟨scr, harrAt, hlist, hof, hsmall⟩ := hx
    obtain ⟨hcb, hkn, -, -⟩ := State.arrayAt?_spec harrAt
    have hown : s.vm.findClass R_law = some m.cls := findClass_of_methodNamed B.named
    have hts0 : ∀ c ∈ (Jvm.Cond.code x code maxLocals ret :: tables_1), c.before #[Value.ref b] s = true := atoms_spec (ws := Jvm.Cond.code x code maxLocals ret :: tables_1) B.pre
    have hts : ∀ w ∈ lw_tbl, w.before #[Value.ref b] s = true := k2_hts_sels lw_privs (fun w hw => hts0 w (List.mem_cons_of_mem _ hw)) lw_privs_ok
    have hml : c.maxLocals = 12 := B.maxLocals_eq (hts0 _ List.mem_cons_self)
    have X₀ : Stand p l e room_1 s m #[Value.ref b] below meth c s₁ [] 0 0 := Stand.of_body B
    have hh0 : s₁.heap = s.heap := by rw [B.state]; rfl
    have hsz : scr.slots.size = xs.length := by rw [← Array.length_toList, hlist, List.length_map]
    have hval : ∀ j : Nat, j < xs.length → scr.slots[j]? = some (.int (xs.getD j 0)) := fun j hj => by
      rw [← Array.getElem?_toList, hlist]
      simp [hj]
    have hbl : b < s.heap.size := (Array.getElem?_eq_some_iff.mp hcb).1
    have hX : va_X b xs.length (fun j => xs.getD j 0) s s.heap := ⟨scr, hcb, hof, hkn, hsz, hval⟩
    have K : W p l e room_1 s m #[Value.ref b] below meth c s₁.heap [] 0 0 (lw_Z below #[Value.ref b] s) (entryFrame m ([Value.ref b] : List Value).toArray 12) := by
      rw [hh0]
      exact whole_start l hflags hbd ⟨B.exec, B.bytes, B.returns, hml, hown, hts, hX, hbl, B.notSynchronized, hgv⟩
    obtain ⟨t, a1, o, b1, b2, b3⟩ := K s₁ rfl X₀
    exact ⟨t, o, a1, b1, b2, b3⟩
theorem lw_pre_spec {args : Array Value} {s : State} (h : (Jvm.Cond.and given_1 narrow_1).before args s = true) (hr : rest_1_c.before args s = true) : ∃ (b : Addr) (xs : List Int32), lw_P b xs args s := by
  have hs := flat_of_before _ h
  have hq := flat_of_before _ hr
  have hc : (Cond.count 1).before args s = true := hs _ (by decide +kernel)
  have harr : (Cond.arrayOf (.arg 0) .int).before args s = true := hs _ (by decide +kernel)
  have hle : (Cond.le (.length (.arg 0)) (.int 260)).before args s = true := hs _ (by decide +kernel)
  have hlen : (Cond.isInt (.length (.arg 0))).before args s = true := hq _ (by decide +kernel)
  have hall : (Cond.all (.arg 0) (.isInt (.elem (.arg 0) (.index 0)))).before args s = true := hq _ (by decide +kernel)
  obtain ⟨b, xs, hb, hx⟩ := State.ints_of_pre rfl harr hlen hall
  have hsm : xs.length < 2 ^ 31 := hx.choose_spec.2.2.2
  have hev : (Term.length (.arg 0)).eval args s none [] s = some (.int xs.length.toInt32) := hx.length_eval hb
  have hv := Cond.le_ints hev (show (Term.int 260).eval args s none [] s = some (.int 260) from rfl)
  have hd : xs.length.toInt32 ≤ 260 := by
    simpa [Cond.before, Cond.holds, hv] using hle
  have hN : xs.length ≤ 260 := (Int32.ofNat_le_ofNat hsm (by decide)).mp (show Int32.ofNat xs.length ≤ Int32.ofNat 260 from hd)
  exact ⟨b, xs, Cond.one_arg hc (show args[0]? = some (.ref b) from hb), hx, hN, h⟩
theorem lw_comes (l : Launch) (hflags : l.flags = flags0) : Comes l x (Jvm.Cond.code x code maxLocals ret :: tables_1) room_1 (fun tb e args s => Calls_1 tb e args s ∧ rest_1 tb e args s ∧ Pre_1 tb e args s)
    (fun _ _ args s o t => lw_Q args s o t) := by
  intro p e ha hc hk s m args below hf hfit hheap happ hpre
  obtain ⟨b, xs, hP⟩ := lw_pre_spec hpre.2.2 hpre.2.1
  obtain ⟨k, o, h1, h2, h3, hQ⟩ := lw_walk l hflags b xs p e ha hc hk s m args below hf ((Spec.applies_iff_loose hf).mp happ).1 hP trivial
  exact ⟨k, o, h1, h2, h3, hQ⟩
theorem lw_frame {s t : State} {o : Outcome} {args : Array Value} (h : State.butDraws s t lw_cs (fun t1 => Framed s o t1 [] 600086 7301442)) :
    State.butDraws s t [Jvm.Choice.named "NaN.bits"] (fun t1 => Framed s o t1 (fieldLocs frame_1_writes args s ++ arrayLocs frame_1_arrays args s ++ staticLocs frame_1_statics s) 600086 7301442) := h
theorem lw_limb (L : Cond) (hL : ∀ (args : Array Value) (s t : State), L.after args s (.returned (some (.int 1))) t = true) :
    ArmFor flags0 classFile x code maxLocals ret World_1 tables_1 room_1 Calls_1 rest_1 Pre_1
      (fun tb e a s o t => postC L tb e a s o t ∧ State.butDraws s t [Jvm.Choice.named "NaN.bits"] (fun t1 => Framed s o t1 (fieldLocs frame_1_writes a s ++ arrayLocs frame_1_arrays a s ++ staticLocs frame_1_statics s) 600086 7301442)) := by
  intro l hflags _ _ p e ha hc hk s m args below hf hfit hheap happ hpre
  obtain ⟨k, o, h1, h2, h3, rfl, hF⟩ := lw_comes l hflags p e ha hc hk s m args below hf hfit hheap happ hpre
  exact ⟨k, _, h1, h2, h3, hL args s _, lw_frame hF⟩
theorem i_vc : Claimed_1_1 ∧ Claimed_1_2 := ⟨lw_limb limb_1_1 (fun args s t => by simp [limb_1_1, Cond.after, Cond.holds, Cond.value]), lw_limb limb_1_2 (fun args s t => Cond.after_iff.mpr (by
  first | (rw [show limb_1_2 = Cond.eq .result (.int 1) from rfl, Cond.eq_ints (x := 1) (y := 1) rfl rfl]; simp; done) | (simp [limb_1_2, Cond.value, Term.eval]; done)))⟩
