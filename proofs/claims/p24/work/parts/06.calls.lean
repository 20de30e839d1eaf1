/-! OUR OWN: what every method may take of the world beside the small heap: links between nest mates, static rows -/
def m_nf : List (String × Nat × String × String × String × String) := [("CapWallets", 79, "CapWallets$TapRow", "size", "I", "CapWallets"), ("CapWallets$Rides", 62, "CapWallets$TapRow", "size", "I", "CapWallets"), ("CapWallets$State", 47, "CapWallets", "FIRST_VALUES", "[I", "CapWallets"), ("CapWallets", 55, "CapWallets$State", "taps", "LCapWallets$TapRow;", "CapWallets"), ("CapWallets", 58, "CapWallets$State", "settings", "[I", "CapWallets"), ("CapWallets", 327, "CapWallets$State", "charged", "[I", "CapWallets"), ("CapWallets", 268, "CapWallets$State", "claims", "[I", "CapWallets"), ("CapWallets", 330, "CapWallets$State", "settlings", "[I", "CapWallets"), ("CapWallets", 333, "CapWallets$State", "refunds", "I", "CapWallets"), ("CapWallets", 336, "CapWallets$State", "refunded", "I", "CapWallets"), ("CapWallets", 127, "CapWallets$State", "refusals", "I", "CapWallets"), ("CapWallets", 256, "CapWallets$Rides", "mates", "[I", "CapWallets"), ("CapWallets", 302, "CapWallets$Rides", "fares", "[I", "CapWallets"), ("CapWallets", 308, "CapWallets$Rides", "dayRides", "[I", "CapWallets"), ("CapWallets", 314, "CapWallets$Rides", "dayAlone", "[I", "CapWallets"), ("CapWallets", 217, "CapWallets$Rides", "dayFares", "[I", "CapWallets"), ("CapWallets", 209, "CapWallets$Rides", "leaks", "[I", "CapWallets"), ("CapWallets", 181, "CapWallets$Saves", "size", "I", "CapWallets")]
def m_nm : List (String × Nat × MethodName × String) := [("CapWallets$Rides", 102, ⟨"CapWallets", "dayCell", "(II)I"⟩, "CapWallets"), ("CapWallets$State", 64, ⟨"CapWallets", "weekCell", "(II)I"⟩, "CapWallets")]
def m_sa : List (String × Nat) := [("FIRST_VALUES", 0), ("LEAST_VALUES", 1), ("MOST_VALUES", 2)]
section MEV
abbrev m_T : Type := (Nat → Nat) × (Nat → Nat)
def m_EV (st : m_T) (A : Nat → Prop) (U : State) (H : Heap) : Prop :=
  (∀ q ∈ m_nf, va_Nw (.fieldLinkNest q.1 q.2.1 q.2.2.1 q.2.2.2.1 q.2.2.2.2.1 q.2.2.2.2.2) U) ∧ (∀ q ∈ m_nm, va_Nw (.methodLinkNest q.1 q.2.1 q.2.2.1 q.2.2.2) U) ∧ (∀ q ∈ m_sa, va_Z "CapWallets" q.1 "[I" (.ref (st.2 q.2)) A U H) ∧ va_AO "CapWallets$State" U
theorem m_EV.kept {st : m_T} {A : Nat → Prop} {U : State} {H H1 : Heap} (h : m_EV st A U H) (hq : ∀ a : Nat, a < H.size → ¬ A a → H1[a]? = H[a]?) : m_EV st A U H1 :=
  ⟨h.1, h.2.1, fun q hm => (h.2.2.1 q hm).kept hq, h.2.2.2⟩
theorem m_EV.narrow {st : m_T} {A B : Nat → Prop} {U : State} {H : Heap} (h : m_EV st A U H) (hAB : ∀ q, B q → A q) : m_EV st B U H :=
  ⟨h.1, h.2.1, fun q hm => (h.2.2.1 q hm).narrow hAB, h.2.2.2⟩
theorem m_EV.warm {st : m_T} {A : Nat → Prop} {s U : State} {H : Heap} (hW : s.WarmedH U.vm) (h : m_EV st A s H) : m_EV st A U H :=
  ⟨fun q hm => (h.1 q hm).warmF hW, fun q hm => (h.2.1 q hm).warmM hW, fun q hm => (h.2.2.1 q hm).moved hW.alike, h.2.2.2.moved hW.alike⟩
theorem m_EV.same {st : m_T} {A : Nat → Prop} {s U : State} {H : Heap} (hv : s.vm = U.vm) (h : m_EV st A s H) : m_EV st A U H :=
  ⟨fun q hm => (h.1 q hm).same rfl hv, fun q hm => (h.2.1 q hm).same rfl hv, fun q hm => (h.2.2.1 q hm).moved (hv ▸ Vm.Alike.refl s.vm), h.2.2.2.moved (hv ▸ Vm.Alike.refl s.vm)⟩
/-- a method's start -/
def mPc (D : va_G) (ids : m_I3) (st : m_T) (av : List Value) (h : mH) (z : Nat) : Array Value → State → Prop := va_Pc av (fun U => Rl D ids (m_A h z) h U U.heap ∧ m_EV st (m_A h z) U U.heap ∧ U.heap.size = z)
/-- the world behind it -/
def mB (D : va_G) (ids : m_I3) (A : Nat → Prop) (h : mH) (z : Nat) : Unit → State → Prop := fun _ t => Rl D ids A h t t.heap ∧ t.heap.size = z
def mQi (D : va_G) (ids : m_I3) (A : Nat → Prop) (r : Int32) (h : mH) (z : Nat) : Array Value → State → Outcome → State → Prop := va_Qi (fun r' (_ : Unit) => r' = r) (mB D ids A h z) A
def mQl (D : va_G) (ids : m_I3) (A : Nat → Prop) (r : Int64) (h : mH) (z : Nat) : Array Value → State → Outcome → State → Prop := va_Ql (fun r' (_ : Unit) => r' = r) (mB D ids A h z) A
def mQd (D : va_G) (ids : m_I3) (A : Nat → Prop) (r : UInt64) (h : mH) (z : Nat) : Array Value → State → Outcome → State → Prop := va_Qd (fun r' (_ : Unit) => r' = r) (mB D ids A h z) A
def mQq (D : va_G) (ids : m_I3) (A : Nat → Prop) (r : Option Nat) (h : mH) (z : Nat) : Array Value → State → Outcome → State → Prop := va_Qq (fun r' (_ : Unit) => r' = r) (mB D ids A h z) A
def mQv (D : va_G) (ids : m_I3) (A : Nat → Prop) (h : mH) (z : Nat) : Array Value → State → Outcome → State → Prop := va_Qv (fun (_ : Unit) => True) (mB D ids A h z) A
theorem m_blind (D : va_G) (ids : m_I3) (st : m_T) (av : List Value) (h : mH) (z : Nat) : FrameBlind (mPc D ids st av h z) := by
  intro a U g mk hq
  obtain ⟨e, hR, hE, hz⟩ := hq
  exact ⟨e, Rl.moved (u := U) (U := U.calling g mk a) (Vm.Alike.refl U.vm) hR, m_EV.same (s := U) (U := U.calling g mk a) rfl hE, hz⟩
/-- a method from its start -/
theorem mr_of {l : Launch} {y : MethodName} {ws ws' : List Cond} {rm : Room} {cc : ByteArray} {maxL : Nat} {ret : Option FieldType} {D : va_G} {ids : m_I3} {st : m_T} {av : List Value} {h : mH} {z : Nat} {Qc : Array Value → State → Outcome → State → Prop} {mc ms : Nat} {free : Addr → Prop}
    (hy : plainName y.cls = true) (hw : ws = Cond.code y cc maxL ret :: ws') (hlen : (lg_sl av).length ≤ maxL)
    (body : ∀ (p : Program) (e : Env) (s : State) (m : MethodId) (below : List Frame) (meth : Method) (c : Code) (ls : Array Slot), p.tables.exec = Jvm.exec → c.code = cc → meth.sig.returnType = ret → c.maxLocals = maxL → s.vm.findClass y.cls = some m.cls → (∀ w ∈ ws, w.before av.toArray s = true) → meth.locks = false → meth.name = y.name →
      Rl D ids (m_A h z) h s s.heap → m_EV st (m_A h z) s s.heap → s.heap.size = z → lv_has ls maxL (lv_args 0 av) →
      W p l e (headSpec ws rm).room s m av.toArray below meth c s.heap [] 0 0 (MQ below Qc av.toArray s mc ms free) (F0 m 0 ls [])) : Met l y ws rm (mPc D ids st av h z) Qc mc ms free := by
  refine Met.ofW (cc := cc) (maxL := maxL) (ret := ret) hy hw ?_
  intro p e s m args below meth c s₁ B hml hv
  obtain ⟨rfl, hR, hE, hz⟩ := hv
  have hl := lv_entry av (n := maxL) hlen
  rw [lg_entry_eq]
  exact body p e s m below meth c _ B.exec B.bytes B.returns hml (findClass_of_methodNamed B.named) (atoms_spec (ws := ws) B.pre) B.notSynchronized (name_of_methodNamed B.named B.method).1 hR hE hz hl
end MEV
section MRE
variable {p : Program} {l : Launch} {e : Env} {R : Room} {s : State} {m : MethodId} {args : Array Value} {below : List Frame} {meth : Method} {c : Code} {H : Heap} {locs : List Loc} {cells slots : Nat} {Q : State → Prop}
variable {cc : ByteArray} {pc : Nat} {ls : Array Slot} {rest st0 : List Value} {D : va_G} {ids : m_I3} {st : m_T} {A : Nat → Prop} {h : mH} {a z : Nat}
theorem mr_iret {v : Int32} (hexec : p.tables.exec = Jvm.exec) (hb : c.code = cc) (hr : meth.sig.returnType = some .int) (hlocks : meth.locks = false) (hR : Rl D ids A h s H) (hz : H.size = z) (hS : va_S A s.heap H locs) (hdg : decode cc pc = .ok (.ireturn, 1)) : W p l e R s m args below meth c H locs cells slots (MQ below (mQi D ids A v h z) args s cells slots A) (F0 m pc ls [.int v]) :=
  W.iret hexec hb hr (fun t ht hW => ⟨⟨v, (), rfl, rfl, by rw [ht]; exact hR.moved hW.alike, by rw [ht]; exact hz⟩, hS.F ht⟩) hS.2.2 hdg hlocks
theorem mr_zret {v w : Int32} (hg : m_z v = some w) (hexec : p.tables.exec = Jvm.exec) (hb : c.code = cc) (hr : meth.sig.returnType = some .boolean) (hlocks : meth.locks = false) (hR : Rl D ids A h s H) (hz : H.size = z) (hS : va_S A s.heap H locs) (hdg : decode cc pc = .ok (.ireturn, 1)) : W p l e R s m args below meth c H locs cells slots (MQ below (mQi D ids A w h z) args s cells slots A) (F0 m pc ls [.int v]) := by
  obtain ⟨rfl, hn⟩ := m_z_spec hg
  exact W.zret hexec hb hr hn (fun t ht hW => ⟨⟨v, (), rfl, rfl, by rw [ht]; exact hR.moved hW.alike, by rw [ht]; exact hz⟩, hS.F ht⟩) hS.2.2 hdg hlocks
theorem mr_lret {v : Int64} (hexec : p.tables.exec = Jvm.exec) (hb : c.code = cc) (hr : meth.sig.returnType = some .long) (hlocks : meth.locks = false) (hR : Rl D ids A h s H) (hz : H.size = z) (hS : va_S A s.heap H locs) (hdg : decode cc pc = .ok (.lreturn, 1)) : W p l e R s m args below meth c H locs cells slots (MQ below (mQl D ids A v h z) args s cells slots A) (F0 m pc ls [.long v]) :=
  W.lret hexec hb hr (fun t ht hW => ⟨⟨v, (), rfl, rfl, by rw [ht]; exact hR.moved hW.alike, by rw [ht]; exact hz⟩, hS.F ht⟩) hS.2.2 hdg hlocks
theorem mr_dret {v : UInt64} (hexec : p.tables.exec = Jvm.exec) (hb : c.code = cc) (hr : meth.sig.returnType = some .double) (hlocks : meth.locks = false) (hR : Rl D ids A h s H) (hz : H.size = z) (hS : va_S A s.heap H locs) (hdg : decode cc pc = .ok (.dreturn, 1)) : W p l e R s m args below meth c H locs cells slots (MQ below (mQd D ids A v h z) args s cells slots A) (F0 m pc ls [.double v]) :=
  W.dret hexec hb hr (fun t ht hW => ⟨⟨v, (), rfl, rfl, by rw [ht]; exact hR.moved hW.alike, by rw [ht]; exact hz⟩, hS.F ht⟩) hS.2.2 hdg hlocks
theorem mr_qret {v : Option Nat} {cn : String} (hexec : p.tables.exec = Jvm.exec) (hb : c.code = cc) (hr : meth.sig.returnType = some (.object cn)) (hlocks : meth.locks = false) (hR : Rl D ids A h s H) (hz : H.size = z) (hS : va_S A s.heap H locs) (hdg : decode cc pc = .ok (.areturn, 1)) : W p l e R s m args below meth c H locs cells slots (MQ below (mQq D ids A v h z) args s cells slots A) (F0 m pc ls [va_rf v]) :=
  W.aret hexec hb hr (Or.inl ⟨cn, rfl⟩) (va_rf_or v) (fun t ht hW => ⟨⟨v, (), rfl, rfl, by rw [ht]; exact hR.moved hW.alike, by rw [ht]; exact hz⟩, hS.F ht⟩) hS.2.2 hdg hlocks
theorem mr_vret (hexec : p.tables.exec = Jvm.exec) (hb : c.code = cc) (hr : meth.sig.returnType = none) (hlocks : meth.locks = false) (hR : Rl D ids A h s H) (hz : H.size = z) (hS : va_S A s.heap H locs) (hdg : decode cc pc = .ok (.return_, 1)) : W p l e R s m args below meth c H locs cells slots (MQ below (mQv D ids A h z) args s cells slots A) (F0 m pc ls []) :=
  W.vret hexec hb hr (fun t ht hW => ⟨⟨(), rfl, trivial, by rw [ht]; exact hR.moved hW.alike, by rw [ht]; exact hz⟩, hS.F ht⟩) hS.2.2 hdg hlocks
/-- what a call of a method of ours may take -/
theorem mr_pre {As : List Value} (hR : Rl D ids A h s H) (hE : m_EV st A s s.heap) (hz : H.size = z) (hS : va_S A s.heap H locs) (hA : ∀ q, s.heap.size ≤ q → A q) : ∀ U : State, U.heap = H → s.WarmedH U.vm → mPc D ids st As h z As.toArray U := by
  intro U hU hW
  have hB : ∀ q, m_A h z q → A q := m_lt_A hR (fun q hq => hA q (Nat.le_trans (by rw [← hz]; exact hS.1) hq))
  refine ⟨rfl, ?_, ?_, by rw [hU]; exact hz⟩
  · rw [hU]
    exact (hR.narrow (fun q hq => Or.inl hq)).moved hW.alike
  · rw [hU]
    exact ((hE.kept hS.2.1).narrow hB).warm hW
theorem mr_free {B : Nat → Prop} (hR : Rl D ids A h s H) (hz : H.size = z) (hS : va_S A s.heap H locs) (hA : ∀ q, s.heap.size ≤ q → A q) (hB : B = m_A h z) : ∀ q, B q → A q := by
  subst hB
  exact m_lt_A hR (fun q hq => hA q (Nat.le_trans (by rw [← hz]; exact hS.1) hq))
theorem mr_behind {h1 : mH} {z1 : Nat} {t : State} {H1 : Heap} {u : Unit} (hR : Rl D ids A h s H) (hB : mB D ids (m_A h z) h1 z1 u t) (ht : t.heap = H1) (hvm : s.vm.Alike t.vm) (hF : ∀ q, m_A h z q → A q) : Rl D ids A h1 s H1 ∧ H1.size = z1 := by
  obtain ⟨r1, r2⟩ := hB
  rw [ht] at r1 r2
  exact ⟨⟨hR.1, fun a e q => (r1.2.1 a e q).moved hvm.symm, fun q hq => hF q (r1.2.2 q hq)⟩, r2⟩
theorem mr_calli {h1 : mH} {z1 mc ms : Nat} {r : Int32} {a1 : Array Value} (hr : va_Run p l e R s m args below meth c H locs cells slots mc ms (F0 m pc ls st0) rest (mQi D ids (m_A h z) r h1 z1 a1) (m_A h z)) (hR : Rl D ids A h s H) (hz : H.size = z) (hS : va_S A s.heap H locs) (hA : ∀ q, s.heap.size ≤ q → A q)
    (kk : ∀ (H1 : Heap) (locs1 : List Loc), Rl D ids A h1 s H1 → H1.size = z1 → va_S A s.heap H1 locs1 → W p l e R s m args below meth c H1 locs1 (cells + mc) (slots + ms) Q (F0 m (pc + 3) ls (.int r :: rest))) : W p l e R s m args below meth c H locs cells slots Q (F0 m pc ls st0) := by
  have hF := mr_free hR hz hS hA rfl
  refine va_calli hr hS (fun q _ hq => hF q hq) hF (fun r' u t H1 locs1 ht hvm hp hB _ _ hS1 => ?_)
  obtain rfl : r' = r := hp
  obtain ⟨r1, r2⟩ := mr_behind hR hB ht hvm hF
  exact kk H1 locs1 r1 r2 hS1
theorem mr_calll {h1 : mH} {z1 mc ms : Nat} {r : Int64} {a1 : Array Value} (hr : va_Run p l e R s m args below meth c H locs cells slots mc ms (F0 m pc ls st0) rest (mQl D ids (m_A h z) r h1 z1 a1) (m_A h z)) (hR : Rl D ids A h s H) (hz : H.size = z) (hS : va_S A s.heap H locs) (hA : ∀ q, s.heap.size ≤ q → A q)
    (kk : ∀ (H1 : Heap) (locs1 : List Loc), Rl D ids A h1 s H1 → H1.size = z1 → va_S A s.heap H1 locs1 → W p l e R s m args below meth c H1 locs1 (cells + mc) (slots + ms) Q (F0 m (pc + 3) ls (.long r :: rest))) : W p l e R s m args below meth c H locs cells slots Q (F0 m pc ls st0) := by
  have hF := mr_free hR hz hS hA rfl
  refine va_calll hr hS (fun q _ hq => hF q hq) hF (fun r' u t H1 locs1 ht hvm hp hB _ _ hS1 => ?_)
  obtain rfl : r' = r := hp
  obtain ⟨r1, r2⟩ := mr_behind hR hB ht hvm hF
  exact kk H1 locs1 r1 r2 hS1
theorem mr_calld {h1 : mH} {z1 mc ms : Nat} {r : UInt64} {a1 : Array Value} (hr : va_Run p l e R s m args below meth c H locs cells slots mc ms (F0 m pc ls st0) rest (mQd D ids (m_A h z) r h1 z1 a1) (m_A h z)) (hR : Rl D ids A h s H) (hz : H.size = z) (hS : va_S A s.heap H locs) (hA : ∀ q, s.heap.size ≤ q → A q)
    (kk : ∀ (H1 : Heap) (locs1 : List Loc), Rl D ids A h1 s H1 → H1.size = z1 → va_S A s.heap H1 locs1 → W p l e R s m args below meth c H1 locs1 (cells + mc) (slots + ms) Q (F0 m (pc + 3) ls (.double r :: rest))) : W p l e R s m args below meth c H locs cells slots Q (F0 m pc ls st0) := by
  have hF := mr_free hR hz hS hA rfl
  refine va_calld hr hS (fun q _ hq => hF q hq) hF (fun r' u t H1 locs1 ht hvm hp hB _ _ hS1 => ?_)
  obtain rfl : r' = r := hp
  obtain ⟨r1, r2⟩ := mr_behind hR hB ht hvm hF
  exact kk H1 locs1 r1 r2 hS1
theorem mr_callq {h1 : mH} {z1 mc ms : Nat} {r : Option Nat} {a1 : Array Value} (hr : va_Run p l e R s m args below meth c H locs cells slots mc ms (F0 m pc ls st0) rest (mQq D ids (m_A h z) r h1 z1 a1) (m_A h z)) (hR : Rl D ids A h s H) (hz : H.size = z) (hS : va_S A s.heap H locs) (hA : ∀ q, s.heap.size ≤ q → A q)
    (kk : ∀ (H1 : Heap) (locs1 : List Loc), Rl D ids A h1 s H1 → H1.size = z1 → va_S A s.heap H1 locs1 → W p l e R s m args below meth c H1 locs1 (cells + mc) (slots + ms) Q (F0 m (pc + 3) ls (va_rf r :: rest))) : W p l e R s m args below meth c H locs cells slots Q (F0 m pc ls st0) := by
  have hF := mr_free hR hz hS hA rfl
  refine va_callq hr hS (fun q _ hq => hF q hq) hF (fun r' u t H1 locs1 ht hvm hp hB _ _ hS1 => ?_)
  obtain rfl : r' = r := hp
  obtain ⟨r1, r2⟩ := mr_behind hR hB ht hvm hF
  exact kk H1 locs1 r1 r2 hS1
theorem mr_callv {h1 : mH} {z1 mc ms : Nat} {a1 : Array Value} (hr : va_Run p l e R s m args below meth c H locs cells slots mc ms (F0 m pc ls st0) rest (mQv D ids (m_A h z) h1 z1 a1) (m_A h z)) (hR : Rl D ids A h s H) (hz : H.size = z) (hS : va_S A s.heap H locs) (hA : ∀ q, s.heap.size ≤ q → A q)
    (kk : ∀ (H1 : Heap) (locs1 : List Loc), Rl D ids A h1 s H1 → H1.size = z1 → va_S A s.heap H1 locs1 → W p l e R s m args below meth c H1 locs1 (cells + mc) (slots + ms) Q (F0 m (pc + 3) ls rest)) : W p l e R s m args below meth c H locs cells slots Q (F0 m pc ls st0) := by
  have hF := mr_free hR hz hS hA rfl
  refine va_callv hr hS (fun q _ hq => hF q hq) hF (fun u t H1 locs1 ht hvm _ hB _ _ hS1 => ?_)
  obtain ⟨r1, r2⟩ := mr_behind hR hB ht hvm hF
  exact kk H1 locs1 r1 r2 hS1
/-- the receiver of a call is there -/
theorem mr_recv {As : List Value} {ci : Nat} {q : vw_C} {fs : List Value} (hR : Rl D ids A h s H) (hE : m_EV st A s s.heap) (hz : H.size = z) (hS : va_S A s.heap H locs) (hA : ∀ q, s.heap.size ≤ q → A q) (hc : vwCl[ci]? = some q) (ho : h a = some (mO ci fs)) : PreV s H q.1 a (mPc D ids st (.ref a :: As) h z) As :=
  ⟨m_blind D ids st _ h z, va_recv (q0 := 0) hR.1 (mr_at1 hR ho) hc rfl, mr_pre hR hE hz hS hA⟩
theorem mr_recvS {As : List Value} (hR : Rl D ids A h s H) (hE : m_EV st A s s.heap) (hz : H.size = z) (hS : va_S A s.heap H locs) (hA : ∀ q, s.heap.size ≤ q → A q) : PreS s H (mPc D ids st As h z) As :=
  ⟨m_blind D ids st _ h z, mr_pre hR hE hz hS hA⟩
theorem mr_gets (hexec : p.tables.exec = Jvm.exec) (hb : c.code = cc) {n : String} {k : Nat} {own : String} {index : Nat} (hE : m_EV st A s s.heap) (hm : (n, k) ∈ m_sa) (hS : va_S A s.heap H locs) (hown : s.vm.findClass own = some m.cls) (hlink : (Cond.fieldLink own index "CapWallets" n "[I").before args s = true) (hdg : decode cc pc = .ok (.getstatic index, 3))
    (kk : W p l e R s m args below meth c H locs cells slots Q (F0 m (pc + 3) ls (.ref (st.2 k) :: rest))) : W p l e R s m args below meth c H locs cells slots Q (F0 m pc ls rest) :=
  va_gets hexec hb (hE.2.2.1 (n, k) hm) hS hown hlink (fun _ h => h) hdg kk
theorem mr_getsN (hexec : p.tables.exec = Jvm.exec) (hb : c.code = cc) {n : String} {k : Nat} {own host : String} {index : Nat} (hE : m_EV st A s s.heap) (hm : (n, k) ∈ m_sa) (hS : va_S A s.heap H locs) (hown : s.vm.findClass own = some m.cls) (hlink : va_Nw (Cond.fieldLinkNest own index "CapWallets" n "[I" host) s) (hdg : decode cc pc = .ok (.getstatic index, 3))
    (kk : W p l e R s m args below meth c H locs cells slots Q (F0 m (pc + 3) ls (.ref (st.2 k) :: rest))) : W p l e R s m args below meth c H locs cells slots Q (F0 m pc ls rest) :=
  va_getsN hexec hb (hE.2.2.1 (n, k) hm) hS hown (va_Nw.use rfl hlink) (fun _ h => h) hdg kk
theorem mt_t {α : Type} {c : Prop} [Decidable c] {A B : Option α} {r : α} (h : (if c then A else B) = some r) (hc : c) : A = some r := by rw [if_pos hc] at h; exact h
theorem mt_f {α : Type} {c : Prop} [Decidable c] {A B : Option α} {r : α} (h : (if c then A else B) = some r) (hc : ¬ c) : B = some r := by rw [if_neg hc] at h; exact h
end MRE
