/-! OUR OWN: calls of methods of ours, all over one list of words -/
section MRU
/-- what a caller takes of a method's words -/
def m_K (y : MethodName) (bytes : ByteArray) (maxL : Nat) (ret : Option FieldType) (n : Nat) : Prop :=
  (Cond.code y bytes maxL ret ∈ wT) ∧ (Cond.initialized y.cls ∈ wT) ∧ (y.cls ≠ "java/lang/invoke/MethodHandle" ∧ y.cls ≠ "java/lang/invoke/VarHandle" ∧ (parseMethodDescriptor y.desc).map (fun d => d.parameters.length) = some n)
theorem m_ws_in {y0 : MethodName} {cc0 : ByteArray} {n0 : Nat} {ret0 : Option FieldType} {w : Cond} (h : w ∈ wT) : w ∈ m_ws y0 cc0 n0 ret0 := List.mem_cons_of_mem _ h
theorem m_goodIn {y0 y : MethodName} {cc0 bytes : ByteArray} {n0 maxL : Nat} {ret0 ret : Option FieldType} {n : Nat} (hk : m_K y bytes maxL ret n) : GoodIn (m_ws y0 cc0 n0 ret0) (m_ws y bytes maxL ret) := by
  intro w hw
  rcases List.mem_cons.mp hw with h | h
  · subst h
    exact ⟨m_ws_in hk.1, (w_good _ hk.1).2⟩
  · exact ⟨m_ws_in h, (w_good _ h).2⟩
theorem m_goodT {y : MethodName} {bytes : ByteArray} {maxL : Nat} {ret : Option FieldType} {n : Nat} (hk : m_K y bytes maxL ret n) : GoodIn lw_tbl (m_ws y bytes maxL ret) := by
  intro w hw
  rcases List.mem_cons.mp hw with h | h
  · subst h
    exact w_good _ hk.1
  · exact w_good _ h
variable {p : Program} {l : Launch} {e : Env} {R : Room} {s : State} {m : MethodId} {args : Array Value} {below : List Frame} {meth : Method} {c : Code} {H : Heap} {locs : List Loc} {cells slots : Nat} {Q : State → Prop}
variable {cc cc0 bytes : ByteArray} {pc nL n0 maxL index : Nat} {ls : Array Slot} {rest st0 As : List Value} {y y0 : MethodName} {ret ret0 : Option FieldType} {rm : Room} {Pc : Array Value → State → Prop} {Qc : Array Value → State → Outcome → State → Prop} {free : Nat → Prop} {own C : String} {a : Nat}
theorem mr_runS (hexec : p.tables.exec = Jvm.exec) (hb : c.code = cc) (hml : c.maxLocals = nL) (hown : s.vm.findClass own = some m.cls) (hts : ∀ w ∈ m_ws y0 cc0 n0 ret0, w.before args s = true) (hM : Met l y (m_ws y bytes maxL ret) rm Pc Qc rm.cells rm.slots free) (hk : m_K y bytes maxL ret As.length) (hst : Cond.static y ∈ wT) (hlink : Cond.methodLink own index y ∈ wT)
    (hRm : rm.frames + 1 ≤ R.frames ∧ 8 + (maxL + 11) + rm.locals ≤ R.locals) (hp : PreS s H Pc As) (hsize : ls.size = nL) (hstack : st0 = As.reverse ++ rest) (hW : (rest.map fun v => v.category).sum ≤ 8) (hdg : decode cc pc = .ok (.invokestatic index, 3)) (hf : cells + rm.cells ≤ R.cells ∧ slots + rm.slots ≤ R.slots) :
    va_Run p l e R s m args below meth c H locs cells slots rm.cells rm.slots (F0 m pc ls st0) rest (Qc As.toArray) free :=
  va_runS (Ts := m_ws y0 cc0 n0 ret0) ⟨hexec, hb, hml, hown, hts⟩ hM ⟨callB_of As.length hts (m_goodIn hk) rfl rfl rfl (hts _ (m_ws_in hk.2.1)) (hts _ (m_ws_in hlink)) hk.2.2 hRm, hts _ (m_ws_in hst)⟩ hp rfl rfl hsize hstack (lv_room hW) hdg hf
theorem mr_runSN {host : String} (hexec : p.tables.exec = Jvm.exec) (hb : c.code = cc) (hml : c.maxLocals = nL) (hown : s.vm.findClass own = some m.cls) (hts : ∀ w ∈ m_ws y0 cc0 n0 ret0, w.before args s = true) (hM : Met l y (m_ws y bytes maxL ret) rm Pc Qc rm.cells rm.slots free) (hk : m_K y bytes maxL ret As.length) (hst : Cond.static y ∈ wT) (hlink : va_Nw (Cond.methodLinkNest own index y host) s)
    (hRm : rm.frames + 1 ≤ R.frames ∧ 8 + (maxL + 11) + rm.locals ≤ R.locals) (hp : PreS s H Pc As) (hsize : ls.size = nL) (hstack : st0 = As.reverse ++ rest) (hW : (rest.map fun v => v.category).sum ≤ 8) (hdg : decode cc pc = .ok (.invokestatic index, 3)) (hf : cells + rm.cells ≤ R.cells ∧ slots + rm.slots ≤ R.slots) :
    va_Run p l e R s m args below meth c H locs cells slots rm.cells rm.slots (F0 m pc ls st0) rest (Qc As.toArray) free :=
  va_runSN (Ts := m_ws y0 cc0 n0 ret0) ⟨hexec, hb, hml, hown, hts⟩ hM ⟨va_cnB As.length hts (m_goodIn hk) rfl rfl rfl hlink (hts _ (m_ws_in hk.2.1)) hk.2.2 hRm, hts _ (m_ws_in hst), trivial⟩ hp rfl rfl hsize hstack (lv_room hW) hdg hf
theorem mr_runV (hexec : p.tables.exec = Jvm.exec) (hb : c.code = cc) (hml : c.maxLocals = nL) (hown : s.vm.findClass own = some m.cls) (hts : ∀ w ∈ m_ws y0 cc0 n0 ret0, w.before args s = true) (hM : Met l y (m_ws y bytes maxL ret) rm Pc Qc rm.cells rm.slots free) (hk : m_K y bytes maxL ret As.length) (hst : Cond.instanceMethod y ∈ wT ∧ Cond.selects C y y ∈ wT) (hlink : Cond.methodLink own index y ∈ wT)
    (hRm : rm.frames + 1 ≤ R.frames ∧ 8 + (maxL + 11) + rm.locals ≤ R.locals) (hp : PreV s H C a Pc As) (hsize : ls.size = nL) (hstack : st0 = As.reverse ++ .ref a :: rest) (hW : (rest.map fun v => v.category).sum ≤ 8) (hdg : decode cc pc = .ok (.invokevirtual index, 3)) (hf : cells + rm.cells ≤ R.cells ∧ slots + rm.slots ≤ R.slots) :
    va_Run p l e R s m args below meth c H locs cells slots rm.cells rm.slots (F0 m pc ls st0) rest (Qc (Value.ref a :: As).toArray) free :=
  va_runV (Ts := m_ws y0 cc0 n0 ret0) ⟨hexec, hb, hml, hown, hts⟩ hM ⟨callB_of As.length hts (m_goodIn hk) rfl rfl rfl (hts _ (m_ws_in hk.2.1)) (hts _ (m_ws_in hlink)) hk.2.2 hRm, hts _ (m_ws_in hst.1), hts _ (m_ws_in hst.2)⟩ hp rfl rfl hsize hstack (lv_room hW) hdg hf
theorem mr_runI (hexec : p.tables.exec = Jvm.exec) (hb : c.code = cc) (hml : c.maxLocals = nL) (hown : s.vm.findClass own = some m.cls) (hts : ∀ w ∈ m_ws y0 cc0 n0 ret0, w.before args s = true) (hM : Met l y (m_ws y bytes maxL none) rm Pc Qc rm.cells rm.slots free) (hk : m_K y bytes maxL none As.length) (hst : Cond.instanceMethod y ∈ wT) (hy1 : y.name = "<init>") (hlink : Cond.methodLink own index y ∈ wT)
    (hRm : rm.frames + 1 ≤ R.frames ∧ 8 + (maxL + 11) + rm.locals ≤ R.locals) (hp : PreS s H Pc (.ref a :: As)) (hsize : ls.size = nL) (hstack : st0 = As.reverse ++ .ref a :: rest) (hW : (rest.map fun v => v.category).sum ≤ 8) (hdg : decode cc pc = .ok (.invokespecial index, 3)) (hf : cells + rm.cells ≤ R.cells ∧ slots + rm.slots ≤ R.slots) :
    va_Run p l e R s m args below meth c H locs cells slots rm.cells rm.slots (F0 m pc ls st0) rest (Qc (Value.ref a :: As).toArray) free :=
  va_runI (Ts := m_ws y0 cc0 n0 ret0) ⟨hexec, hb, hml, hown, hts⟩ hM (cwI As.length hts (m_goodIn hk) rfl rfl rfl (hts _ (m_ws_in hk.2.1)) (hts _ (m_ws_in hlink)) (hts _ (m_ws_in hst)) hy1 hk.2.2 hRm) hp rfl rfl hsize hstack (lv_room hW) hdg hf
end MRU
