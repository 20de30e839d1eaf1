/-! OUR OWN: new cells -/
section MNW
variable {p : Program} {l : Launch} {e : Env} {R : Room} {s : State} {m : MethodId} {args : Array Value} {below : List Frame} {meth : Method} {c : Code} {H : Heap} {locs : List Loc} {cells slots : Nat} {Q : State → Prop}
variable {cc : ByteArray} {pc : Nat} {ls : Array Slot} {rest : List Value} {D : va_G} {ids : m_I3} {st : m_T} {A : Nat → Prop} {h : mH} {a z : Nat} {H0 : Heap}
theorem va_S.grow {H1 : Heap} (hS : va_S A H0 H locs) (z1 : H1.size = H.size + 1) (o1 : ∀ q : Nat, q < H.size → H1[q]? = H[q]?) : va_S A H0 H1 locs :=
  ⟨Nat.le_trans hS.1 (by omega), fun x h1 h2 => (o1 x (Nat.lt_of_lt_of_le h1 hS.1)).trans (hS.2.1 x h1 h2), hS.2.2⟩
theorem mr_new (hexec : p.tables.exec = Jvm.exec) (hb : c.code = cc) {own C : String} {T : u_T} {N ci index : Nat} {Ts : List Cond} (hts : ∀ w ∈ Ts, w.before args s = true) (hin : ∀ w ∈ u_ws C T N, w ∈ Ts) (ty : Nat → FieldType) (hty : ∀ k, k < N → parseFieldDescriptor (T k).2.2.1 = some (ty k)) (hown : s.vm.findClass own = some m.cls) (hcl : (Cond.classLink own index C).before args s = true) (hinst : (Cond.instantiable C N).before args s = true) (hini : (Cond.initialized C).before args s = true)
    (hR : Rl D ids A h s H) (hz : H.size = z) (hS : va_S A H0 H locs) (hA : ∀ q, H0.size ≤ q → A q) (hc : vwCl[ci]? = some (C, T, N)) {fs : List Value} (hfs : ∀ j, j < N → defaultValue (ty j) = vp_V fs j) (hcells : cells + 1 ≤ R.cells) (hslots : slots + N ≤ R.slots) (hdg : decode cc pc = .ok (.new index, 3))
    (kk : ∀ H1 : Heap, Rl D ids A (m_up h z (mO ci fs)) s H1 → H1.size = z + 1 → va_S A H0 H1 locs → W p l e R s m args below meth c H1 locs (cells + 1) (slots + N) Q (F0 m (pc + 3) ls (.ref z :: rest))) : W p l e R s m args below meth c H locs cells slots Q (F0 m pc ls rest) := by
  have hKn := hR.1.1 ci _ hc
  subst hz
  refine W.newcK hexec hb hown hcl hinst hini rfl hdg hcells hslots hKn.2.1 rfl fun H1 kC hkC e1 z1 o1 => ?_
  exact kk H1 (hR.push rfl (hA _ hS.1) (show va_at D vwCl (H.size, .inr (ci, fs)) H1 from ⟨_, hc, (u_born ty hts hin hKn hkC e1 hty).to hfs⟩) o1) z1 (hS.grow z1 o1)
theorem mr_newi (hexec : p.tables.exec = Jvm.exec) (hb : c.code = cc) (harr : (Cond.arrayClass .int).before args s = true) (hR : Rl D ids A h s H) (hz : H.size = z) (hS : va_S A H0 H locs) (hA : ∀ q, H0.size ≤ q → A q) {n : Int32} {N : Nat} (hn : ¬ n < 0) (hN : n.toNatClampNeg = N) (hbytes : N * 4 ≤ 536870912) (hcells : cells + 1 ≤ R.cells) (hslots : slots + N ≤ R.slots) (hdg : decode cc pc = .ok (.newarray .int, 2))
    (kk : ∀ H1 : Heap, Rl D ids A (m_up h z (mI N (fun _ => 0))) s H1 → H1.size = z + 1 → va_S A H0 H1 locs → W p l e R s m args below meth c H1 locs (cells + 1) (slots + N) Q (F0 m (pc + 2) ls (.ref z :: rest))) : W p l e R s m args below meth c H locs cells slots Q (F0 m pc ls (.int n :: rest)) := by
  subst hz
  refine va_newaK (atype := .int) hexec hb harr rfl hdg rfl hn hN hbytes hcells hslots rfl fun H1 cA e1 z1 o1 hAr hNm => ?_
  have hid : cA = ids.1 := Option.some.inj (hNm.symm.trans (mr_arr hR 0 rfl).2)
  subst hid
  exact kk H1 (hR.push rfl (hA _ hS.1) (show H1[H.size]? = some (vp_cell ids.1 (N, .inl (fun _ => 0))) from e1) o1) z1 (hS.grow z1 o1)
theorem mr_newl (hexec : p.tables.exec = Jvm.exec) (hb : c.code = cc) (harr : (Cond.arrayClass .long).before args s = true) (hR : Rl D ids A h s H) (hz : H.size = z) (hS : va_S A H0 H locs) (hA : ∀ q, H0.size ≤ q → A q) {n : Int32} {N : Nat} (hn : ¬ n < 0) (hN : n.toNatClampNeg = N) (hbytes : N * 8 ≤ 536870912) (hcells : cells + 1 ≤ R.cells) (hslots : slots + N ≤ R.slots) (hdg : decode cc pc = .ok (.newarray .long, 2))
    (kk : ∀ H1 : Heap, Rl D ids A (m_up h z (mL N (fun _ => 0))) s H1 → H1.size = z + 1 → va_S A H0 H1 locs → W p l e R s m args below meth c H1 locs (cells + 1) (slots + N) Q (F0 m (pc + 2) ls (.ref z :: rest))) : W p l e R s m args below meth c H locs cells slots Q (F0 m pc ls (.int n :: rest)) := by
  subst hz
  refine va_newaK (atype := .long) hexec hb harr rfl hdg rfl hn hN hbytes hcells hslots rfl fun H1 cA e1 z1 o1 hAr hNm => ?_
  have hid : cA = ids.2.1 := Option.some.inj (hNm.symm.trans (mr_arr hR 1 rfl).2)
  subst hid
  exact kk H1 (hR.push rfl (hA _ hS.1) (show H1[H.size]? = some (vp_cell ids.2.1 (N, .inr (.inl (fun _ => 0)))) from e1) o1) z1 (hS.grow z1 o1)
theorem mr_newr (hexec : p.tables.exec = Jvm.exec) (hb : c.code = cc) {own : String} {index : Nat} (hown : s.vm.findClass own = some m.cls) (hclink : (Cond.classLink own index RX3).before args s = true) (hE : m_EV st A s s.heap) (hR : Rl D ids A h s H) (hz : H.size = z) (hS : va_S A H0 H locs) (hA : ∀ q, H0.size ≤ q → A q) {n : Int32} {N : Nat} (hn : ¬ n < 0) (hN : n.toNatClampNeg = N) (hbytes : N * 4 ≤ 536870912) (hcells : cells + 1 ≤ R.cells) (hslots : slots + N ≤ R.slots) (hdg : decode cc pc = .ok (.anewarray index, 3))
    (kk : ∀ H1 : Heap, Rl D ids A (m_up h z (mR N (fun _ => none))) s H1 → H1.size = z + 1 → va_S A H0 H1 locs → W p l e R s m args below meth c H1 locs (cells + 1) (slots + N) Q (F0 m (pc + 3) ls (.ref z :: rest))) : W p l e R s m args below meth c H locs cells slots Q (F0 m pc ls (.int n :: rest)) := by
  subst hz
  subst hN
  have hover : va_AO RX3 s := hE.2.2.2.2.2.2.1
  refine W.anew hexec hb hown hclink (va_AO.use hover) rfl hdg rfl hn hbytes hcells hslots fun cA kA comp f1 f2 f3 f4 => ?_
  generalize hH1 : H.push ({ cls := cA, slots := Array.replicate n.toNatClampNeg .null, vm := .none } : Cell) = H1
  have z1 : H1.size = H.size + 1 := by rw [← hH1, Array.size_push]
  have e1 : H1[H.size]? = some (arrV cA n.toNatClampNeg (fun _ => .null)) := by rw [← hH1, Array.getElem?_push_size, ← arrV_new]
  have o1 : ∀ q : Nat, q < H.size → H1[q]? = H[q]? := fun q hq => by rw [← hH1, Array.getElem?_push, if_neg (Nat.ne_of_lt hq)]
  obtain ⟨kA', comp', k1, k2, k3, k4⟩ := (mr_arr hR 2 rfl).2
  have hid : cA = ids.2.2 := Option.some.inj (f1.symm.trans k4)
  subst hid
  exact kk H1 (hR.push rfl (hA _ hS.1) (show H1[H.size]? = some (vp_cell ids.2.2 (n.toNatClampNeg, .inr (.inr (.inr (.inr (fun _ => none)))))) from e1) o1) z1 (hS.grow z1 o1)
end MNW
/-! OUR OWN: methods that throw -/
section MTH
def mQxi (D : va_G) (ids : m_I3) (A : Nat → Prop) (r : String ⊕ Int32) (h : mH) : Array Value → State → Outcome → State → Prop := va_Qi (fun r' (_ : Unit) => r = .inr r') (fun _ t => Rl D ids A h t t.heap) A
def mXx (D : va_G) (ids : m_I3) (A : Nat → Prop) (r : String ⊕ Int32) (h : mH) : String → State → State → Prop := vx_X (fun (_ : Unit) => True) (fun E _ t => r = .inl E ∧ Rl D ids A h t t.heap) A
def m_nm2 : List String := ["java/lang/RuntimeException", "java/lang/Exception"]
def m_bad (cls : String) : List Cond := [.castable cls cls, .declares ⟨"java/lang/RuntimeException", "<init>", "(Ljava/lang/String;)V"⟩, .declares ⟨"java/lang/Exception", "<init>", "(Ljava/lang/String;)V"⟩, .declares ⟨"java/lang/Throwable", "<init>", "(Ljava/lang/String;)V"⟩]
def m_TX (ik ic : Nat) (cls : String) : Prop := Bundle.fit cls = true ∧ (Cond.classLink RX7 ik cls ∈ wT) ∧ (Cond.initialized cls ∈ wT) ∧ (∀ w ∈ (vx_atS RX7 ic cls m_nm2).filter goodWord, w ∈ wT) ∧ (∀ w ∈ (vx_atS RX7 ic cls m_nm2).filter (fun w => !goodWord w), w ∈ m_bad cls) ∧ (∀ w ∈ Cond.classLink RX7 ik cls :: Cond.initialized cls :: vx_atS RX7 ic cls m_nm2, vx_ot w = true) ∧ cls ∈ m_cs
variable {p : Program} {l : Launch} {e : Env} {R : Room} {s : State} {m : MethodId} {args : Array Value} {below : List Frame} {meth : Method} {c : Code} {H : Heap} {locs : List Loc} {cells slots : Nat} {Q : State → Prop}
variable {cc : ByteArray} {pc : Nat} {ls : Array Slot} {rest st0 : List Value} {D : va_G} {ids : m_I3} {st : m_T} {A : Nat → Prop} {h : mH} {a z : Nat}
theorem mrx_iret {v : Int32} (hexec : p.tables.exec = Jvm.exec) (hb : c.code = cc) (hr : meth.sig.returnType = some .int) (hlocks : meth.locks = false) (hR : Rl D ids A h s H) (hS : va_S A s.heap H locs) (hdg : decode cc pc = .ok (.ireturn, 1)) {XC : String → State → State → Prop} (hc : cells ≤ 1) (hs : slots ≤ 6) : W p l e R s m args below meth c H locs cells slots (vx_MQ below (mQxi D ids A (.inr v) h) XC args s 1 6 A) (F0 m pc ls [.int v]) :=
  W.widen hc hs (vx_ret (W.iret hexec hb hr (fun t ht hW => ⟨⟨v, (), rfl, rfl, by show Rl D ids A h t t.heap; rw [ht]; exact hR.moved hW.alike⟩, hS.F ht⟩) hS.2.2 hdg hlocks))
theorem mr_throw {ik is ic : Nat} {cls text : String} {y0 : MethodName} {cc0 : ByteArray} {n0 nL : Nat} {ret0 : Option FieldType} {Qc : Array Value → State → Outcome → State → Prop} (hexec : p.tables.exec = Jvm.exec) (hb : c.code = cc) (hl : l.stackTraces = false) (hown : s.vm.findClass RX7 = some m.cls) (hts : ∀ w ∈ m_ws y0 cc0 n0 ret0, w.before args s = true) (hml : c.maxLocals = nL) (hE : m_EV st A s s.heap) (hT : m_TX ik ic cls) (hstr : (is, text) ∈ m_sl) (hR : Rl D ids A h s H) (hS : va_S A s.heap H locs) (hsize : ls.size = nL)
    (d0 : decode cc pc = .ok (.new ik, 3)) (d3 : decode cc (pc + 3) = .ok (.dup, 1)) (d4 : decode cc (pc + 4) = .ok (.ldc is, 2)) (d6 : decode cc (pc + 6) = .ok (.invokespecial ic, 3)) (d9 : decode cc (pc + 9) = .ok (.athrow, 1))
    (hout : ∀ x ∈ c.exceptionTable.toList, ∀ q, covers x q = false) (hlocks : meth.locks = false) (hRf : 6 ≤ R.frames) (hRl : (rest.map fun v => v.category).sum + 82 ≤ R.locals) (hRc : cells + 1 ≤ R.cells) (hRs : slots + 6 ≤ R.slots) (hc : cells ≤ 0) (hs : slots ≤ 0) :
    W p l e R s m args below meth c H locs cells slots (vx_MQ below Qc (mXx D ids A (.inl cls) h) args s 1 6 A) (F0 m pc ls rest) := by
  obtain ⟨t1, t2, t3, t4, t5, t6, t7⟩ := hT
  refine vx_throwS (names := m_nm2) (A := A) hexec hb hl hown t1 (by decide) (hts _ (m_ws_in t2)) (hts _ (m_ws_in t3)) (hE.2.2.1 _ hstr)
    (vx_hat (B := m_bad cls) (fun w hw => hts w (m_ws_in (t4 w hw))) t5 ?_) t6 hE.2.2.2.2.1 hE.2.2.2.2.2.1 hS (hsize.trans hml.symm) d0 d3 d4 d6 d9 (fun x hx => hout x hx _) (show 2 + 3 < R.frames from hRf) (show _ + (13 * (2 + 1) + 43) ≤ R.locals from hRl) hRc hRs hlocks ?_ hS.2.2 (by omega) (by omega)
  · intro w hw
    have hX := hE.2.2.2.2.2.2.2
    simp only [m_bad, List.mem_cons, List.not_mem_nil, or_false] at hw
    rcases hw with rfl | rfl | rfl | rfl
    · exact va_Nw.use rfl (hX.1 cls t7)
    · exact va_Nw.use rfl (hX.2.1 _ (List.mem_of_getElem? (i := 0) rfl))
    · exact va_Nw.use rfl (hX.2.1 _ (List.mem_of_getElem? (i := 1) rfl))
    · exact va_Nw.use rfl (hX.2.1 _ (List.mem_of_getElem? (i := 2) rfl))
  · intro t hvm hz hk
    refine ⟨(), trivial, ⟨rfl, (hR.kept hk).moved hvm⟩, ?_, fun q h1 h2 => ?_⟩
    · exact Nat.le_trans hS.1 hz
    · rw [hk q (Nat.lt_of_lt_of_le h1 hS.1)]
      exact hS.2.1 q h1 h2
theorem mrx_of {y : MethodName} {ws ws' : List Cond} {rm : Room} {cc : ByteArray} {maxL : Nat} {ret : Option FieldType} {av : List Value} {Qc : Array Value → State → Outcome → State → Prop} {XC : String → State → State → Prop} {mc ms : Nat} {free : Addr → Prop}
    (hy : plainName y.cls = true) (hw : ws = Cond.code y cc maxL ret :: ws') (hlen : (lg_sl av).length ≤ maxL)
    (body : ∀ (p : Program) (e : Env) (s : State) (m : MethodId) (below : List Frame) (meth : Method) (c : Code) (ls : Array Slot), p.tables.exec = Jvm.exec → c.code = cc → meth.sig.returnType = ret → c.maxLocals = maxL → s.vm.findClass y.cls = some m.cls → (∀ w ∈ ws, w.before av.toArray s = true) → meth.locks = false → meth.name = y.name → (∀ x ∈ c.exceptionTable.toList, ∀ q, covers x q = false) →
      Rl D ids (m_A h z) h s s.heap → m_EV st (m_A h z) s s.heap → s.heap.size = z → lv_has ls maxL (lv_args 0 av) →
      W p l e (headSpec ws rm).room s m av.toArray below meth c s.heap [] 0 0 (vx_MQ below Qc XC av.toArray s mc ms free) (F0 m 0 ls [])) : vx_Met l y ws rm (mPc D ids st av h z) Qc XC mc ms free := by
  refine vx_ofW (cc := cc) (maxL := maxL) (ret := ret) hy hw ?_
  intro p e s m args below meth c s₁ B hml hno hv
  obtain ⟨rfl, hR, hE, hz⟩ := hv
  have hl := lv_entry av (n := maxL) hlen
  rw [lg_entry_eq]
  have hts := atoms_spec (ws := ws) B.pre
  exact body p e s m below meth c _ B.exec B.bytes B.returns hml (findClass_of_methodNamed B.named) hts B.notSynchronized (name_of_methodNamed B.named B.method).1 (fun x hx => (hno x hx).elim) hR hE hz hl
theorem m_z_fit {v w : Int32} (hg : m_z v = some w) : fits .boolean (.int v) = true := by
  unfold m_z at hg
  split at hg
  · rename_i hc
    rcases hc with rfl | rfl <;> rfl
  · cases hg
def mQwi (D : va_G) (ids : m_I3) (A : Nat → Prop) (r : Int32) (h : mH) : Array Value → State → Outcome → State → Prop := va_Qi (fun r' (_ : Unit) => r' = r) (fun _ t => Rl D ids A h t t.heap) A
theorem mrw_iret {v : Int32} (hexec : p.tables.exec = Jvm.exec) (hb : c.code = cc) (hr : meth.sig.returnType = some .int) (hlocks : meth.locks = false) (hR : Rl D ids A h s H) (hS : va_S A s.heap H locs) (hdg : decode cc pc = .ok (.ireturn, 1)) (hc : cells ≤ 1) (hs : slots ≤ 6) : W p l e R s m args below meth c H locs cells slots (MQ below (mQwi D ids A v h) args s 1 6 A) (F0 m pc ls [.int v]) :=
  W.widen hc hs (W.iret hexec hb hr (fun t ht hW => ⟨⟨v, (), rfl, rfl, by show Rl D ids A h t t.heap; rw [ht]; exact hR.moved hW.alike⟩, hS.F ht⟩) hS.2.2 hdg hlocks)
/-- a method with a table of its own that returns in every case -/
def m_wsH (y : MethodName) (cc : ByteArray) (n : Nat) (ret : Option FieldType) (hh : List (Nat × Nat × Nat × Nat)) : List Cond := Cond.codeWith y cc n ret hh :: wT
theorem mr_ofH {y : MethodName} {ws ws' : List Cond} {rm : Room} {cc : ByteArray} {maxL : Nat} {ret : Option FieldType} {hh : List (Nat × Nat × Nat × Nat)} {av : List Value} {Qc : Array Value → State → Outcome → State → Prop} {mc ms : Nat} {free : Addr → Prop}
    (hy : plainName y.cls = true) (hw : ws = Cond.codeWith y cc maxL ret hh :: ws') (hlen : (lg_sl av).length ≤ maxL)
    (body : ∀ (p : Program) (e : Env) (s : State) (m : MethodId) (below : List Frame) (meth : Method) (c : Code) (ls : Array Slot), p.tables.exec = Jvm.exec → c.code = cc → meth.sig.returnType = ret → c.maxLocals = maxL → s.vm.findClass y.cls = some m.cls → (∀ w ∈ ws, w.before av.toArray s = true) → meth.locks = false → meth.name = y.name → c.exceptionTable.toList = tableOf hh →
      Rl D ids (m_A h z) h s s.heap → m_EV st (m_A h z) s s.heap → s.heap.size = z → lv_has ls maxL (lv_args 0 av) →
      W p l e (headSpec ws rm).room s m av.toArray below meth c s.heap [] 0 0 (MQ below Qc av.toArray s mc ms free) (F0 m 0 ls [])) : Met l y ws rm (mPc D ids st av h z) Qc mc ms free := by
  refine MetFree.of_bodyS (code := cc) (maxLocals := maxL) (ret := ret) hy ?_ ?_
  · intro args s m h hn
    obtain ⟨m9, meth, c, hn9, h1, h2, h3, h4, -, h5, h6, -⟩ := Cond.codeWith_spec (atoms_spec (ws := ws) h _ (by rw [hw]; exact List.mem_cons_self))
    cases hn.symm.trans hn9
    exact ⟨meth, c, h1, h2, h3, h4, h5, h6⟩
  · intro p e s m args below meth c s₁ B hml hP _
    obtain ⟨rfl, hR, hE, hz⟩ := hP
    have hh0 : s₁.heap = s.heap := by rw [B.state]; rfl
    have hl := lv_entry av (n := maxL) hlen
    have hts := atoms_spec (ws := ws) B.pre
    have hb0 := body p e s m below meth c _ B.exec B.bytes B.returns hml (findClass_of_methodNamed B.named) hts B.notSynchronized (name_of_methodNamed B.named B.method).1 (vx_table (x := y) B (hts _ (by rw [hw]; exact List.mem_cons_self))) hR hE hz hl
    rw [← lg_entry_eq] at hb0
    obtain ⟨t, a1, o, b1, b2, b3⟩ := hb0 s₁ hh0 (Stand.of_body B)
    exact ⟨t, o, a1, b1, b2, ⟨b3.1, b3.2⟩⟩
theorem mr_catch0 {own cls : String} {a1 b1 hp ct : Nat} {hs : List (Nat × Nat × Nat × Nat)} {ce : Cell} {q : Addr} (hown : s.vm.findClass own = some m.cls) (htab : c.exceptionTable.toList = tableOf ((a1, b1, hp, ct) :: hs)) (hx : covers ⟨a1, b1, hp, ct⟩ pc = true) (h0 : ct ≠ 0) (hlink : (Cond.classLink own ct cls).before args s = true) (hE : m_EX s) (hm : cls ∈ m_cs) (hcell : H[q]? = some ce) (hv : ce.vm = .none) (hcl : s.vm.findClass cls = some ce.cls)
    (kk : W p l e R s m args below meth c H locs cells slots Q (F0 m hp ls [.ref q])) : vx_W p l e R s m args below meth c H locs cells slots Q (F0 m pc ls rest) q :=
  vx_catch hown [] ⟨a1, b1, hp, ct⟩ (tableOf hs) (by rw [htab]; rfl) (fun z h => by cases h) hx h0 hlink (va_Nw.use rfl (hE.1 cls hm)) hcell hv hcl kk
theorem mr_catch1 {own cls cls0 : String} {a1 b1 hp ct a0 b0 hp0 ct0 : Nat} {hs : List (Nat × Nat × Nat × Nat)} {ce : Cell} {q : Addr} (hown : s.vm.findClass own = some m.cls) (htab : c.exceptionTable.toList = tableOf ((a0, b0, hp0, ct0) :: (a1, b1, hp, ct) :: hs)) (hx : covers ⟨a1, b1, hp, ct⟩ pc = true) (h0 : ct ≠ 0) (h00 : ct0 ≠ 0) (hlink : (Cond.classLink own ct cls).before args s = true) (hlink0 : (Cond.classLink own ct0 cls0).before args s = true) (hE : m_EX s) (hm : cls ∈ m_cs) (hnc : (cls, cls0) ∈ m_nc) (hcell : H[q]? = some ce) (hv : ce.vm = .none) (hcl : s.vm.findClass cls = some ce.cls)
    (kk : W p l e R s m args below meth c H locs cells slots Q (F0 m hp ls [.ref q])) : vx_W p l e R s m args below meth c H locs cells slots Q (F0 m pc ls rest) q :=
  vx_catch hown [⟨a0, b0, hp0, ct0⟩] ⟨a1, b1, hp, ct⟩ (tableOf hs) (by rw [htab]; rfl) (fun z h => by
    rw [List.mem_singleton.mp h]
    exact Or.inr ⟨h00, cls0, hlink0, hE.2.2 _ hnc⟩) hx h0 hlink (va_Nw.use rfl (hE.1 cls hm)) hcell hv hcl kk
variable {cc0 bytes : ByteArray} {nL n0 maxL index : Nat} {As : List Value} {y y0 : MethodName} {ret ret0 : Option FieldType} {rm : Room} {Pc : Array Value → State → Prop} {Qc : Array Value → State → Outcome → State → Prop} {XC : String → State → State → Prop} {free : Nat → Prop} {own C : String}
theorem mrx_runV {hh : List (Nat × Nat × Nat × Nat)} (hexec : p.tables.exec = Jvm.exec) (hb : c.code = cc) (hml : c.maxLocals = nL) (hown : s.vm.findClass own = some m.cls) (hts : ∀ w ∈ m_wsH y0 cc0 n0 ret0 hh, w.before args s = true) (hM : vx_Met l y (m_ws y bytes maxL ret) rm Pc Qc XC rm.cells rm.slots free) (hk : m_K y bytes maxL ret As.length) (hst : Cond.instanceMethod y ∈ wT ∧ Cond.selects C y y ∈ wT) (hlink : Cond.methodLink own index y ∈ wT)
    (hRm : rm.frames + 1 ≤ R.frames ∧ 8 + (maxL + 11) + rm.locals ≤ R.locals) (hp : PreV s H C a Pc As) (hsize : ls.size = nL) (hstack : st0 = As.reverse ++ .ref a :: rest) (hW : (rest.map fun v => v.category).sum ≤ 8) (hdg : decode cc pc = .ok (.invokevirtual index, 3)) (hf : cells + rm.cells ≤ R.cells ∧ slots + rm.slots ≤ R.slots) :
    vx_Run p l e R s m args below meth c H locs cells slots rm.cells rm.slots (F0 m pc ls st0) rest (Qc (Value.ref a :: As).toArray) XC free := by
  have hG : GoodIn (m_wsH y0 cc0 n0 ret0 hh) (m_ws y bytes maxL ret) := by
    intro w hw
    rcases List.mem_cons.mp hw with h | h
    · subst h
      exact ⟨List.mem_cons_of_mem _ hk.1, (w_good _ hk.1).2⟩
    · exact ⟨List.mem_cons_of_mem _ h, (w_good _ h).2⟩
  have ok : ∀ w ∈ wT, w.before args s = true := fun w h => hts w (List.mem_cons_of_mem _ h)
  exact vx_runV (Ts := m_wsH y0 cc0 n0 ret0 hh) ⟨hexec, hb, hml, hown, hts⟩ hM ⟨callB_of As.length hts hG rfl rfl rfl (ok _ hk.2.1) (ok _ hlink) hk.2.2 hRm, ok _ hst.1, ok _ hst.2⟩ hp rfl rfl hsize hstack (lv_room hW) hdg hf
theorem mrx_calli {h1 : mH} {mc ms : Nat} {r : String ⊕ Int32} {a1 : Array Value} (hr : vx_Run p l e R s m args below meth c H locs cells slots mc ms (F0 m pc ls st0) rest (mQxi D ids (m_A h z) r h1 a1) (mXx D ids (m_A h z) r h1) (m_A h z)) (hR : Rl D ids A h s H) (hz : H.size = z) (hS : va_S A s.heap H locs) (hA : ∀ q, s.heap.size ≤ q → A q)
    (kx : ∀ (E : String) (ce : Cell) (q9 : Addr) (H1 : Heap) (locs1 : List Loc), r = .inl E → Rl D ids A h1 s H1 → va_S A s.heap H1 locs1 → H1[q9]? = some ce → ce.vm = .none → s.vm.findClass E = some ce.cls → vx_W p l e R s m args below meth c H1 locs1 (cells + mc) (slots + ms) Q (F0 m pc ls rest) q9)
    (kk : ∀ (r' : Int32) (H1 : Heap) (locs1 : List Loc), r = .inr r' → Rl D ids A h1 s H1 → va_S A s.heap H1 locs1 → W p l e R s m args below meth c H1 locs1 (cells + mc) (slots + ms) Q (F0 m (pc + 3) ls (.int r' :: rest))) : W p l e R s m args below meth c H locs cells slots Q (F0 m pc ls st0) := by
  have hF := mr_free hR hz hS hA rfl
  refine vx_calli hr hS (fun q _ hq => hF q hq) hF (fun q _ hq => hF q hq) (fun E ce q9 u t H1 locs1 ht hvm _ hB _ _ hS1 hce hcv hcl => ?_) (fun r' u t H1 locs1 ht hvm hp hB _ _ hS1 => ?_)
  · obtain ⟨e1, r1⟩ := hB
    rw [ht] at r1
    exact kx E ce q9 H1 locs1 e1 ⟨hR.1, fun a e q => (r1.2.1 a e q).moved hvm.symm, fun q hq => hF q (r1.2.2 q hq)⟩ hS1 hce hcv hcl
  · have r1 : Rl D ids (m_A h z) h1 t t.heap := hB
    rw [ht] at r1
    exact kk r' H1 locs1 hp ⟨hR.1, fun a e q => (r1.2.1 a e q).moved hvm.symm, fun q hq => hF q (r1.2.2 q hq)⟩ hS1
/-- a call of one of the law's own static methods with a table -/
def m_KH (y : MethodName) (bytes : ByteArray) (maxL : Nat) (ret : Option FieldType) (hh : List (Nat × Nat × Nat × Nat)) (n : Nat) : Prop :=
  (Cond.codeWith y bytes maxL ret hh ∈ wT) ∧ (Cond.initialized y.cls ∈ wT) ∧ (y.cls ≠ "java/lang/invoke/MethodHandle" ∧ y.cls ≠ "java/lang/invoke/VarHandle" ∧ (parseMethodDescriptor y.desc).map (fun d => d.parameters.length) = some n)
theorem mr_runSW {hh : List (Nat × Nat × Nat × Nat)} (hexec : p.tables.exec = Jvm.exec) (hb : c.code = cc) (hml : c.maxLocals = nL) (hown : s.vm.findClass own = some m.cls) (hts : ∀ w ∈ m_ws y0 cc0 n0 ret0, w.before args s = true) (hM : Met l y (m_wsH y bytes maxL ret hh) rm Pc Qc rm.cells rm.slots free) (hk : m_KH y bytes maxL ret hh As.length) (hst : Cond.static y ∈ wT) (hlink : Cond.methodLink own index y ∈ wT)
    (hRm : rm.frames + 1 ≤ R.frames ∧ 8 + (maxL + 11) + rm.locals ≤ R.locals) (hp : PreS s H Pc As) (hsize : ls.size = nL) (hstack : st0 = As.reverse ++ rest) (hW : (rest.map fun v => v.category).sum ≤ 8) (hdg : decode cc pc = .ok (.invokestatic index, 3)) (hf : cells + rm.cells ≤ R.cells ∧ slots + rm.slots ≤ R.slots) :
    va_Run p l e R s m args below meth c H locs cells slots rm.cells rm.slots (F0 m pc ls st0) rest (Qc As.toArray) free := by
  have ok : ∀ w ∈ wT, w.before args s = true := fun w h => hts w (m_ws_in h)
  have hG : GoodIn (va_wsS own index y (m_wsH y bytes maxL ret hh) ++ wT) (va_wsS own index y (m_wsH y bytes maxL ret hh)) := by
    intro w hw
    refine ⟨List.mem_append_left _ hw, ?_⟩
    have : w ∈ wT := by
      rcases List.mem_append.mp hw with h | h
      · simp only [List.mem_cons, List.not_mem_nil, or_false] at h
        rcases h with rfl | rfl | rfl
        · exact hlink
        · exact hst
        · exact hk.2.1
      · rcases List.mem_cons.mp h with h | h
        · subst h; exact hk.1
        · exact h
    exact (w_good _ this).2
  have hts2 : ∀ w ∈ va_wsS own index y (m_wsH y bytes maxL ret hh) ++ wT, w.before args s = true := by
    intro w hw
    rcases List.mem_append.mp hw with hw | hw
    · rcases List.mem_append.mp hw with h | h
      · simp only [List.mem_cons, List.not_mem_nil, or_false] at h
        rcases h with rfl | rfl | rfl
        · exact ok _ hlink
        · exact ok _ hst
        · exact ok _ hk.2.1
      · rcases List.mem_cons.mp h with h | h
        · subst h; exact ok _ hk.1
        · exact ok _ h
    · exact ok _ hw
  exact vx_runSW (Ts := va_wsS own index y (m_wsH y bytes maxL ret hh) ++ wT) ⟨hexec, hb, hml, hown, hts2⟩ hM (vx_cwSW As.length hts2 hG rfl rfl rfl hk.2.2 hRm) hp rfl rfl hsize hstack (lv_room hW) hdg hf
theorem mrw_calli {h1 : mH} {mc ms : Nat} {r : Int32} {a1 : Array Value} (hr : va_Run p l e R s m args below meth c H locs cells slots mc ms (F0 m pc ls st0) rest (mQwi D ids (m_A h z) r h1 a1) (m_A h z)) (hR : Rl D ids A h s H) (hz : H.size = z) (hS : va_S A s.heap H locs) (hA : ∀ q, s.heap.size ≤ q → A q)
    (kk : ∀ (H1 : Heap) (locs1 : List Loc), Rl D ids A h1 s H1 → va_S A s.heap H1 locs1 → W p l e R s m args below meth c H1 locs1 (cells + mc) (slots + ms) Q (F0 m (pc + 3) ls (.int r :: rest))) : W p l e R s m args below meth c H locs cells slots Q (F0 m pc ls st0) := by
  have hF := mr_free hR hz hS hA rfl
  refine va_calli hr hS (fun q _ hq => hF q hq) hF (fun r' u t H1 locs1 ht hvm hp hB _ _ hS1 => ?_)
  obtain rfl : r' = r := hp
  have r1 : Rl D ids (m_A h z) h1 t t.heap := hB
  rw [ht] at r1
  exact kk H1 locs1 ⟨hR.1, fun a e q => (r1.2.1 a e q).moved hvm.symm, fun q hq => hF q (r1.2.2 q hq)⟩ hS1
end MTH
