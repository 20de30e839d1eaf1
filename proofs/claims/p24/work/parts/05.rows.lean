/-! OUR OWN: what an answer of the small heap says -/
section MS
theorem m_iald_spec {h : mH} {a : Nat} {i v : Int32} (hg : m_iald h a i = some v) : ∃ (b : Bool) (n : Nat) (f : Nat → Int32), h a = some (.inl (b, n, f)) ∧ ¬ (i < 0) ∧ i.toNatClampNeg < n ∧ f i.toNatClampNeg = v := by
  unfold m_iald at hg
  split at hg
  · rename_i b n f hh
    split at hg
    · rename_i hc
      exact ⟨b, n, f, hh, hc.1, hc.2, Option.some.inj hg⟩
    · cases hg
  · cases hg
theorem m_iast_spec {h h' : mH} {a : Nat} {i x : Int32} (hg : m_iast h a i x = some h') : ∃ (n : Nat) (f : Nat → Int32), h a = some (mI n f) ∧ ¬ (i < 0) ∧ i.toNatClampNeg < n ∧ m_up h a (mI n (upd f i.toNatClampNeg x)) = h' := by
  unfold m_iast at hg
  split at hg
  · rename_i n f hh
    split at hg
    · rename_i hc
      exact ⟨n, f, hh, hc.1, hc.2, Option.some.inj hg⟩
    · cases hg
  · cases hg
theorem m_lald_spec {h : mH} {a : Nat} {i : Int32} {v : Int64} (hg : m_lald h a i = some v) : ∃ (n : Nat) (f : Nat → Int64), h a = some (mL n f) ∧ ¬ (i < 0) ∧ i.toNatClampNeg < n ∧ f i.toNatClampNeg = v := by
  unfold m_lald at hg
  split at hg
  · rename_i n f hh
    split at hg
    · rename_i hc
      exact ⟨n, f, hh, hc.1, hc.2, Option.some.inj hg⟩
    · cases hg
  · cases hg
theorem m_last_spec {h h' : mH} {a : Nat} {i : Int32} {x : Int64} (hg : m_last h a i x = some h') : ∃ (n : Nat) (f : Nat → Int64), h a = some (mL n f) ∧ ¬ (i < 0) ∧ i.toNatClampNeg < n ∧ m_up h a (mL n (vp_updL f i.toNatClampNeg x)) = h' := by
  unfold m_last at hg
  split at hg
  · rename_i n f hh
    split at hg
    · rename_i hc
      exact ⟨n, f, hh, hc.1, hc.2, Option.some.inj hg⟩
    · cases hg
  · cases hg
theorem m_aald_spec {h : mH} {a : Nat} {i : Int32} {v : Option Nat} (hg : m_aald h a i = some v) : ∃ (n : Nat) (f : Nat → Option Nat), h a = some (mR n f) ∧ ¬ (i < 0) ∧ i.toNatClampNeg < n ∧ f i.toNatClampNeg = v := by
  unfold m_aald at hg
  split at hg
  · rename_i n f hh
    split at hg
    · rename_i hc
      exact ⟨n, f, hh, hc.1, hc.2, Option.some.inj hg⟩
    · cases hg
  · cases hg
theorem m_aast_spec {h h' : mH} {a : Nat} {i : Int32} {v : Nat} (hg : m_aast h a i v = some h') : ∃ (n : Nat) (f : Nat → Option Nat) (fs : List Value), h a = some (mR n f) ∧ h v = some (mO 2 fs) ∧ ¬ (i < 0) ∧ i.toNatClampNeg < n ∧ m_up h a (mR n (va_up f i.toNatClampNeg (some v))) = h' := by
  unfold m_aast at hg
  split at hg
  · rename_i n f c fs hh hv
    split at hg
    · rename_i hc
      obtain ⟨rfl, h1, h2⟩ := hc
      exact ⟨n, f, fs, hh, hv, h1, h2, Option.some.inj hg⟩
    · cases hg
  · cases hg
theorem m_ilen_spec {h : mH} {a : Nat} {v : Int32} (hg : m_ilen h a = some v) : ∃ (b : Bool) (n : Nat) (f : Nat → Int32), h a = some (.inl (b, n, f)) ∧ Int32.ofNat n = v := by
  unfold m_ilen at hg
  split at hg
  · rename_i b n f hh
    exact ⟨b, n, f, hh, Option.some.inj hg⟩
  · cases hg
theorem m_alen_spec {h : mH} {a : Nat} {v : Int32} (hg : m_alen h a = some v) : ∃ (n : Nat) (f : Nat → Option Nat), h a = some (mR n f) ∧ Int32.ofNat n = v := by
  unfold m_alen at hg
  split at hg
  · rename_i n f hh
    exact ⟨n, f, hh, Option.some.inj hg⟩
  · cases hg
theorem m_get_spec {h : mH} {ci a k : Nat} {v : Value} (hg : m_get h ci a k = some v) : ∃ fs : List Value, h a = some (mO ci fs) ∧ fs[k]? = some v := by
  unfold m_get at hg
  split at hg
  · rename_i c fs hh
    split at hg
    · rename_i hc
      subst hc
      exact ⟨fs, hh, hg⟩
    · cases hg
  · cases hg
theorem m_gi_spec {h : mH} {ci a k : Nat} {v : Int32} (hg : m_gi h ci a k = some v) : m_get h ci a k = some (.int v) := by
  unfold m_gi at hg
  split at hg
  · rename_i w hw
    rw [hw, Option.some.inj hg]
  · cases hg
theorem m_gl_spec {h : mH} {ci a k : Nat} {v : Int64} (hg : m_gl h ci a k = some v) : m_get h ci a k = some (.long v) := by
  unfold m_gl at hg
  split at hg
  · rename_i w hw
    rw [hw, Option.some.inj hg]
  · cases hg
theorem m_gr_spec {h : mH} {ci a k : Nat} {v : Nat} (hg : m_gr h ci a k = some v) : m_get h ci a k = some (.ref v) := by
  unfold m_gr at hg
  split at hg
  · rename_i w hw
    rw [hw, Option.some.inj hg]
  · cases hg
theorem m_put_spec {h h' : mH} {ci a k : Nat} {v : Value} (hg : m_put h ci a k v = some h') : ∃ fs : List Value, h a = some (mO ci fs) ∧ k < fs.length ∧ m_up h a (mO ci (fs.set k v)) = h' := by
  unfold m_put at hg
  split at hg
  · rename_i c fs hh
    split at hg
    · rename_i hc
      obtain ⟨rfl, h1⟩ := hc
      exact ⟨fs, hh, h1, Option.some.inj hg⟩
    · cases hg
  · cases hg
theorem m_is_spec {h : mH} {ci a : Nat} {u : Unit} (hg : m_is h ci a = some u) : ∃ fs : List Value, h a = some (mO ci fs) := by
  unfold m_is at hg
  split at hg
  · rename_i c fs hh
    split at hg
    · rename_i hc
      subst hc
      exact ⟨fs, hh⟩
    · cases hg
  · cases hg
theorem m_z_spec {v w : Int32} (hg : m_z v = some w) : v = w ∧ narrow .boolean (.int v) = .int v := by
  unfold m_z at hg
  split at hg
  · rename_i hc
    refine ⟨Option.some.inj hg, ?_⟩
    rcases hc with rfl | rfl <;> rfl
  · cases hg
theorem m_div_spec {x y v : Int32} (hg : m_div x y = some v) : ¬ y = 0 ∧ x / y = v := by
  unfold m_div at hg
  split at hg
  · cases hg
  · rename_i hc
    exact ⟨hc, Option.some.inj hg⟩
theorem m_rem_spec {x y v : Int32} (hg : m_rem x y = some v) : ¬ y = 0 ∧ x - x / y * y = v := by
  unfold m_rem at hg
  split at hg
  · cases hg
  · rename_i hc
    exact ⟨hc, Option.some.inj hg⟩
theorem m_d_spec {x v : UInt64} (hg : m_d x = some v) : vf_n64 x ∧ x = v := by
  unfold m_d at hg
  split at hg
  · rename_i hc
    exact ⟨hc, Option.some.inj hg⟩
  · cases hg
theorem m_bind {α β : Type} {o : Option α} {f : α → Option β} {r : β} (h : o.bind f = some r) : ∃ v, o = some v ∧ f v = some r := Option.bind_eq_some_iff.mp h
theorem m_wr_of {h : mH} {a : Nat} {e : mE} (q : h a = some e) (he : ∀ n f, e ≠ .inl (false, n, f)) : m_wr h a := by
  unfold m_wr
  rw [q]
  match e, he with
  | .inl (true, n, f), _ => trivial
  | .inl (false, n, f), he => exact absurd rfl (he n f)
  | .inr _, _ => trivial
end MS
/-! OUR OWN: rows of the machine over the small heap -/
section MRW
variable {p : Program} {l : Launch} {e : Env} {R : Room} {s : State} {m : MethodId} {args : Array Value} {below : List Frame} {meth : Method} {c : Code} {H : Heap} {locs : List Loc} {cells slots : Nat} {Q : State → Prop}
variable {cc : ByteArray} {pc : Nat} {ls : Array Slot} {rest : List Value} {D : va_G} {ids : m_I3} {A : Nat → Prop} {h : mH} {a z : Nat} {H0 : Heap}
theorem mr_at1 (hR : Rl D ids A h s H) {ci : Nat} {fs : List Value} (q : h a = some (mO ci fs)) : va_P D vwCl [(a, .inr (ci, fs))] H := by
  intro k x hx
  match k, hx with
  | 0, hx => cases hx; exact hR.2.1 a _ q
  | k + 1, hx => simp at hx
theorem mr_get (hexec : p.tables.exec = Jvm.exec) (hb : c.code = cc) {own ref C : String} {T : u_T} {N ci index : Nat} {Ts : List Cond} (hts : ∀ w ∈ Ts, w.before args s = true) (hin : ∀ w ∈ u_ws C T N, w ∈ Ts) (hown : s.vm.findClass own = some m.cls) (hR : Rl D ids A h s H) (hc : vwCl[ci]? = some (C, T, N)) (k : Nat) (hk : k < N) (hlink : (Cond.fieldLink own index ref (T k).2.1 (T k).2.2.1).before args s = true) (hsame : ∀ x, s.fieldFound? (T k).1 (T k).2.1 (T k).2.2.1 = some x → s.fieldFound? ref (T k).2.1 (T k).2.2.1 = some x) {v : Value} (hv : m_get h ci a k = some v) (hdg : decode cc pc = .ok (.getfield index, 3))
    (kk : W p l e R s m args below meth c H locs cells slots Q (F0 m (pc + 3) ls (v :: rest))) : W p l e R s m args below meth c H locs cells slots Q (F0 m pc ls (.ref a :: rest)) := by
  obtain ⟨fs, h1, h2⟩ := m_get_spec hv
  exact va_get hexec hb hts hin hown hR.1 (mr_at1 hR h1) 0 rfl hc k hk hlink hsame h2 hdg kk
theorem mr_getN (hexec : p.tables.exec = Jvm.exec) (hb : c.code = cc) {own ref C host : String} {T : u_T} {N ci index : Nat} {Ts : List Cond} (hts : ∀ w ∈ Ts, w.before args s = true) (hin : ∀ w ∈ u_ws C T N, w ∈ Ts) (hown : s.vm.findClass own = some m.cls) (hR : Rl D ids A h s H) (hc : vwCl[ci]? = some (C, T, N)) (k : Nat) (hk : k < N) (hlink : va_Nw (Cond.fieldLinkNest own index ref (T k).2.1 (T k).2.2.1 host) s) (hsame : ∀ x, s.fieldFound? (T k).1 (T k).2.1 (T k).2.2.1 = some x → s.fieldFound? ref (T k).2.1 (T k).2.2.1 = some x) {v : Value} (hv : m_get h ci a k = some v) (hdg : decode cc pc = .ok (.getfield index, 3))
    (kk : W p l e R s m args below meth c H locs cells slots Q (F0 m (pc + 3) ls (v :: rest))) : W p l e R s m args below meth c H locs cells slots Q (F0 m pc ls (.ref a :: rest)) := by
  obtain ⟨fs, h1, h2⟩ := m_get_spec hv
  exact va_getN hexec hb hts hin hown hR.1 (mr_at1 hR h1) 0 rfl hc k hk (va_Nw.use rfl hlink) hsame h2 hdg kk
theorem mr_put (hexec : p.tables.exec = Jvm.exec) (hb : c.code = cc) {own ref C : String} {T : u_T} {N ci index : Nat} {Ts : List Cond} (hts : ∀ w ∈ Ts, w.before args s = true) (hin : ∀ w ∈ u_ws C T N, w ∈ Ts) (ty0 : Nat → FieldType) (hty : ∀ k, k < N → parseFieldDescriptor (T k).2.2.1 = some (ty0 k)) (hnm : ∀ a, a < N → ∀ b, b < N → a ≠ b → (T a).2.1 ≠ (T b).2.1) (hown : s.vm.findClass own = some m.cls) (hR : Rl D ids A h s H) (hz : H.size = z) (hS0 : va_S A H0 H locs) (hc : vwCl[ci]? = some (C, T, N)) (k : Nat) (hk : k < N) (hlink : (Cond.fieldLink own index ref (T k).2.1 (T k).2.2.1).before args s = true) (hsame : ∀ x, s.fieldFound? (T k).1 (T k).2.1 (T k).2.2.1 = some x → s.fieldFound? ref (T k).2.1 (T k).2.2.1 = some x) (hfin : (T k).2.2.2 = false) {ty : FieldType} {v : Value} (hd : parseFieldDescriptor (T k).2.2.1 = some ty) (hn : narrow ty v = v) (hfit : fits ty v = true) {h' : mH} (hp : m_put h ci a k v = some h')
    (hdg : decode cc pc = .ok (.putfield index, 3)) (kk : ∀ (H1 : Heap) (locs1 : List Loc), Rl D ids A h' s H1 → H1.size = z → va_S A H0 H1 locs1 → W p l e R s m args below meth c H1 locs1 cells slots Q (F0 m (pc + 3) ls rest)) : W p l e R s m args below meth c H locs cells slots Q (F0 m pc ls (v :: .ref a :: rest)) := by
  obtain ⟨fs, p1, hl, rfl⟩ := m_put_spec hp
  have hK := hR.1
  have hap := va_apart (own := own) hts hin ty0 hty hnm hK hc
  obtain ⟨r, h1, cell, q1, q2, q3, q4⟩ := mr_at1 hR p1 0 _ rfl
  have hr : r = (C, T, N) := Option.some.inj (h1.symm.trans hc)
  subst hr
  obtain ⟨hS, hfc, kC, hkC, hkind⟩ := hK.1 ci _ hc
  obtain ⟨cf, kf, fi, f, hi, hsl⟩ := hS k hk
  have hlay := hts _ (hin _ (u_in_lay hk))
  unfold u_lay at hlay
  rw [if_neg (by rw [hfin]; decide)] at hlay
  have hst := (u_facts hfc hkC (u_lays hts hin hk) hi).1
  have h6 := u_store hfc hkC hkind hlay hi hd hn hfit
  refine W.putK hexec hb (f := f) ⟨hown, hlink, ⟨_, _, _, hsame _ hi⟩, hst⟩ (by rw [q2]; exact h6) q1 q3 (by rw [hsl]; exact k2_hasslot (q4 k hk)) rfl rfl hdg fun H' e1 e2 e3 => ?_
  rw [hsl] at e1 ⊢
  have hw : m_wr h a := m_wr_of p1 (fun _ _ q => by cases q)
  exact kk H' _ (hR.up hw (show va_at D vwCl (a, .inr (ci, fs.set k v)) H' from ⟨_, hc, t_OB.to (V := updV (vp_V fs) k v) ⟨_, e1, q2, q3, t_set q4 hap hk v⟩ (fun j _ => vp_updV_set hl v j)⟩) e3) (e2.trans hz) (hS0.put e2 e3 (hR.2.2 a hw))
theorem mr_putN (hexec : p.tables.exec = Jvm.exec) (hb : c.code = cc) {own ref C host : String} {T : u_T} {N ci index : Nat} {Ts : List Cond} (hts : ∀ w ∈ Ts, w.before args s = true) (hin : ∀ w ∈ u_ws C T N, w ∈ Ts) (ty0 : Nat → FieldType) (hty : ∀ k, k < N → parseFieldDescriptor (T k).2.2.1 = some (ty0 k)) (hnm : ∀ a, a < N → ∀ b, b < N → a ≠ b → (T a).2.1 ≠ (T b).2.1) (hown : s.vm.findClass own = some m.cls) (hR : Rl D ids A h s H) (hz : H.size = z) (hS0 : va_S A H0 H locs) (hc : vwCl[ci]? = some (C, T, N)) (k : Nat) (hk : k < N) (hlink : va_Nw (Cond.fieldLinkNest own index ref (T k).2.1 (T k).2.2.1 host) s) (hsame : ∀ x, s.fieldFound? (T k).1 (T k).2.1 (T k).2.2.1 = some x → s.fieldFound? ref (T k).2.1 (T k).2.2.1 = some x) (hfin : (T k).2.2.2 = false) {ty : FieldType} {v : Value} (hd : parseFieldDescriptor (T k).2.2.1 = some ty) (hn : narrow ty v = v) (hfit : fits ty v = true) {h' : mH} (hp : m_put h ci a k v = some h')
    (hdg : decode cc pc = .ok (.putfield index, 3)) (kk : ∀ (H1 : Heap) (locs1 : List Loc), Rl D ids A h' s H1 → H1.size = z → va_S A H0 H1 locs1 → W p l e R s m args below meth c H1 locs1 cells slots Q (F0 m (pc + 3) ls rest)) : W p l e R s m args below meth c H locs cells slots Q (F0 m pc ls (v :: .ref a :: rest)) := by
  obtain ⟨fs, p1, hl, rfl⟩ := m_put_spec hp
  have hK := hR.1
  have hap := va_apart (own := own) hts hin ty0 hty hnm hK hc
  obtain ⟨r, h1, cell, q1, q2, q3, q4⟩ := mr_at1 hR p1 0 _ rfl
  have hr : r = (C, T, N) := Option.some.inj (h1.symm.trans hc)
  subst hr
  obtain ⟨hS, hfc, kC, hkC, hkind⟩ := hK.1 ci _ hc
  obtain ⟨cf, kf, fi, f, hi, hsl⟩ := hS k hk
  have hlay := hts _ (hin _ (u_in_lay hk))
  unfold u_lay at hlay
  rw [if_neg (by rw [hfin]; decide)] at hlay
  have hst := (u_facts hfc hkC (u_lays hts hin hk) hi).1
  have h6 := u_store hfc hkC hkind hlay hi hd hn hfit
  refine va_WputK hexec hb (f := f) hown (va_Nw.use rfl hlink) (hsame _ hi) hst (by rw [q2]; exact h6) q1 q3 (by rw [hsl]; exact k2_hasslot (q4 k hk)) rfl rfl hdg fun H' e1 e2 e3 => ?_
  rw [hsl] at e1 ⊢
  have hw : m_wr h a := m_wr_of p1 (fun _ _ q => by cases q)
  exact kk H' _ (hR.up hw (show va_at D vwCl (a, .inr (ci, fs.set k v)) H' from ⟨_, hc, t_OB.to (V := updV (vp_V fs) k v) ⟨_, e1, q2, q3, t_set q4 hap hk v⟩ (fun j _ => vp_updV_set hl v j)⟩) e3) (e2.trans hz) (hS0.put e2 e3 (hR.2.2 a hw))
theorem mr_putF (hexec : p.tables.exec = Jvm.exec) (hb : c.code = cc) {own ref C : String} {T : u_T} {N ci index : Nat} {Ts : List Cond} (hts : ∀ w ∈ Ts, w.before args s = true) (hin : ∀ w ∈ u_ws C T N, w ∈ Ts) (ty0 : Nat → FieldType) (hty : ∀ k, k < N → parseFieldDescriptor (T k).2.2.1 = some (ty0 k)) (hnm : ∀ a, a < N → ∀ b, b < N → a ≠ b → (T a).2.1 ≠ (T b).2.1) (hown : s.vm.findClass own = some m.cls) (hR : Rl D ids A h s H) (hz : H.size = z) (hS0 : va_S A H0 H locs) (hc : vwCl[ci]? = some (C, T, N)) (k : Nat) (hk : k < N) (hlink : (Cond.fieldLink own index ref (T k).2.1 (T k).2.2.1).before args s = true) (hsame : ∀ x, s.fieldFound? (T k).1 (T k).2.1 (T k).2.2.1 = some x → s.fieldFound? ref (T k).2.1 (T k).2.2.1 = some x) (hfin : (T k).2.2.2 = true) (hin2 : meth.name = "<init>") (hdecl : (T k).1 = own) {ty : FieldType} {v : Value} (hd : parseFieldDescriptor (T k).2.2.1 = some ty) (hn : narrow ty v = v) (hfit : fits ty v = true) {h' : mH} (hp : m_put h ci a k v = some h')
    (hdg : decode cc pc = .ok (.putfield index, 3)) (kk : ∀ (H1 : Heap) (locs1 : List Loc), Rl D ids A h' s H1 → H1.size = z → va_S A H0 H1 locs1 → W p l e R s m args below meth c H1 locs1 cells slots Q (F0 m (pc + 3) ls rest)) : W p l e R s m args below meth c H locs cells slots Q (F0 m pc ls (v :: .ref a :: rest)) := by
  obtain ⟨fs, p1, hl, rfl⟩ := m_put_spec hp
  have hK := hR.1
  have hap := va_apart (own := own) hts hin ty0 hty hnm hK hc
  obtain ⟨r, h1, cell, q1, q2, q3, q4⟩ := mr_at1 hR p1 0 _ rfl
  have hr : r = (C, T, N) := Option.some.inj (h1.symm.trans hc)
  subst hr
  obtain ⟨hS, hfc, kC, hkC, hkind⟩ := hK.1 ci _ hc
  obtain ⟨cf, kf, fi, f, hi, hsl⟩ := hS k hk
  have hlay := hts _ (hin _ (u_in_lay hk))
  unfold u_lay at hlay
  rw [if_pos hfin] at hlay
  have hst := (u_facts hfc hkC (u_lays hts hin hk) hi).1
  have hcf : m.cls = cf := by
    obtain ⟨_, _, c', _, _, _, -, -, hf', -, -, -, hown2, -⟩ := Cond.laysFinal_spec hlay
    have e1 : c' = cf := by have := hi.symm.trans hf'; simp at this; exact this.1.symm
    rw [hdecl] at hown2
    rw [← e1]; exact Option.some.inj (hown.symm.trans hown2)
  have h6 := u_fits hfc hkC hkind (Or.inr hlay) hi hd hn hfit
  refine W.putFinK hexec hb hown hlink (hsame _ hi) hst hcf hin2 (by rw [q2]; exact h6) q1 q3 (by rw [hsl]; exact k2_hasslot (q4 k hk)) rfl rfl hdg fun H' e1 e2 e3 => ?_
  rw [hsl] at e1 ⊢
  have hw : m_wr h a := m_wr_of p1 (fun _ _ q => by cases q)
  exact kk H' _ (hR.up hw (show va_at D vwCl (a, .inr (ci, fs.set k v)) H' from ⟨_, hc, t_OB.to (V := updV (vp_V fs) k v) ⟨_, e1, q2, q3, t_set q4 hap hk v⟩ (fun j _ => vp_updV_set hl v j)⟩) e3) (e2.trans hz) (hS0.put e2 e3 (hR.2.2 a hw))
theorem mr_arr (hR : Rl D ids A h s H) (t : Nat) {q : ClassId × FieldType} (ht : (m_tys ids)[t]? = some q) : ArrOfT s q.1 q.2 ∧ va_RA s q.1 q.2 := hR.1.2 t q ht
theorem mr_iald (hexec : p.tables.exec = Jvm.exec) (hb : c.code = cc) (hR : Rl D ids A h s H) {i v : Int32} (hg : m_iald h a i = some v) (hdg : decode cc pc = .ok (.iaload, 1))
    (kk : W p l e R s m args below meth c H locs cells slots Q (F0 m (pc + 1) ls (.int v :: rest))) : W p l e R s m args below meth c H locs cells slots Q (F0 m pc ls (.int i :: .ref a :: rest)) := by
  obtain ⟨b, n, f, h1, h2, h3, rfl⟩ := m_iald_spec hg
  cases b with
  | true =>
    have hq : H[a]? = some (vp_cell ids.1 (n, .inl f)) := hR.2.1 a _ h1
    exact W.iald (v := .int (f i.toNatClampNeg)) hexec hb hq ((mr_arr hR 0 rfl).1 n (fun j => .int (f j))) (fun q => by cases q) (by show ¬ (i < 0 ∨ (arrV _ _ _).slots.size ≤ _); rw [arrV_size]; exact m_in_vp ⟨h2, h3⟩) (by show (arrV _ _ _).slots[_]? = _; rw [arrV_read _ _ h3]) rfl rfl hdg kk
  | false =>
    obtain ⟨cell, c1, c2, c3, c4, c5, c6⟩ := (hR.2.1 a _ h1 : m_cst s a n f H)
    exact W.iald (v := .int (f i.toNatClampNeg)) hexec hb c1 c2 c3 (fun q => q.elim h2 (fun w => absurd (Nat.lt_of_lt_of_le h3 c4) (Nat.not_lt.mpr w))) (c6 _ h3) rfl rfl hdg kk
theorem mr_iast (hexec : p.tables.exec = Jvm.exec) (hb : c.code = cc) (hR : Rl D ids A h s H) (hz : H.size = z) (hS : va_S A H0 H locs) {i x : Int32} {h' : mH} (hg : m_iast h a i x = some h') (hdg : decode cc pc = .ok (.iastore, 1))
    (kk : ∀ (H1 : Heap) (locs1 : List Loc), Rl D ids A h' s H1 → H1.size = z → va_S A H0 H1 locs1 → W p l e R s m args below meth c H1 locs1 cells slots Q (F0 m (pc + 1) ls rest)) : W p l e R s m args below meth c H locs cells slots Q (F0 m pc ls (.int x :: .int i :: .ref a :: rest)) := by
  obtain ⟨n, f, h1, h2, h3, rfl⟩ := m_iast_spec hg
  have hq : H[a]? = some (vp_cell ids.1 (n, .inl f)) := hR.2.1 a _ h1
  have hw : m_wr h a := m_wr_of h1 (fun _ _ q => by cases q)
  refine W.iast hexec hb hq ((mr_arr hR 0 rfl).1 n (fun j => .int (f j))) (fun q => by cases q) (by show ¬ (i < 0 ∨ (arrV _ _ _).slots.size ≤ _); rw [arrV_size]; exact m_in_vp ⟨h2, h3⟩) rfl rfl hdg fun H1 e1 z1 oq => ?_
  refine kk H1 _ (hR.up hw (show H1[a]? = some (vp_cell ids.1 (n, .inl (upd f i.toNatClampNeg x))) from ?_) oq) (z1.trans hz) (hS.put z1 oq (hR.2.2 a hw))
  rw [e1]
  rw [vp_cell_i, vp_cell_i, arrV_store]
  congr 2
  funext q
  by_cases hq : q = i.toNatClampNeg
  · subst hq
    simp [updV, upd]
  · simp [updV, upd, hq]
theorem mr_aald (hexec : p.tables.exec = Jvm.exec) (hb : c.code = cc) (hR : Rl D ids A h s H) {i : Int32} {v : Option Nat} (hg : m_aald h a i = some v) (hdg : decode cc pc = .ok (.aaload, 1))
    (kk : W p l e R s m args below meth c H locs cells slots Q (F0 m (pc + 1) ls (va_rf v :: rest))) : W p l e R s m args below meth c H locs cells slots Q (F0 m pc ls (.int i :: .ref a :: rest)) := by
  obtain ⟨n, f, h1, h2, h3, rfl⟩ := m_aald_spec hg
  have hP : va_P D vwCl [(a, .inl (ids.2.2, n, .inr (.inr (.inr (.inr f)))))] H := by
    intro k x hx
    match k, hx with
    | 0, hx => cases hx; exact hR.2.1 a _ h1
    | k + 1, hx => simp at hx
  exact va_aldq hexec hb hR.1 hP 0 2 rfl rfl (m_in_vp ⟨h2, h3⟩) hdg kk
theorem mr_aast (hexec : p.tables.exec = Jvm.exec) (hb : c.code = cc) (hR : Rl D ids A h s H) (hz : H.size = z) (hS : va_S A H0 H locs) {i : Int32} {v : Nat} {h' : mH} (hg : m_aast h a i v = some h') (hdg : decode cc pc = .ok (.aastore, 1))
    (kk : ∀ (H1 : Heap) (locs1 : List Loc), Rl D ids A h' s H1 → H1.size = z → va_S A H0 H1 locs1 → W p l e R s m args below meth c H1 locs1 cells slots Q (F0 m (pc + 1) ls rest)) : W p l e R s m args below meth c H locs cells slots Q (F0 m pc ls (.ref v :: .int i :: .ref a :: rest)) := by
  obtain ⟨n, f, fs, h1, hv, h2, h3, rfl⟩ := m_aast_spec hg
  have hq : H[a]? = some (vp_cell ids.2.2 (n, .inr (.inr (.inr (.inr f))))) := hR.2.1 a _ h1
  have hw : m_wr h a := m_wr_of h1 (fun _ _ q => by cases q)
  obtain ⟨r', hr', cellV, g1, g2, g3, -⟩ := mr_at1 hR hv 0 _ rfl
  have hcls := (hR.1.1 2 (RX3, TX3, 10) rfl).2
  obtain ⟨kA, comp, k1, k2, k3, -⟩ := (mr_arr hR 2 rfl).2
  have hcomp : comp = D.1 2 := Option.some.inj (k3.symm.trans hcls.1)
  subst hcomp
  obtain ⟨kC, hkC, -⟩ := hcls.2
  refine W.aast hexec hb hq (fun q h => by cases h) (fun h => by cases h) k1 k2 rfl hkC ⟨h2, by show _ < (arrV _ _ _).slots.size; rw [arrV_size]; exact h3⟩ g1 (fun q h => by rw [g3] at h; cases h) (by rw [g2]; exact hkC) (by rw [g2]; exact va_assign hcls) rfl rfl hdg fun H1 e1 z1 oq => ?_
  refine kk H1 _ (hR.up hw (show H1[a]? = some (vp_cell ids.2.2 (n, .inr (.inr (.inr (.inr (va_up f i.toNatClampNeg (some v))))))) from ?_) oq) (z1.trans hz) (hS.put z1 oq (hR.2.2 a hw))
  rw [e1]
  rw [vp_cell_q, vp_cell_q, arrV_store]
  congr 2
  funext q
  by_cases hq : q = i.toNatClampNeg
  · subst hq
    simp [updV, va_up, va_rf]
  · simp [updV, va_up, hq]
theorem mr_ilen (hexec : p.tables.exec = Jvm.exec) (hb : c.code = cc) (hR : Rl D ids A h s H) {v : Int32} (hg : m_ilen h a = some v) (hdg : decode cc pc = .ok (.arraylength, 1))
    (kk : W p l e R s m args below meth c H locs cells slots Q (F0 m (pc + 1) ls (.int v :: rest))) : W p l e R s m args below meth c H locs cells slots Q (F0 m pc ls (.ref a :: rest)) := by
  obtain ⟨b, n, f, h1, rfl⟩ := m_ilen_spec hg
  cases b with
  | true =>
    have hq : H[a]? = some (vp_cell ids.1 (n, .inl f)) := hR.2.1 a _ h1
    exact W.alen (n := Int32.ofNat n) hexec hb hq ((mr_arr hR 0 rfl).1 n (fun j => .int (f j))) (by rw [vp_cell_i, arrV_size] <;> rfl) rfl rfl hdg kk
  | false =>
    obtain ⟨cell, c1, c2, c3, c4, c5, c6⟩ := (hR.2.1 a _ h1 : m_cst s a n f H)
    exact W.alen (n := Int32.ofNat n) hexec hb c1 c2 c5 rfl rfl hdg kk
theorem mr_alen (hexec : p.tables.exec = Jvm.exec) (hb : c.code = cc) (hR : Rl D ids A h s H) {v : Int32} (hg : m_alen h a = some v) (hdg : decode cc pc = .ok (.arraylength, 1))
    (kk : W p l e R s m args below meth c H locs cells slots Q (F0 m (pc + 1) ls (.int v :: rest))) : W p l e R s m args below meth c H locs cells slots Q (F0 m pc ls (.ref a :: rest)) := by
  obtain ⟨n, f, h1, rfl⟩ := m_alen_spec hg
  have hq : H[a]? = some (vp_cell ids.2.2 (n, .inr (.inr (.inr (.inr f))))) := hR.2.1 a _ h1
  exact W.alen (n := Int32.ofNat n) hexec hb hq ((mr_arr hR 2 rfl).1 n (fun j => va_rf (f j))) (by rw [vp_cell_q, arrV_size] <;> rfl) rfl rfl hdg kk
end MRW
