/-! OUR OWN: a small heap of our own (an address, its entry), what it says of the machine's heap, and rows over it -/
section MH
abbrev mE : Type := (Bool × Nat × (Nat → Int32)) ⊕ ((Nat × (Nat → Int64)) ⊕ ((Nat × (Nat → Option Nat)) ⊕ (Nat × List Value)))
abbrev mH : Type := Nat → Option mE
abbrev mI (n : Nat) (f : Nat → Int32) : mE := .inl (true, n, f)
abbrev mC (n : Nat) (f : Nat → Int32) : mE := .inl (false, n, f)
abbrev mL (n : Nat) (f : Nat → Int64) : mE := .inr (.inl (n, f))
abbrev mR (n : Nat) (f : Nat → Option Nat) : mE := .inr (.inr (.inl (n, f)))
abbrev mO (ci : Nat) (fs : List Value) : mE := .inr (.inr (.inr (ci, fs)))
def m_up (h : mH) (a : Nat) (e : mE) : mH := fun q => if q = a then some e else h q
def m_in (i : Int32) (n : Nat) : Prop := ¬ (i < 0) ∧ i.toNatClampNeg < n
theorem m_in_vp {i : Int32} {n : Nat} (h : m_in i n) : vp_in i n := fun q => q.elim h.1 (fun z => absurd h.2 (Nat.not_lt.mpr z))
def m_iald (h : mH) (a : Nat) (i : Int32) : Option Int32 := match h a with
  | some (.inl (_, n, f)) => if ¬ (i < 0) ∧ i.toNatClampNeg < n then some (f i.toNatClampNeg) else none
  | _ => none
def m_iast (h : mH) (a : Nat) (i x : Int32) : Option mH := match h a with
  | some (.inl (true, n, f)) => if ¬ (i < 0) ∧ i.toNatClampNeg < n then some (m_up h a (mI n (upd f i.toNatClampNeg x))) else none
  | _ => none
def m_lald (h : mH) (a : Nat) (i : Int32) : Option Int64 := match h a with
  | some (.inr (.inl (n, f))) => if ¬ (i < 0) ∧ i.toNatClampNeg < n then some (f i.toNatClampNeg) else none
  | _ => none
def m_last (h : mH) (a : Nat) (i : Int32) (x : Int64) : Option mH := match h a with
  | some (.inr (.inl (n, f))) => if ¬ (i < 0) ∧ i.toNatClampNeg < n then some (m_up h a (mL n (vp_updL f i.toNatClampNeg x))) else none
  | _ => none
def m_aald (h : mH) (a : Nat) (i : Int32) : Option (Option Nat) := match h a with
  | some (.inr (.inr (.inl (n, f)))) => if ¬ (i < 0) ∧ i.toNatClampNeg < n then some (f i.toNatClampNeg) else none
  | _ => none
def m_aast (h : mH) (a : Nat) (i : Int32) (v : Nat) : Option mH := match h a, h v with
  | some (.inr (.inr (.inl (n, f)))), some (.inr (.inr (.inr (c, _)))) => if c = 2 ∧ ¬ (i < 0) ∧ i.toNatClampNeg < n then some (m_up h a (mR n (va_up f i.toNatClampNeg (some v)))) else none
  | _, _ => none
def m_ilen (h : mH) (a : Nat) : Option Int32 := match h a with
  | some (.inl (_, n, _)) => some (Int32.ofNat n)
  | _ => none
def m_alen (h : mH) (a : Nat) : Option Int32 := match h a with
  | some (.inr (.inr (.inl (n, _)))) => some (Int32.ofNat n)
  | _ => none
def m_get (h : mH) (ci a k : Nat) : Option Value := match h a with
  | some (.inr (.inr (.inr (c, fs)))) => if c = ci then fs[k]? else none
  | _ => none
def m_gi (h : mH) (ci a k : Nat) : Option Int32 := match m_get h ci a k with
  | some (.int v) => some v
  | _ => none
def m_gl (h : mH) (ci a k : Nat) : Option Int64 := match m_get h ci a k with
  | some (.long v) => some v
  | _ => none
def m_gr (h : mH) (ci a k : Nat) : Option Nat := match m_get h ci a k with
  | some (.ref v) => some v
  | _ => none
def m_put (h : mH) (ci a k : Nat) (v : Value) : Option mH := match h a with
  | some (.inr (.inr (.inr (c, fs)))) => if c = ci ∧ k < fs.length then some (m_up h a (mO c (fs.set k v))) else none
  | _ => none
/-- a boolean that is 0 or 1 -/
def m_z (v : Int32) : Option Int32 := if v = 0 ∨ v = 1 then some v else none
/-- the object is there, of its kind -/
def m_is (h : mH) (ci a : Nat) : Option Unit := match h a with
  | some (.inr (.inr (.inr (c, _)))) => if c = ci then some () else none
  | _ => none
def m_div (x y : Int32) : Option Int32 := if y = 0 then none else some (x / y)
def m_rem (x y : Int32) : Option Int32 := if y = 0 then none else some (x - x / y * y)
def m_d (x : UInt64) : Option UInt64 := if x &&& 0x7fffffffffffffff ≤ 0x7ff0000000000000 then some x else none
/-- which cells may be written -/
def m_wr (h : mH) (q : Nat) : Prop := match h q with
  | none => False
  | some (.inl (false, _, _)) => False
  | some _ => True
def m_A (h : mH) (z : Nat) : Nat → Prop := fun q => m_wr h q ∨ z ≤ q
theorem m_up_same (h : mH) (a : Nat) (e : mE) : m_up h a e a = some e := if_pos rfl
theorem m_up_ne {h : mH} {a q : Nat} {e : mE} (hq : q ≠ a) : m_up h a e q = h q := if_neg hq
end MH
