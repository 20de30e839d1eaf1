/-- far more turns than any loop of ours takes -/
def m_F : Nat := 4000
theorem m_EV.nf {st : m_T} {A : Nat → Prop} {s : State} {H : Heap} (hE : m_EV st A s H) {i : Nat} {a : String} {b : Nat} {c d e f : String} (hi : m_nf[i]? = some (a, b, c, d, e, f)) : va_Nw (.fieldLinkNest a b c d e f) s := hE.1 _ (List.mem_of_getElem? hi)
theorem m_EV.nm {st : m_T} {A : Nat → Prop} {s : State} {H : Heap} (hE : m_EV st A s H) {i : Nat} {a : String} {b : Nat} {y : MethodName} {d : String} (hi : m_nm[i]? = some (a, b, y, d)) : va_Nw (.methodLinkNest a b y d) s := hE.2.1 _ (List.mem_of_getElem? hi)
