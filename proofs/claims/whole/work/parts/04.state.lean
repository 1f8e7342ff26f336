/-! The class's cells: the object, then its rows. -/
abbrev wX (h : Nat) (q : Nat → Nat) (cs : Nat → ClassId) (fh : Nat → Int32) (n : Nat) (fb fl fg fr : Nat → Int32) (k : Nat) : va_W := [(h, .inr (0, [.ref (q 1), .int (nI n), .ref (q 2), .ref (q 3), .ref (q 4), .ref (q 5), .int (nI k)])), (q 1, .inl (cs 1, 60, .inl fh)), (q 2, .inl (cs 2, 12000, .inl fb)), (q 3, .inl (cs 3, 200, .inl fl)), (q 4, .inl (cs 4, 200, .inl fg)), (q 5, .inl (cs 5, 200, .inl fr))]
abbrev tX (cs : Nat → ClassId) : List (ClassId × FieldType) := [(cs 1, .byte), (cs 2, .byte), (cs 3, .int), (cs 4, .int), (cs 5, .int)]
abbrev wS (h : Nat) (q : Nat → Nat) (cs : Nat → ClassId) (u : rn_S) : va_W := wX h q cs u.1 u.2.1 u.2.2.1 u.2.2.2.1 u.2.2.2.2.1 u.2.2.2.2.2.1 u.2.2.2.2.2.2
/-- the lowest eight bits of each: what the reference holds where the class holds a byte -/
def rn_k (f : Nat → Int32) : Nat → Int32 := fun i => f i &&& nI 255
abbrev wM (h : Nat) (q : Nat → Nat) (cs : Nat → ClassId) (fh : Nat → Int32) (n : Nat) (fb fl fg fr : Nat → Int32) (k : Nat) : va_W := [(h, .inr (1, [.ref (q 1), .int (nI n), .ref (q 2), .ref (q 3), .ref (q 4), .ref (q 5), .int (nI k)])), (q 1, .inl (cs 1, 60, .inl (rn_k fh))), (q 2, .inl (cs 2, 12000, .inl (rn_k fb))), (q 3, .inl (cs 3, 200, .inl fl)), (q 4, .inl (cs 4, 200, .inl fg)), (q 5, .inl (cs 5, 200, .inl fr))]
abbrev tM (cs : Nat → ClassId) : List (ClassId × FieldType) := [(cs 1, .int), (cs 2, .int), (cs 3, .int), (cs 4, .int), (cs 5, .int)]
abbrev wN (h : Nat) (q : Nat → Nat) (cs : Nat → ClassId) (u : rn_S) : va_W := wM h q cs u.1 u.2.1 u.2.2.1 u.2.2.2.1 u.2.2.2.2.1 u.2.2.2.2.2.1 u.2.2.2.2.2.2
