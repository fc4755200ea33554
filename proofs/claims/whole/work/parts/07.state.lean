/-! THE STATES: of the landed object and its two rows; of the reference and its two rows -/
abbrev wX (h a b : Nat) (cA cB : ClassId) (u : Int32 × (Nat → Int32) × (Nat → Int32)) : va_W := [(h, .inr (0, [.ref a, .ref b, .int u.1])), (a, .inl (cA, 1000, .inl u.2.1)), (b, .inl (cB, 1000, .inl u.2.2))]
abbrev wM (h a b : Nat) (cA cB : ClassId) (u : Int32 × Int32 × (Nat → Int32) × (Nat → Int32)) : va_W := [(h, .inr (1, [.int u.1, .ref a, .int u.2.1, .ref b])), (a, .inl (cA, 1000, .inl u.2.2.1)), (b, .inl (cB, 1000, .inl u.2.2.2))]
/-- the landed object and the law's own cell for answers -/
abbrev wO (h a b o : Nat) (cA cB cO : ClassId) (u : (Int32 × (Nat → Int32) × (Nat → Int32)) × (Nat → Int64)) : va_W := [(h, .inr (0, [.ref a, .ref b, .int u.1.1])), (a, .inl (cA, 1000, .inl u.1.2.1)), (b, .inl (cB, 1000, .inl u.1.2.2)), (o, .inl (cO, 1, .inr (.inl u.2)))]
