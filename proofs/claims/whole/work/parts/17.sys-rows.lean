/-! the class's object while its parts are moved about -/
def sysQ (I O : ClassId) (h sv er fw ft r0 r1 r2 r3 : Nat) (sc : Int32) (se : Nat → Int32) : va_W := [(h, .inr (2, [.ref fw, .ref ft, .ref sv, .int sc, .ref er])), (sv, .inl (O, 4, .inr (.inr (.inr (.inr (svF r0 r1 r2 r3)))))), (er, .inl (I, 4, .inl se))]
theorem svF_up0 (a b c d e : Nat) : va_up (svF a b c d) (Int32.toNatClampNeg 0) (some e) = svF e b c d := by
  funext k
  match k with
  | 0 => rfl
  | 1 => rfl
  | 2 => rfl
  | 3 => rfl
  | k + 4 => rfl
theorem svF_up1 (a b c d e : Nat) : va_up (svF a b c d) (Int32.toNatClampNeg 1) (some e) = svF a e c d := by
  funext k
  match k with
  | 0 => rfl
  | 1 => rfl
  | 2 => rfl
  | 3 => rfl
  | k + 4 => rfl
theorem svF_up2 (a b c d e : Nat) : va_up (svF a b c d) (Int32.toNatClampNeg 2) (some e) = svF a b e d := by
  funext k
  match k with
  | 0 => rfl
  | 1 => rfl
  | 2 => rfl
  | 3 => rfl
  | k + 4 => rfl
theorem svF_up3 (a b c d e : Nat) : va_up (svF a b c d) (Int32.toNatClampNeg 3) (some e) = svF a b c e := by
  funext k
  match k with
  | 0 => rfl
  | 1 => rfl
  | 2 => rfl
  | 3 => rfl
  | k + 4 => rfl
