/-! numbers -/
theorem li (n : Nat) : (OfNat.ofNat n : Int32) = nI n := rfl
theorem liL (n : Nat) : (OfNat.ofNat n : Int64) = lN n := rfl
theorem xorI (a b : Nat) : nI a ^^^ nI b = nI (a ^^^ b) := by
  apply Int32.toBitVec_inj.1
  show BitVec.ofNat 32 a ^^^ BitVec.ofNat 32 b = BitVec.ofNat 32 (a ^^^ b)
  apply BitVec.eq_of_getLsbD_eq
  intro i hi
  simp [hi]
theorem tN0 : Int32.toNatClampNeg 0 = 0 := by decide
theorem tN1 : Int32.toNatClampNeg 1 = 1 := by decide
theorem tN2 : Int32.toNatClampNeg 2 = 2 := by decide
theorem tN3 : Int32.toNatClampNeg 3 = 3 := by decide
theorem tN4 : Int32.toNatClampNeg 4 = 4 := by decide
theorem tN5 : Int32.toNatClampNeg 5 = 5 := by decide
theorem tN6 : Int32.toNatClampNeg 6 = 6 := by decide
theorem tN7 : Int32.toNatClampNeg 7 = 7 := by decide
theorem tN8 : Int32.toNatClampNeg 8 = 8 := by decide
theorem tN9 : Int32.toNatClampNeg 9 = 9 := by decide
theorem tN10 : Int32.toNatClampNeg 10 = 10 := by decide
theorem tN11 : Int32.toNatClampNeg 11 = 11 := by decide
theorem tN12 : Int32.toNatClampNeg 12 = 12 := by decide
theorem le0 {n : Nat} (h : n < 2 ^ 31) : nI n ≤ 0 ↔ n = 0 := by
  rw [show (0 : Int32) = nI 0 from rfl, nI_leI h (by decide)]; omega
theorem eq0 {n : Nat} (h : n < 2 ^ 31) : nI n = 0 ↔ n = 0 := by
  rw [show (0 : Int32) = nI 0 from rfl, nI_eq h (by decide)]
theorem ge0 {n : Nat} (h : n < 2 ^ 31) : 0 ≤ nI n := nI_pos' h
theorem subI {a b : Nat} (h : b ≤ a) : nI a - nI b = nI (a - b) := pk_sub h
theorem pos_sub {a b : Nat} (ha : a < 2 ^ 30) (hb : b < 2 ^ 30) : (if (0 : Int32) < nI a - nI b then nI a - nI b else 0) = nI (a - b) := by
  by_cases h : b < a
  · rw [subI (by omega), if_pos]
    rw [show (0 : Int32) = nI 0 from rfl, nI_ltI (by decide) (by omega)]; omega
  · rw [if_neg, show a - b = 0 by omega]
    · rfl
    · rw [Int32.lt_iff_toInt_lt, pk_sub_toInt ha hb, show (0 : Int32).toInt = 0 from by decide]; omega
theorem np_sub {a b : Nat} (ha : a < 2 ^ 30) (hb : b < 2 ^ 30) : nI a - nI b ≤ 0 ↔ a ≤ b := by
  rw [Int32.le_iff_toInt_le, pk_sub_toInt ha hb, show (0 : Int32).toInt = 0 from by decide]; omega
theorem xlt {a b : Nat} (ha : a < 2 ^ 31) (hb : b < 2 ^ 31) : a ^^^ b < 2 ^ 31 := Nat.xor_lt_two_pow ha hb
/-- floorMod by 520 -/
theorem fmod_ok {a : Nat} {Q : Int32 → Prop} (ha : a < 2 ^ 31) (hq : Q (nI (a % 520))) : qJ9_floorMod_7cf53 (nI a) 520 Q := by
  unfold qJ9_floorMod_7cf53
  refine ⟨by decide, fun v hv => ?_⟩
  have e : v = nI (a % 520) := by rw [hv]; exact pk_rem (d := 520) ha (by decide) (by decide)
  subst e
  refine ⟨fun _ => hq, fun c => absurd ?_ c⟩
  rw [show (520 : Int32) = nI 520 from rfl, xorI]
  exact ge0 (xlt ha (by decide))
theorem in_ok {p lo hi : Int32} {Q : Int32 → Prop} (h1 : lo ≤ p → p ≤ hi → Q 1) (h0 : ¬ (lo ≤ p ∧ p ≤ hi) → Q 0) : qX2_within p lo hi Q := by
  unfold qX2_within
  refine ⟨fun c => h0 (fun z => ?_), fun c => ⟨fun c2 => h0 (fun z => ?_), fun c2 => h1 ?_ ?_⟩⟩
  · rw [Int32.lt_iff_toInt_lt] at c; rw [Int32.le_iff_toInt_le] at z; omega
  · rw [Int32.lt_iff_toInt_lt] at c2; rw [Int32.le_iff_toInt_le, Int32.le_iff_toInt_le] at z; omega
  · rw [Int32.lt_iff_toInt_lt] at c; rw [Int32.le_iff_toInt_le]; omega
  · rw [Int32.lt_iff_toInt_lt] at c2; rw [Int32.le_iff_toInt_le]; omega
theorem in_ok3 {p lo hi : Int32} {Q : Int32 → Prop} (h1 : lo ≤ p → p ≤ hi → Q 1) (h0 : ¬ (lo ≤ p ∧ p ≤ hi) → Q 0) : qX3_in p lo hi Q := in_ok h1 h0
/-- a number between two others -/
theorem btw {p : Int32} {a b : Nat} (ha : a < 2 ^ 31) (hb : b < 2 ^ 31) (h1 : nI a ≤ p) (h2 : p ≤ nI b) : ∃ n : Nat, a ≤ n ∧ n ≤ b ∧ p = nI n := by
  rw [Int32.le_iff_toInt_le, nI_toInt ha] at h1
  rw [Int32.le_iff_toInt_le, nI_toInt hb] at h2
  refine ⟨p.toInt.toNat, by omega, by omega, ?_⟩
  apply Int32.toInt_inj.mp
  rw [nI_toInt (by omega)]
  omega
theorem btw_of {n a b : Nat} (hb : b < 2 ^ 31) (h1 : a ≤ n) (h2 : n ≤ b) : nI a ≤ nI n ∧ nI n ≤ nI b := ⟨nI_le h1 (by omega), nI_le h2 hb⟩
theorem vpn {k n : Nat} (h : k < n) (hn : n < 2 ^ 31) : vp_in (nI k) n := vp_in_nI h hn
theorem clmp {k : Nat} (h : k < 2 ^ 31) : Int32.toNatClampNeg (nI k) = k := nI_clamp h
