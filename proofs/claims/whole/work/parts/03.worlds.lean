/-! the pictures: a column, a well, the class's object, the reference's object; each a list of cells made of its addresses and its numbers -/
abbrev Col : Type := Int32 × (Nat → Int32) × (Nat → Int32) × Int32 × Int32 × Int64
abbrev zF (x : Col) : Int32 := x.1
abbrev zV (x : Col) : Nat → Int32 := x.2.1
abbrev zD (x : Col) : Nat → Int32 := x.2.2.1
abbrev zO (x : Col) : Int32 := x.2.2.2.1
abbrev zN (x : Col) : Int32 := x.2.2.2.2.1
abbrev zL (x : Col) : Int64 := x.2.2.2.2.2
abbrev CA : Type := Nat × Nat × Nat
def colB (I : ClassId) (a : CA) (x : Col) : va_W := [(a.1, .inr (0, [.int (zF x), .ref a.2.1, .ref a.2.2, .int (zO x), .int (zN x), .long (zL x)])), (a.2.1, .inl (I, 520, .inl (zV x))), (a.2.2, .inl (I, 520, .inl (zD x)))]
abbrev Wel : Type := Int32 × Int32 × Int32 × Int32 × Int32 × Int32 × Int32 × Int32 × Int32 × Int32 × Int32 × Col × Col
abbrev y0 (x : Wel) : Int32 := x.1
abbrev y1 (x : Wel) : Int32 := x.2.1
abbrev y2 (x : Wel) : Int32 := x.2.2.1
abbrev y3 (x : Wel) : Int32 := x.2.2.2.1
abbrev y4 (x : Wel) : Int32 := x.2.2.2.2.1
abbrev y5 (x : Wel) : Int32 := x.2.2.2.2.2.1
abbrev y6 (x : Wel) : Int32 := x.2.2.2.2.2.2.1
abbrev y7 (x : Wel) : Int32 := x.2.2.2.2.2.2.2.1
abbrev y8 (x : Wel) : Int32 := x.2.2.2.2.2.2.2.2.1
abbrev y9 (x : Wel) : Int32 := x.2.2.2.2.2.2.2.2.2.1
abbrev y10 (x : Wel) : Int32 := x.2.2.2.2.2.2.2.2.2.2.1
abbrev yP (x : Wel) : Col := x.2.2.2.2.2.2.2.2.2.2.2.1
abbrev yA (x : Wel) : Col := x.2.2.2.2.2.2.2.2.2.2.2.2
abbrev WA : Type := Nat × CA × CA
abbrev welO (a : WA) (x : Wel) : Nat × va_E := (a.1, .inr (1, [.int (y0 x), .int (y1 x), .int (y2 x), .int (y3 x), .int (y4 x), .int (y5 x), .int (y6 x), .int (y7 x), .int (y8 x), .int (y9 x), .int (y10 x), .ref a.2.1.1, .ref a.2.2.1]))
def welB (I : ClassId) (a : WA) (x : Wel) : va_W := welO a x :: (colB I a.2.1 (yP x) ++ colB I a.2.2 (yA x))
abbrev Mod : Type := (Nat → Int32) × (Nat → Int32) × (Nat → Int32) × Int32 × (Nat → Int32) × Int64
abbrev mN (x : Mod) : Nat → Int32 := x.1
abbrev mA (x : Mod) : Nat → Int32 := x.2.1
abbrev mP (x : Mod) : Nat → Int32 := x.2.2.1
abbrev mS (x : Mod) : Int32 := x.2.2.2.1
abbrev mE (x : Mod) : Nat → Int32 := x.2.2.2.2.1
abbrev mH (x : Mod) : Int64 := x.2.2.2.2.2
/-- the addresses of the reference's object and of its arrays: now, aside, past, errors -/
abbrev MA : Type := Nat × Nat × Nat × Nat × Nat
def arB (I : ClassId) (a n : Nat) (f : Nat → Int32) : va_W := [(a, .inl (I, n, .inl f))]
abbrev mdlO (a : MA) (x : Mod) : Nat × va_E := (a.1, .inr (3, [.ref a.2.1, .ref a.2.2.1, .ref a.2.2.2.1, .int (mS x), .ref a.2.2.2.2, .long (mH x)]))
def mdlW (I : ClassId) (a : MA) (x : Mod) : va_W := [mdlO a x, (a.2.2.2.2, .inl (I, 4, .inl (mE x))), (a.2.2.1, .inl (I, 4416, .inl (mA x))), (a.2.1, .inl (I, 4416, .inl (mN x))), (a.2.2.2.1, .inl (I, 17664, .inl (mP x)))]
abbrev Sys : Type := Wel × Wel × Wel × Wel × Wel × Wel × Int32 × (Nat → Int32)
abbrev sW (x : Sys) : Wel := x.1
abbrev sT (x : Sys) : Wel := x.2.1
abbrev s0 (x : Sys) : Wel := x.2.2.1
abbrev s1 (x : Sys) : Wel := x.2.2.2.1
abbrev s2 (x : Sys) : Wel := x.2.2.2.2.1
abbrev s3 (x : Sys) : Wel := x.2.2.2.2.2.1
abbrev sC (x : Sys) : Int32 := x.2.2.2.2.2.2.1
abbrev sE (x : Sys) : Nat → Int32 := x.2.2.2.2.2.2.2
/-- the addresses of the class's object: its own, the array of the saved, the counters, the six wells -/
abbrev SA : Type := Nat × Nat × Nat × WA × WA × WA × WA × WA × WA
def svF (a b c d : Nat) : Nat → Option Nat := fun k => match k with
  | 0 => some a
  | 1 => some b
  | 2 => some c
  | 3 => some d
  | _ => none
def sysH (I O : ClassId) (a : SA) (x : Sys) : va_W := [(a.1, .inr (2, [.ref a.2.2.2.1.1, .ref a.2.2.2.2.1.1, .ref a.2.1, .int (sC x), .ref a.2.2.1])), (a.2.1, .inl (O, 4, .inr (.inr (.inr (.inr (svF a.2.2.2.2.2.1.1 a.2.2.2.2.2.2.1.1 a.2.2.2.2.2.2.2.1.1 a.2.2.2.2.2.2.2.2.1)))))), (a.2.2.1, .inl (I, 4, .inl (sE x)))]
def sysW (I O : ClassId) (a : SA) (x : Sys) : va_W := sysH I O a x ++ (welB I a.2.2.2.1 (sW x) ++ (welB I a.2.2.2.2.1 (sT x) ++ (welB I a.2.2.2.2.2.1 (s0 x) ++ (welB I a.2.2.2.2.2.2.1 (s1 x) ++ (welB I a.2.2.2.2.2.2.2.1 (s2 x) ++ welB I a.2.2.2.2.2.2.2.2 (s3 x))))))
theorem va_D.mid {A : Nat → Prop} {X wc Y : va_W} (h : va_D A (X ++ (wc ++ Y))) : va_D A wc := h.right.left
section MCW
variable {p : Program} {l : Launch} {e : Env} {R : Room} {s : State} {m : MethodId} {args : Array Value} {below : List Frame} {meth : Method} {c : Code} {H : Heap} {locs : List Loc} {cells slots : Nat} {Qw : State → Prop}
variable {mc ms : Nat} {D : va_G} {A0 : Nat → Prop} {H0 : Heap} {pc : Nat} {ls : Array Slot}
/-- calls whose world is the caller's whole world -/
theorem mw_i {S : Type} {Q : Int32 → S → Prop} {wc : va_W} {w : S → va_W} {st0 rest : List Value} {a : Array Value}
    (hr : va_Run p l e R s m args below meth c H locs cells slots mc ms (F0 m pc ls st0) rest (va_Qi Q (mB D (va_A wc H.size) w) (va_A wc H.size) a) (va_A wc H.size))
    (hP : va_P D vwCl wc H) (hD : va_D A0 wc) (hS : va_S A0 H0 H locs) (hA : ∀ q, H0.size ≤ q → A0 q)
    (kk : ∀ (r : Int32) (u : S) (H1 : Heap) (locs1 : List Loc), Q r u → va_P D vwCl (w u) H1 → va_D A0 (w u) → va_S A0 H0 H1 locs1 → W p l e R s m args below meth c H1 locs1 (cells + mc) (slots + ms) Qw (F0 m (pc + 3) ls (.int r :: rest))) :
    W p l e R s m args below meth c H locs cells slots Qw (F0 m pc ls st0) :=
  mc_i [] [] hr (by simpa using hP) (by simpa using hD) hS hA (fun r u H1 locs1 hw h1 h2 h3 => kk r u H1 locs1 hw (by simpa using h1) (by simpa using h2) h3)
theorem mw_l {S : Type} {Q : Int64 → S → Prop} {wc : va_W} {w : S → va_W} {st0 rest : List Value} {a : Array Value}
    (hr : va_Run p l e R s m args below meth c H locs cells slots mc ms (F0 m pc ls st0) rest (va_Ql Q (mB D (va_A wc H.size) w) (va_A wc H.size) a) (va_A wc H.size))
    (hP : va_P D vwCl wc H) (hD : va_D A0 wc) (hS : va_S A0 H0 H locs) (hA : ∀ q, H0.size ≤ q → A0 q)
    (kk : ∀ (r : Int64) (u : S) (H1 : Heap) (locs1 : List Loc), Q r u → va_P D vwCl (w u) H1 → va_D A0 (w u) → va_S A0 H0 H1 locs1 → W p l e R s m args below meth c H1 locs1 (cells + mc) (slots + ms) Qw (F0 m (pc + 3) ls (.long r :: rest))) :
    W p l e R s m args below meth c H locs cells slots Qw (F0 m pc ls st0) :=
  mc_l [] [] hr (by simpa using hP) (by simpa using hD) hS hA (fun r u H1 locs1 hw h1 h2 h3 => kk r u H1 locs1 hw (by simpa using h1) (by simpa using h2) h3)
theorem mw_v {S : Type} {Q : S → Prop} {wc : va_W} {w : S → va_W} {st0 rest : List Value} {a : Array Value}
    (hr : va_Run p l e R s m args below meth c H locs cells slots mc ms (F0 m pc ls st0) rest (va_Qv Q (mB D (va_A wc H.size) w) (va_A wc H.size) a) (va_A wc H.size))
    (hP : va_P D vwCl wc H) (hD : va_D A0 wc) (hS : va_S A0 H0 H locs) (hA : ∀ q, H0.size ≤ q → A0 q)
    (kk : ∀ (u : S) (H1 : Heap) (locs1 : List Loc), Q u → va_P D vwCl (w u) H1 → va_D A0 (w u) → va_S A0 H0 H1 locs1 → W p l e R s m args below meth c H1 locs1 (cells + mc) (slots + ms) Qw (F0 m (pc + 3) ls rest)) :
    W p l e R s m args below meth c H locs cells slots Qw (F0 m pc ls st0) :=
  mc_v [] [] hr (by simpa using hP) (by simpa using hD) hS hA (fun u H1 locs1 hw h1 h2 h3 => kk u H1 locs1 hw (by simpa using h1) (by simpa using h2) h3)
theorem mw_r {S : Type} {Q : S → Prop} {wc : va_W} {w : S → va_W} {v : Nat} {st0 rest : List Value} {a : Array Value}
    (hr : va_Run p l e R s m args below meth c H locs cells slots mc ms (F0 m pc ls st0) rest (va_Qr Q (fun u a t => a = v ∧ mB D (va_A wc H.size) w u t) (va_A wc H.size) a) (va_A wc H.size))
    (hP : va_P D vwCl wc H) (hD : va_D A0 wc) (hS : va_S A0 H0 H locs) (hA : ∀ q, H0.size ≤ q → A0 q)
    (kk : ∀ (u : S) (H1 : Heap) (locs1 : List Loc), Q u → va_P D vwCl (w u) H1 → va_D A0 (w u) → va_S A0 H0 H1 locs1 → W p l e R s m args below meth c H1 locs1 (cells + mc) (slots + ms) Qw (F0 m (pc + 3) ls (.ref v :: rest))) :
    W p l e R s m args below meth c H locs cells slots Qw (F0 m pc ls st0) :=
  mc_r [] [] hr (by simpa using hP) (by simpa using hD) hS hA (fun u H1 locs1 hw h1 h2 h3 => kk u H1 locs1 hw (by simpa using h1) (by simpa using h2) h3)
/-- calls that touch no cell -/
theorem m0_i {S : Type} {Q : Int32 → S → Prop} {w0 : va_W} {st0 rest : List Value} {a : Array Value}
    (hr : va_Run p l e R s m args below meth c H locs cells slots mc ms (F0 m pc ls st0) rest (va_Qi Q (mB D (va_A [] H.size) (fun _ => [])) (va_A [] H.size) a) (va_A [] H.size))
    (hP : va_P D vwCl w0 H) (hD : va_D A0 w0) (hS : va_S A0 H0 H locs) (hA : ∀ q, H0.size ≤ q → A0 q)
    (kk : ∀ (r : Int32) (u : S) (H1 : Heap) (locs1 : List Loc), Q r u → va_P D vwCl w0 H1 → va_D A0 w0 → va_S A0 H0 H1 locs1 → W p l e R s m args below meth c H1 locs1 (cells + mc) (slots + ms) Qw (F0 m (pc + 3) ls (.int r :: rest))) :
    W p l e R s m args below meth c H locs cells slots Qw (F0 m pc ls st0) :=
  mc_i w0 [] hr (by simpa using hP) (by simpa using hD) hS hA (fun r u H1 locs1 hw h1 h2 h3 => kk r u H1 locs1 hw (by simpa using h1) (by simpa using h2) h3)
theorem m0_l {S : Type} {Q : Int64 → S → Prop} {w0 : va_W} {st0 rest : List Value} {a : Array Value}
    (hr : va_Run p l e R s m args below meth c H locs cells slots mc ms (F0 m pc ls st0) rest (va_Ql Q (mB D (va_A [] H.size) (fun _ => [])) (va_A [] H.size) a) (va_A [] H.size))
    (hP : va_P D vwCl w0 H) (hD : va_D A0 w0) (hS : va_S A0 H0 H locs) (hA : ∀ q, H0.size ≤ q → A0 q)
    (kk : ∀ (r : Int64) (u : S) (H1 : Heap) (locs1 : List Loc), Q r u → va_P D vwCl w0 H1 → va_D A0 w0 → va_S A0 H0 H1 locs1 → W p l e R s m args below meth c H1 locs1 (cells + mc) (slots + ms) Qw (F0 m (pc + 3) ls (.long r :: rest))) :
    W p l e R s m args below meth c H locs cells slots Qw (F0 m pc ls st0) :=
  mc_l w0 [] hr (by simpa using hP) (by simpa using hD) hS hA (fun r u H1 locs1 hw h1 h2 h3 => kk r u H1 locs1 hw (by simpa using h1) (by simpa using h2) h3)
end MCW
theorem nil_P {D : va_G} {H : Heap} : va_P D vwCl [] H := fun k q h => by simp at h
theorem nil_D {A : Nat → Prop} : va_D A [] := ⟨fun i j p q h => by simp at h, fun k q h => by simp at h⟩
section MV
variable {p : Program} {l : Launch} {e : Env} {R : Room} {s : State} {m : MethodId} {args : Array Value} {below : List Frame} {meth : Method} {c : Code} {H : Heap} {locs : List Loc} {cells slots : Nat}
variable {y : MethodName} {bytes cc : ByteArray} {maxL nL mc ms n index : Nat} {ret : Option FieldType} {ws : List Cond} {rm : Room} {Ts : List Cond} {own C : String} {D : va_G} {I O : ClassId} {A0 : Nat → Prop} {pc : Nat} {ls : Array Slot}
/-- the same calls, run, over the callee's own world -/
theorem mv_V {Qc : Array Value → State → Outcome → State → Prop} {wc : va_W} {b : Nat} {As rest : List Value} (S : CallFix p m c cc nL s args Ts own) (hM : Met l y ws rm (mPc D I O (.ref b :: As) wc H.size) Qc mc ms (va_A wc H.size)) (cw : CallW R s args own C index y bytes maxL ret ws rm mc ms n)
    (hK : sK D I O s) (hP : va_P D vwCl wc H) (hD : va_D A0 wc) (q0 ci : Nat) {qq : vw_C} {fs : List Value} (hc : vwCl[ci]? = some qq) (hC : qq.1 = C) (he : wc[q0]? = some (b, .inr (ci, fs)))
    (hn : As.length = n) (hsize : ls.size = nL) {st0 : List Value} (hst : st0 = As.reverse ++ .ref b :: rest) (hW : (rest.map fun v => v.category).sum ≤ 8) (hdg : decode cc pc = .ok (.invokevirtual index, 3)) (hf : cells + mc ≤ R.cells ∧ slots + ms ≤ R.slots) :
    va_Run p l e R s m args below meth c H locs cells slots mc ms (F0 m pc ls st0) rest (Qc (Value.ref b :: As).toArray) (va_A wc H.size) := by
  subst hC
  exact va_runV S hM cw ⟨mPc_blind, va_recv hK.1 hP hc he, mPc_at hP hD hK⟩ rfl hn hsize hst (by show 2 * 0 + _ ≤ 8; omega) hdg hf
theorem mv_S {Qc : Array Value → State → Outcome → State → Prop} {wc : va_W} {As rest : List Value} (S : CallFix p m c cc nL s args Ts own) (hM : Met l y ws rm (mPc D I O As wc H.size) Qc mc ms (va_A wc H.size)) (cw : CallB R s args own index y bytes maxL ret ws rm mc ms n ∧ (Cond.static y).before args s = true)
    (hK : sK D I O s) (hP : va_P D vwCl wc H) (hD : va_D A0 wc)
    (hn : As.length = n) (hsize : ls.size = nL) {st0 : List Value} (hst : st0 = As.reverse ++ rest) (hW : (rest.map fun v => v.category).sum ≤ 8) (hdg : decode cc pc = .ok (.invokestatic index, 3)) (hf : cells + mc ≤ R.cells ∧ slots + ms ≤ R.slots) :
    va_Run p l e R s m args below meth c H locs cells slots mc ms (F0 m pc ls st0) rest (Qc As.toArray) (va_A wc H.size) :=
  va_runS S hM cw ⟨mPc_blind, mPc_at hP hD hK⟩ rfl hn hsize hst (by show 2 * 0 + _ ≤ 8; omega) hdg hf
theorem mv_SN {Qc : Array Value → State → Outcome → State → Prop} {host : String} {wc : va_W} {As rest : List Value} (S : CallFix p m c cc nL s args Ts own) (hM : Met l y ws rm (mPc D I O As wc H.size) Qc mc ms (va_A wc H.size)) (cw : va_CN R s args own index y host bytes maxL ret ws rm mc ms n) (hstat : (Cond.static y).before args s = true)
    (hK : sK D I O s) (hP : va_P D vwCl wc H) (hD : va_D A0 wc)
    (hn : As.length = n) (hsize : ls.size = nL) {st0 : List Value} (hst : st0 = As.reverse ++ rest) (hW : (rest.map fun v => v.category).sum ≤ 8) (hdg : decode cc pc = .ok (.invokestatic index, 3)) (hf : cells + mc ≤ R.cells ∧ slots + ms ≤ R.slots) :
    va_Run p l e R s m args below meth c H locs cells slots mc ms (F0 m pc ls st0) rest (Qc As.toArray) (va_A wc H.size) :=
  va_runSN S hM ⟨cw, hstat, trivial⟩ ⟨mPc_blind, mPc_at hP hD hK⟩ rfl hn hsize hst (by show 2 * 0 + _ ≤ 8; omega) hdg hf
theorem mv_I {Qc : Array Value → State → Outcome → State → Prop} {wc : va_W} {b : Nat} {As rest : List Value} (S : CallFix p m c cc nL s args Ts own) (hM : Met l y ws rm (mPc D I O (.ref b :: As) wc H.size) Qc mc ms (va_A wc H.size)) (cw : CallB R s args own index y bytes maxL none ws rm mc ms n ∧ y.name = "<init>" ∧ (Cond.instanceMethod y).before args s = true)
    (hK : sK D I O s) (hP : va_P D vwCl wc H) (hD : va_D A0 wc)
    (hn : As.length = n) (hsize : ls.size = nL) {st0 : List Value} (hst : st0 = As.reverse ++ .ref b :: rest) (hW : (rest.map fun v => v.category).sum ≤ 8) (hdg : decode cc pc = .ok (.invokespecial index, 3)) (hf : cells + mc ≤ R.cells ∧ slots + ms ≤ R.slots) :
    va_Run p l e R s m args below meth c H locs cells slots mc ms (F0 m pc ls st0) rest (Qc (Value.ref b :: As).toArray) (va_A wc H.size) :=
  va_runI S hM cw ⟨mPc_blind, mPc_at hP hD hK⟩ rfl hn hsize hst (by show 2 * 0 + _ ≤ 8; omega) hdg hf
end MV
theorem vp_c (i : Int32) (n : Nat) (h : ¬ (i < 0 ∨ n ≤ i.toNatClampNeg)) : vp_in i n := h
set_option maxHeartbeats 4000000 in
/-- the same, of a member of the JDK that the machine has no entry for -/
theorem m_startF {l : Launch} {y : MethodName} {ws ws' : List Cond} {rm : Room} {Qc : Array Value → State → Outcome → State → Prop} {mc ms : Nat} {cc : ByteArray} {maxL : Nat} {ret : Option FieldType} {D : va_G} {I O : ClassId} {av : List Value} {w0 : va_W} {sz : Nat}
    (hy : plainFor y = true) (hw : ws = Cond.code y cc maxL ret :: ws') (hlen : (lg_sl av).length ≤ maxL)
    (body : ∀ (p : Program) (e : Env) (s : State) (m : MethodId) (below : List Frame) (meth : Method) (c : Code) (ls : Array Slot) (H : Heap) (locs : List Loc), p.tables.exec = Jvm.exec → c.code = cc → meth.sig.returnType = ret → c.maxLocals = maxL → (∀ w ∈ ws, w.before av.toArray s = true) → s.vm.findClass y.cls = some m.cls → meth.locks = false → meth.name = y.name → sK D I O s → va_P D vwCl w0 H → va_D (va_A w0 sz) w0 → (∀ q, s.heap.size ≤ q → va_A w0 sz q) → va_S (va_A w0 sz) s.heap H locs → lv_has ls maxL (lv_args 0 av) →
      W p l e rm s m av.toArray below meth c H locs 0 0 (MQ below Qc av.toArray s mc ms (va_A w0 sz)) (F0 m 0 ls [])) : Met l y ws rm (mPc D I O av w0 sz) Qc mc ms (va_A w0 sz) := by
  refine va_MetF (cc := cc) (maxL := maxL) (ret := ret) hy hw ?_
  intro p e s m args below meth c s₁ B hml hv
  obtain ⟨rfl, hsz, hP, hK, hD0⟩ := hv
  have hl := lv_entry av (n := maxL) hlen
  rw [lg_entry_eq]
  subst hsz
  exact body p e s m below meth c _ _ _ B.exec B.bytes B.returns hml (atoms_spec (ws := ws) B.pre) (findClass_of_methodNamed B.named) B.notSynchronized (name_of_methodNamed B.named B.method).1 hK hP hD0.self (fun q h => Or.inr h) va_S.rf hl
