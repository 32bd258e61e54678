/-! my own words for this claim: what the tables say beside the worlds; a method's start and end; a call, its frame and what comes behind, as one row -/
def sK (D : va_G) (I O : ClassId) (U : State) : Prop :=
  va_K D vwCl [(I, .int), (O, .object RX1)] U ∧ va_Nw (.methodLinkNest RX0 63 yX2_mixed RX2) U ∧ va_Nw (.methodLinkNest RX1 86 yX2_portionsFor RX2) U ∧ va_Nw (.methodLinkNest RX1 145 yX2_mixed RX2) U ∧ va_AO RX1 U
theorem sK.moved {D : va_G} {I O : ClassId} {s U : State} (hW : s.WarmedH U.vm) (h : sK D I O s) : sK D I O U :=
  ⟨va_K.moved hW.alike h.1, va_Nw.warmM hW h.2.1, va_Nw.warmM hW h.2.2.1, va_Nw.warmM hW h.2.2.2.1, va_AO.moved hW.alike h.2.2.2.2⟩
theorem sK.same {D : va_G} {I O : ClassId} {s U : State} (hv : s.vm = U.vm) (h : sK D I O s) : sK D I O U :=
  ⟨va_K.moved (by rw [hv]; exact Vm.Alike.refl _) h.1, va_Nw.same rfl hv h.2.1, va_Nw.same rfl hv h.2.2.1, va_Nw.same rfl hv h.2.2.2.1, va_AO.moved (by rw [hv]; exact Vm.Alike.refl _) h.2.2.2.2⟩
/-- a method's start: its world, apart, the tables' words -/
def mPc (D : va_G) (I O : ClassId) (av : List Value) (ws : va_W) (sz : Nat) : Array Value → State → Prop :=
  va_Pc av (fun U => U.heap.size = sz ∧ va_P D vwCl ws U.heap ∧ sK D I O U ∧ va_D (fun _ => True) ws)
/-- a method's end: the world of the state that it leaves -/
def mB {S : Type} (D : va_G) (A : Nat → Prop) (w : S → va_W) : S → State → Prop := fun u t => va_P D vwCl (w u) t.heap ∧ va_D A (w u)
theorem mPc_blind {D : va_G} {I O : ClassId} {av : List Value} {ws : va_W} {sz : Nat} : FrameBlind (mPc D I O av ws sz) := by
  intro a U g mk q
  obtain ⟨q0, q1, qP, qK, qD⟩ := q
  exact ⟨q0, q1, qP, sK.same (s := U) (U := U.calling g mk a) rfl qK, qD⟩
theorem mPc_at {D : va_G} {I O : ClassId} {av : List Value} {ws : va_W} {H : Heap} {A : Nat → Prop} {s : State} (hP : va_P D vwCl ws H) (hD : va_D A ws) (hK : sK D I O s) : ∀ U : State, U.heap = H → s.WarmedH U.vm → mPc D I O av ws H.size av.toArray U :=
  fun U hU hW => ⟨rfl, by rw [hU], by rw [hU]; exact hP, hK.moved hW, hD.weaken (fun _ _ _ _ => trivial)⟩
/-- a part in the middle of a world -/
theorem va_P.mid {D : va_G} {cl : List vw_C} {X wc Y : va_W} {H : Heap} (h : va_P D cl (X ++ (wc ++ Y)) H) : va_P D cl wc H := by
  intro k q hk
  have hm : q ∈ X ++ (wc ++ Y) := List.mem_append_right _ (List.mem_append_left _ (List.mem_of_getElem? hk))
  obtain ⟨i, hi⟩ := List.getElem?_of_mem hm
  exact h i q hi
theorem va_P.left {D : va_G} {cl : List vw_C} {X Y : va_W} {H : Heap} (h : va_P D cl (X ++ Y) H) : va_P D cl X H := by
  intro k q hk
  obtain ⟨i, hi⟩ := List.getElem?_of_mem (List.mem_append_left Y (List.mem_of_getElem? hk))
  exact h i q hi
theorem va_P.right {D : va_G} {cl : List vw_C} {X Y : va_W} {H : Heap} (h : va_P D cl (X ++ Y) H) : va_P D cl Y H := by
  intro k q hk
  obtain ⟨i, hi⟩ := List.getElem?_of_mem (List.mem_append_right X (List.mem_of_getElem? hk))
  exact h i q hi
theorem va_D.left {A : Nat → Prop} {X Y : va_W} (h : va_D A (X ++ Y)) : va_D A X := by
  have key : ∀ (k : Nat) (q : Nat × va_E), X[k]? = some q → (X ++ Y)[k]? = some q := fun k q hk => by
    rw [List.getElem?_append_left (List.getElem?_eq_some_iff.mp hk).1]; exact hk
  exact ⟨fun i j p q hi hj hpq => h.1 i j p q (key i p hi) (key j q hj) hpq, fun k q hk => h.2 k q (key k q hk)⟩
theorem va_D.right {A : Nat → Prop} {X Y : va_W} (h : va_D A (X ++ Y)) : va_D A Y := by
  have key : ∀ (k : Nat) (q : Nat × va_E), Y[k]? = some q → (X ++ Y)[X.length + k]? = some q := fun k q hk => by
    rw [List.getElem?_append_right (by omega), Nat.add_sub_cancel_left]; exact hk
  exact ⟨fun i j p q hi hj hpq => by have := h.1 _ _ p q (key i p hi) (key j q hj) hpq; omega, fun k q hk => h.2 _ q (key k q hk)⟩
theorem va_D.apart {A : Nat → Prop} {X Y : va_W} (h : va_D A (X ++ Y)) (i j : Nat) (p q : Nat × va_E) (hi : X[i]? = some p) (hj : Y[j]? = some q) : p.1 ≠ q.1 := by
  intro e
  have hl := (List.getElem?_eq_some_iff.mp hi).1
  have h1 : (X ++ Y)[i]? = some p := by rw [List.getElem?_append_left hl]; exact hi
  have h2 : (X ++ Y)[X.length + j]? = some q := by rw [List.getElem?_append_right (by omega), Nat.add_sub_cancel_left]; exact hj
  have := h.1 _ _ p q h1 h2 e
  omega
theorem va_D.swapL {A : Nat → Prop} {X Y Z : va_W} (h : va_D A (X ++ (Y ++ Z))) : va_D A (Y ++ (X ++ Z)) := by
  refine va_D.app h.right.left (va_D.app h.left h.right.right (fun i j p q hi hj => ?_)) (fun i j p q hi hj => ?_)
  · have hm : q ∈ Y ++ Z := List.mem_append_right _ (List.mem_of_getElem? hj)
    obtain ⟨k, hk⟩ := List.getElem?_of_mem hm
    exact h.apart i k p q hi hk
  · rcases List.mem_append.mp (List.mem_of_getElem? hj) with hm | hm
    · obtain ⟨k, hk⟩ := List.getElem?_of_mem hm
      have hm2 : p ∈ Y ++ Z := List.mem_append_left _ (List.mem_of_getElem? hi)
      obtain ⟨k2, hk2⟩ := List.getElem?_of_mem hm2
      exact fun e => h.apart k k2 q p hk hk2 e.symm
    · obtain ⟨k, hk⟩ := List.getElem?_of_mem hm
      exact h.right.apart i k p q hi hk
theorem va_P.swapL {D : va_G} {cl : List vw_C} {X Y Z : va_W} {H : Heap} (h : va_P D cl (X ++ (Y ++ Z)) H) : va_P D cl (Y ++ (X ++ Z)) H := va_P.app h.right.left (va_P.app h.left h.right.right)
theorem mid_free {A0 : Nat → Prop} {X wc Y : va_W} {H0 H : Heap} {locs : List Loc} (hD : va_D A0 (X ++ (wc ++ Y))) (hS : va_S A0 H0 H locs) (hA : ∀ q, H0.size ≤ q → A0 q) : ∀ q, va_A wc H.size q → A0 q := by
  intro q h
  rcases h with ⟨k, e, h⟩ | h
  · exact hD.right.left.2 k (q, e) h
  · exact hA q (Nat.le_trans hS.1 h)
/-- behind a call in the middle of a world -/
theorem mid_join {A0 : Nat → Prop} {D : va_G} {cl : List vw_C} {X wc Y w1 : va_W} {H H1 : Heap} (hP : va_P D cl (X ++ (wc ++ Y)) H) (hD : va_D A0 (X ++ (wc ++ Y)))
    (hk : ∀ q : Nat, q < H.size → ¬ va_A wc H.size q → H1[q]? = H[q]?) (hF : ∀ q, va_A wc H.size q → A0 q) (hP1 : va_P D cl w1 H1) (hD1 : va_D (va_A wc H.size) w1) : va_P D cl (X ++ (w1 ++ Y)) H1 ∧ va_D A0 (X ++ (w1 ++ Y)) := by
  have hX : ∀ (k : Nat) (q : Nat × va_E), X[k]? = some q → q.1 < H.size ∧ ¬ va_A wc H.size q.1 := by
    intro k q hq
    have hl := (hP.left k q hq).lt
    refine ⟨hl, fun h => ?_⟩
    rcases h with ⟨k2, e, h⟩ | h
    · have hm : (q.1, e) ∈ wc ++ Y := List.mem_append_left _ (List.mem_of_getElem? h)
      obtain ⟨j, hj⟩ := List.getElem?_of_mem hm
      exact hD.apart k j q (q.1, e) hq hj rfl
    · omega
  have hY : ∀ (k : Nat) (q : Nat × va_E), Y[k]? = some q → q.1 < H.size ∧ ¬ va_A wc H.size q.1 := by
    intro k q hq
    have hl := (hP.right.right k q hq).lt
    refine ⟨hl, fun h => ?_⟩
    rcases h with ⟨k2, e, h⟩ | h
    · exact hD.right.apart k2 k (q.1, e) q h hq rfl
    · omega
  have hw : va_D A0 w1 := hD1.weaken (fun _ q _ h => hF q.1 h)
  refine ⟨va_P.app (fun k q hq => (hP.left k q hq).kept (hk q.1 (hX k q hq).1 (hX k q hq).2)) (va_P.app hP1 (fun k q hq => (hP.right.right k q hq).kept (hk q.1 (hY k q hq).1 (hY k q hq).2))), ?_⟩
  refine va_D.app hD.left (va_D.app hw hD.right.right (fun i j x y hi hj e => (hY j y hj).2 (by rw [← e]; exact hD1.2 i x hi))) (fun i j x y hi hj e => ?_)
  rcases List.mem_append.mp (List.mem_of_getElem? hj) with hm | hm
  · obtain ⟨k, hk2⟩ := List.getElem?_of_mem hm
    exact (hX i x hi).2 (by rw [e]; exact hD1.2 k y hk2)
  · have hm2 : y ∈ wc ++ Y := List.mem_append_right _ hm
    obtain ⟨k, hk2⟩ := List.getElem?_of_mem hm2
    exact hD.apart i k x y hi hk2 e
set_option maxHeartbeats 4000000 in
/-- a contract out of a walk -/
theorem m_start {l : Launch} {y : MethodName} {ws ws' : List Cond} {rm : Room} {Qc : Array Value → State → Outcome → State → Prop} {mc ms : Nat} {cc : ByteArray} {maxL : Nat} {ret : Option FieldType} {D : va_G} {I O : ClassId} {av : List Value} {w0 : va_W} {sz : Nat}
    (hy : plainName y.cls = true) (hw : ws = Cond.code y cc maxL ret :: ws') (hlen : (lg_sl av).length ≤ maxL)
    (body : ∀ (p : Program) (e : Env) (s : State) (m : MethodId) (below : List Frame) (meth : Method) (c : Code) (ls : Array Slot) (H : Heap) (locs : List Loc), p.tables.exec = Jvm.exec → c.code = cc → meth.sig.returnType = ret → c.maxLocals = maxL → (∀ w ∈ ws, w.before av.toArray s = true) → s.vm.findClass y.cls = some m.cls → meth.locks = false → meth.name = y.name → sK D I O s → va_P D vwCl w0 H → va_D (va_A w0 sz) w0 → (∀ q, s.heap.size ≤ q → va_A w0 sz q) → va_S (va_A w0 sz) s.heap H locs → lv_has ls maxL (lv_args 0 av) →
      W p l e rm s m av.toArray below meth c H locs 0 0 (MQ below Qc av.toArray s mc ms (va_A w0 sz)) (F0 m 0 ls [])) : Met l y ws rm (mPc D I O av w0 sz) Qc mc ms (va_A w0 sz) := by
  refine Met.ofW (cc := cc) (maxL := maxL) (ret := ret) hy hw ?_
  intro p e s m args below meth c s₁ B hml hv
  obtain ⟨rfl, hsz, hP, hK, hD0⟩ := hv
  have hl := lv_entry av (n := maxL) hlen
  rw [lg_entry_eq]
  subst hsz
  exact body p e s m below meth c _ _ _ B.exec B.bytes B.returns hml (atoms_spec (ws := ws) B.pre) (findClass_of_methodNamed B.named) B.notSynchronized (name_of_methodNamed B.named B.method).1 hK hP hD0.self (fun q h => Or.inr h) va_S.rf hl
section MR
variable {p : Program} {l : Launch} {e : Env} {R : Room} {s : State} {m : MethodId} {args : Array Value} {below : List Frame} {meth : Method} {c : Code} {H : Heap} {locs : List Loc} {cells slots : Nat} {cc : ByteArray} {D : va_G} {A : Nat → Prop} {pc : Nat} {ls : Array Slot}
theorem m_iret {S : Type} {Q : Int32 → S → Prop} {w : S → va_W} {v : Int32} (u : S) (hx : p.tables.exec = Jvm.exec) (hb : c.code = cc) (hr : meth.sig.returnType = some .int) (hlocks : meth.locks = false) (hS : va_S A s.heap H locs) (hP : va_P D vwCl (w u) H) (hD : va_D A (w u)) (hdg : decode cc pc = .ok (.ireturn, 1)) (hw : Q v u) :
    W p l e R s m args below meth c H locs cells slots (MQ below (va_Qi Q (mB D A w) A) args s cells slots A) (F0 m pc ls [.int v]) :=
  W.iret hx hb hr (fun t ht _ => ⟨⟨v, u, rfl, hw, by rw [ht]; exact hP, hD⟩, hS.F ht⟩) hS.2.2 hdg hlocks
theorem m_zret {S : Type} {Q : Int32 → S → Prop} {w : S → va_W} {v : Int32} (u : S) (hx : p.tables.exec = Jvm.exec) (hb : c.code = cc) (hr : meth.sig.returnType = some .boolean) (hlocks : meth.locks = false) (hn : narrow .boolean (.int v) = .int v) (hS : va_S A s.heap H locs) (hP : va_P D vwCl (w u) H) (hD : va_D A (w u)) (hdg : decode cc pc = .ok (.ireturn, 1)) (hw : Q v u) :
    W p l e R s m args below meth c H locs cells slots (MQ below (va_Qi Q (mB D A w) A) args s cells slots A) (F0 m pc ls [.int v]) :=
  W.zret hx hb hr hn (fun t ht _ => ⟨⟨v, u, rfl, hw, by rw [ht]; exact hP, hD⟩, hS.F ht⟩) hS.2.2 hdg hlocks
theorem m_lret {S : Type} {Q : Int64 → S → Prop} {w : S → va_W} {v : Int64} (u : S) (hx : p.tables.exec = Jvm.exec) (hb : c.code = cc) (hr : meth.sig.returnType = some .long) (hlocks : meth.locks = false) (hS : va_S A s.heap H locs) (hP : va_P D vwCl (w u) H) (hD : va_D A (w u)) (hdg : decode cc pc = .ok (.lreturn, 1)) (hw : Q v u) :
    W p l e R s m args below meth c H locs cells slots (MQ below (va_Ql Q (mB D A w) A) args s cells slots A) (F0 m pc ls [.long v]) :=
  W.lret hx hb hr (fun t ht _ => ⟨⟨v, u, rfl, hw, by rw [ht]; exact hP, hD⟩, hS.F ht⟩) hS.2.2 hdg hlocks
theorem m_vret {S : Type} {Q : S → Prop} {w : S → va_W} (u : S) (hx : p.tables.exec = Jvm.exec) (hb : c.code = cc) (hr : meth.sig.returnType = none) (hlocks : meth.locks = false) (hS : va_S A s.heap H locs) (hP : va_P D vwCl (w u) H) (hD : va_D A (w u)) (hdg : decode cc pc = .ok (.return_, 1)) (hw : Q u) :
    W p l e R s m args below meth c H locs cells slots (MQ below (va_Qv Q (mB D A w) A) args s cells slots A) (F0 m pc ls []) :=
  W.vret hx hb hr (fun t ht _ => ⟨⟨u, rfl, hw, by rw [ht]; exact hP, hD⟩, hS.F ht⟩) hS.2.2 hdg hlocks
/-- an answer that is a cell: its address is told -/
theorem m_aret {S : Type} {Q : S → Prop} {w : S → va_W} {C : String} {v : Nat} (u : S) (hx : p.tables.exec = Jvm.exec) (hb : c.code = cc) (hr : meth.sig.returnType = some (.object C)) (hlocks : meth.locks = false) (hS : va_S A s.heap H locs) (hP : va_P D vwCl (w u) H) (hD : va_D A (w u)) (hdg : decode cc pc = .ok (.areturn, 1)) (hw : Q u) :
    W p l e R s m args below meth c H locs cells slots (MQ below (va_Qr Q (fun u a t => a = v ∧ mB D A w u t) A) args s cells slots A) (F0 m pc ls [.ref v]) :=
  W.aret hx hb hr (Or.inl ⟨_, rfl⟩) (Or.inr ⟨_, rfl⟩) (fun t ht _ => ⟨⟨u, v, rfl, hw, rfl, by rw [ht]; exact hP, hD⟩, hS.F ht⟩) hS.2.2 hdg hlocks
end MR
section MC
variable {p : Program} {l : Launch} {e : Env} {R : Room} {s : State} {m : MethodId} {args : Array Value} {below : List Frame} {meth : Method} {c : Code} {H : Heap} {locs : List Loc} {cells slots : Nat} {Qw : State → Prop}
variable {y : MethodName} {bytes cc : ByteArray} {maxL nL mc ms n index : Nat} {ret : Option FieldType} {ws : List Cond} {rm : Room} {Ts : List Cond} {own C : String} {D : va_G} {I O : ClassId} {A0 : Nat → Prop} {H0 : Heap} {pc : Nat} {ls : Array Slot}
/-- what a call goes on with: the callee's world in the middle of the caller's -/
theorem mc_i {S : Type} {Q : Int32 → S → Prop} {wc : va_W} {w : S → va_W} {st0 rest : List Value} {a : Array Value} (X Y : va_W)
    (hr : va_Run p l e R s m args below meth c H locs cells slots mc ms (F0 m pc ls st0) rest (va_Qi Q (mB D (va_A wc H.size) w) (va_A wc H.size) a) (va_A wc H.size))
    (hP : va_P D vwCl (X ++ (wc ++ Y)) H) (hD : va_D A0 (X ++ (wc ++ Y))) (hS : va_S A0 H0 H locs) (hA : ∀ q, H0.size ≤ q → A0 q)
    (kk : ∀ (r : Int32) (u : S) (H1 : Heap) (locs1 : List Loc), Q r u → va_P D vwCl (X ++ (w u ++ Y)) H1 → va_D A0 (X ++ (w u ++ Y)) → va_S A0 H0 H1 locs1 → W p l e R s m args below meth c H1 locs1 (cells + mc) (slots + ms) Qw (F0 m (pc + 3) ls (.int r :: rest))) :
    W p l e R s m args below meth c H locs cells slots Qw (F0 m pc ls st0) := by
  have hF := mid_free hD hS hA
  refine va_calli hr hS (fun q _ h => hF q h) hF (fun r u t H1 locs1 ht _ hw hB _ hk1 hS1 => ?_)
  obtain ⟨hP1, hD1⟩ := hB
  rw [ht] at hP1
  obtain ⟨hP2, hD2⟩ := mid_join hP hD hk1 hF hP1 hD1
  exact kk r u H1 locs1 hw hP2 hD2 hS1
theorem mc_l {S : Type} {Q : Int64 → S → Prop} {wc : va_W} {w : S → va_W} {st0 rest : List Value} {a : Array Value} (X Y : va_W)
    (hr : va_Run p l e R s m args below meth c H locs cells slots mc ms (F0 m pc ls st0) rest (va_Ql Q (mB D (va_A wc H.size) w) (va_A wc H.size) a) (va_A wc H.size))
    (hP : va_P D vwCl (X ++ (wc ++ Y)) H) (hD : va_D A0 (X ++ (wc ++ Y))) (hS : va_S A0 H0 H locs) (hA : ∀ q, H0.size ≤ q → A0 q)
    (kk : ∀ (r : Int64) (u : S) (H1 : Heap) (locs1 : List Loc), Q r u → va_P D vwCl (X ++ (w u ++ Y)) H1 → va_D A0 (X ++ (w u ++ Y)) → va_S A0 H0 H1 locs1 → W p l e R s m args below meth c H1 locs1 (cells + mc) (slots + ms) Qw (F0 m (pc + 3) ls (.long r :: rest))) :
    W p l e R s m args below meth c H locs cells slots Qw (F0 m pc ls st0) := by
  have hF := mid_free hD hS hA
  refine va_calll hr hS (fun q _ h => hF q h) hF (fun r u t H1 locs1 ht _ hw hB _ hk1 hS1 => ?_)
  obtain ⟨hP1, hD1⟩ := hB
  rw [ht] at hP1
  obtain ⟨hP2, hD2⟩ := mid_join hP hD hk1 hF hP1 hD1
  exact kk r u H1 locs1 hw hP2 hD2 hS1
theorem mc_v {S : Type} {Q : S → Prop} {wc : va_W} {w : S → va_W} {st0 rest : List Value} {a : Array Value} (X Y : va_W)
    (hr : va_Run p l e R s m args below meth c H locs cells slots mc ms (F0 m pc ls st0) rest (va_Qv Q (mB D (va_A wc H.size) w) (va_A wc H.size) a) (va_A wc H.size))
    (hP : va_P D vwCl (X ++ (wc ++ Y)) H) (hD : va_D A0 (X ++ (wc ++ Y))) (hS : va_S A0 H0 H locs) (hA : ∀ q, H0.size ≤ q → A0 q)
    (kk : ∀ (u : S) (H1 : Heap) (locs1 : List Loc), Q u → va_P D vwCl (X ++ (w u ++ Y)) H1 → va_D A0 (X ++ (w u ++ Y)) → va_S A0 H0 H1 locs1 → W p l e R s m args below meth c H1 locs1 (cells + mc) (slots + ms) Qw (F0 m (pc + 3) ls rest)) :
    W p l e R s m args below meth c H locs cells slots Qw (F0 m pc ls st0) := by
  have hF := mid_free hD hS hA
  refine va_callv hr hS (fun q _ h => hF q h) hF (fun u t H1 locs1 ht _ hw hB _ hk1 hS1 => ?_)
  obtain ⟨hP1, hD1⟩ := hB
  rw [ht] at hP1
  obtain ⟨hP2, hD2⟩ := mid_join hP hD hk1 hF hP1 hD1
  exact kk u H1 locs1 hw hP2 hD2 hS1
theorem mc_r {S : Type} {Q : S → Prop} {wc : va_W} {w : S → va_W} {v : Nat} {st0 rest : List Value} {a : Array Value} (X Y : va_W)
    (hr : va_Run p l e R s m args below meth c H locs cells slots mc ms (F0 m pc ls st0) rest (va_Qr Q (fun u a t => a = v ∧ mB D (va_A wc H.size) w u t) (va_A wc H.size) a) (va_A wc H.size))
    (hP : va_P D vwCl (X ++ (wc ++ Y)) H) (hD : va_D A0 (X ++ (wc ++ Y))) (hS : va_S A0 H0 H locs) (hA : ∀ q, H0.size ≤ q → A0 q)
    (kk : ∀ (u : S) (H1 : Heap) (locs1 : List Loc), Q u → va_P D vwCl (X ++ (w u ++ Y)) H1 → va_D A0 (X ++ (w u ++ Y)) → va_S A0 H0 H1 locs1 → W p l e R s m args below meth c H1 locs1 (cells + mc) (slots + ms) Qw (F0 m (pc + 3) ls (.ref v :: rest))) :
    W p l e R s m args below meth c H locs cells slots Qw (F0 m pc ls st0) := by
  have hF := mid_free hD hS hA
  refine va_callr hr hS (fun q _ h => hF q h) hF (fun u ra t H1 locs1 ht _ hw hB _ hk1 hS1 => ?_)
  obtain ⟨rfl, hP1, hD1⟩ := hB
  rw [ht] at hP1
  obtain ⟨hP2, hD2⟩ := mid_join hP hD hk1 hF hP1 hD1
  exact kk u H1 locs1 hw hP2 hD2 hS1
/-- a virtual call of a method of ours, run -/
theorem mr_V {Qc : Array Value → State → Outcome → State → Prop} {wc : va_W} {b : Nat} {As rest : List Value} (X Y : va_W) (S : CallFix p m c cc nL s args Ts own) (hM : Met l y ws rm (mPc D I O (.ref b :: As) wc H.size) Qc mc ms (va_A wc H.size)) (cw : CallW R s args own C index y bytes maxL ret ws rm mc ms n)
    (hK : sK D I O s) (hP : va_P D vwCl (X ++ (wc ++ Y)) H) (hD : va_D A0 (X ++ (wc ++ Y))) (q0 ci : Nat) {qq : vw_C} {fs : List Value} (hc : vwCl[ci]? = some qq) (hC : qq.1 = C) (he : wc[q0]? = some (b, .inr (ci, fs)))
    (hn : As.length = n) (hsize : ls.size = nL) {st0 : List Value} (hst : st0 = As.reverse ++ .ref b :: rest) (hW : (rest.map fun v => v.category).sum ≤ 8) (hdg : decode cc pc = .ok (.invokevirtual index, 3)) (hf : cells + mc ≤ R.cells ∧ slots + ms ≤ R.slots) :
    va_Run p l e R s m args below meth c H locs cells slots mc ms (F0 m pc ls st0) rest (Qc (Value.ref b :: As).toArray) (va_A wc H.size) := by
  subst hC
  exact va_runV S hM cw ⟨mPc_blind, va_recv hK.1 hP.mid hc he, mPc_at hP.mid hD.right.left hK⟩ rfl hn hsize hst (by show 2 * 0 + _ ≤ 8; omega) hdg hf
/-- a static call -/
theorem mr_S {Qc : Array Value → State → Outcome → State → Prop} {wc : va_W} {As rest : List Value} (X Y : va_W) (S : CallFix p m c cc nL s args Ts own) (hM : Met l y ws rm (mPc D I O As wc H.size) Qc mc ms (va_A wc H.size)) (cw : CallB R s args own index y bytes maxL ret ws rm mc ms n ∧ (Cond.static y).before args s = true)
    (hK : sK D I O s) (hP : va_P D vwCl (X ++ (wc ++ Y)) H) (hD : va_D A0 (X ++ (wc ++ Y)))
    (hn : As.length = n) (hsize : ls.size = nL) {st0 : List Value} (hst : st0 = As.reverse ++ rest) (hW : (rest.map fun v => v.category).sum ≤ 8) (hdg : decode cc pc = .ok (.invokestatic index, 3)) (hf : cells + mc ≤ R.cells ∧ slots + ms ≤ R.slots) :
    va_Run p l e R s m args below meth c H locs cells slots mc ms (F0 m pc ls st0) rest (Qc As.toArray) (va_A wc H.size) :=
  va_runS S hM cw ⟨mPc_blind, mPc_at hP.mid hD.right.left hK⟩ rfl hn hsize hst (by show 2 * 0 + _ ≤ 8; omega) hdg hf
/-- a static call of a nest mate's private method -/
theorem mr_SN {Qc : Array Value → State → Outcome → State → Prop} {host : String} {wc : va_W} {As rest : List Value} (X Y : va_W) (S : CallFix p m c cc nL s args Ts own) (hM : Met l y ws rm (mPc D I O As wc H.size) Qc mc ms (va_A wc H.size)) (cw : va_CN R s args own index y host bytes maxL ret ws rm mc ms n) (hstat : (Cond.static y).before args s = true)
    (hK : sK D I O s) (hP : va_P D vwCl (X ++ (wc ++ Y)) H) (hD : va_D A0 (X ++ (wc ++ Y)))
    (hn : As.length = n) (hsize : ls.size = nL) {st0 : List Value} (hst : st0 = As.reverse ++ rest) (hW : (rest.map fun v => v.category).sum ≤ 8) (hdg : decode cc pc = .ok (.invokestatic index, 3)) (hf : cells + mc ≤ R.cells ∧ slots + ms ≤ R.slots) :
    va_Run p l e R s m args below meth c H locs cells slots mc ms (F0 m pc ls st0) rest (Qc As.toArray) (va_A wc H.size) :=
  va_runSN S hM ⟨cw, hstat, trivial⟩ ⟨mPc_blind, mPc_at hP.mid hD.right.left hK⟩ rfl hn hsize hst (by show 2 * 0 + _ ≤ 8; omega) hdg hf
/-- a constructor's call -/
theorem mr_I {Qc : Array Value → State → Outcome → State → Prop} {wc : va_W} {b : Nat} {As rest : List Value} (X Y : va_W) (S : CallFix p m c cc nL s args Ts own) (hM : Met l y ws rm (mPc D I O (.ref b :: As) wc H.size) Qc mc ms (va_A wc H.size)) (cw : CallB R s args own index y bytes maxL none ws rm mc ms n ∧ y.name = "<init>" ∧ (Cond.instanceMethod y).before args s = true)
    (hK : sK D I O s) (hP : va_P D vwCl (X ++ (wc ++ Y)) H) (hD : va_D A0 (X ++ (wc ++ Y)))
    (hn : As.length = n) (hsize : ls.size = nL) {st0 : List Value} (hst : st0 = As.reverse ++ .ref b :: rest) (hW : (rest.map fun v => v.category).sum ≤ 8) (hdg : decode cc pc = .ok (.invokespecial index, 3)) (hf : cells + mc ≤ R.cells ∧ slots + ms ≤ R.slots) :
    va_Run p l e R s m args below meth c H locs cells slots mc ms (F0 m pc ls st0) rest (Qc (Value.ref b :: As).toArray) (va_A wc H.size) :=
  va_runI S hM cw ⟨mPc_blind, mPc_at hP.mid hD.right.left hK⟩ rfl hn hsize hst (by show 2 * 0 + _ ≤ 8; omega) hdg hf
end MC
