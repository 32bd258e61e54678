/-! the law from its entry: the tables' words, the two objects, the loop -/
theorem sK_start {args : Array Value} {s : State} (hts : ∀ w ∈ lw_tbl, w.before args s = true) : ∃ (D : va_G) (I O : ClassId), sK D I O s := by
  obtain ⟨c0, iS0, hKn0⟩ := u_known (C := RX0) (T := TX0) (N := 6) (n := 6) hts inX0 (hts (.instantiable RX0 6) (List.mem_of_getElem? (i := 45) rfl))
  obtain ⟨c1, iS1, hKn1⟩ := u_known (C := RX1) (T := TX1) (N := 13) (n := 13) hts inX1 (hts (.instantiable RX1 13) (List.mem_of_getElem? (i := 39) rfl))
  obtain ⟨c2, iS2, hKn2⟩ := u_known (C := RX2) (T := TX2) (N := 5) (n := 5) hts inX2 (hts (.instantiable RX2 5) (List.mem_of_getElem? (i := 31) rfl))
  obtain ⟨c3, iS3, hKn3⟩ := u_known (C := RX3) (T := TX3) (N := 6) (n := 6) hts inX3 (hts (.instantiable RX3 6) (List.mem_of_getElem? (i := 448) rfl))
  have ha : (Cond.arrayClass .int).before args s = true := hts _ (List.mem_of_getElem? (i := 71) rfl)
  have ho : (Cond.arrayOver (.object RX1)).before args s = true := hts _ (List.mem_of_getElem? (i := 156) rfl)
  have n1 : (Cond.methodLinkNest RX0 63 yX2_mixed RX2).before args s = true := hts _ (List.mem_of_getElem? (i := 441) rfl)
  have n2 : (Cond.methodLinkNest RX1 86 yX2_portionsFor RX2).before args s = true := hts _ (List.mem_of_getElem? (i := 362) rfl)
  have n3 : (Cond.methodLinkNest RX1 145 yX2_mixed RX2).before args s = true := hts _ (List.mem_of_getElem? (i := 436) rfl)
  obtain ⟨I, kI, cI, e1, e2, e3⟩ := Cond.arrayClass_spec ha
  obtain ⟨cO, O, kO, f1, f2, f3, f4, f5⟩ := Cond.arrayOver_spec ho
  refine ⟨(fun k => if k = 0 then c0 else if k = 1 then c1 else if k = 2 then c2 else c3, fun k => if k = 0 then iS0 else if k = 1 then iS1 else if k = 2 then iS2 else iS3), I, O, ⟨?_, ?_⟩, va_Nw.of rfl n1, va_Nw.of rfl n2, va_Nw.of rfl n3, va_AO.of ho⟩
  · intro k q hq
    match k, hq with
    | 0, hq => cases hq; exact hKn0
    | 1, hq => cases hq; exact hKn1
    | 2, hq => cases hq; exact hKn2
    | 3, hq => cases hq; exact hKn3
    | k + 4, hq => simp [vwCl] at hq
  · intro k q hq
    match k, hq with
    | 0, hq => cases hq; exact ⟨fun n z => ⟨fun k h => (by cases h), kI, e2, cI, e3⟩, e1⟩
    | 1, hq => cases hq; exact ⟨fun n z => ⟨fun k h => (by cases h), kO, f3, cO, f4⟩, kO, cO, f3, f4, f1, f5⟩
    | k + 2, hq => simp at hq
set_option maxHeartbeats 4000000 in
set_option maxRecDepth 100000 in
theorem law_start {p : Program} {e : Env} {s : State} {m : MethodId} {below : List Frame} {meth : Method} {c : Code} (l : Launch) {b L : Nat} {xs : Nat → Int32} (hL : L ≤ 2560) (C0 : lw_At p s m meth c b L xs) (hw : qX2_init (fun x => qX3_init (fun y => ∃ n, lq L xs n 0 x y))) : W p l e room_1 s m #[Value.ref b] below meth c s.heap [] 0 0 (lw_Z below #[Value.ref b] s) (entryFrame m ([Value.ref b] : List Value).toArray 4) := by
  obtain ⟨hx, hb, hr, hml, hown, hts, hX, hbl, hlocks, hgv⟩ := id C0
  have htsL := fun w h => hts w (wsL_law_in w h)
  have hown : s.vm.findClass RL = some m.cls := hown
  have hA : ∀ q : Nat, s.heap.size ≤ q → (fun q : Nat => s.heap.size ≤ q) q := fun _ h => h
  obtain ⟨D, I, O, hK⟩ := sK_start hts
  have hS : va_S (fun q : Nat => s.heap.size ≤ q) s.heap s.heap [] := va_S.rf
  have hP : va_P D vwCl [] s.heap := nil_P
  have hD : va_D (fun q : Nat => s.heap.size ≤ q) [] := nil_D
  have hl := lv_entry ([.ref b]) (n := 4) (Nat.le_of_ble_eq_true rfl)
  rw [lg_entry_eq]
  generalize (lg_sl ([.ref b]) ++ List.replicate (4 - (lg_sl ([.ref b])).length) Slot.unset).toArray = ls at hl ⊢
  have hl : lv_has ls 4 [(0, .ref b)] := hl
  refine va_new (ci := 2) (fs := [.null, .null, .null, .int 0, .null]) (C := RX2) (T := TX2) (N := 5) hx hb hts inX2 tyX2 tyX2_ok hown (htsL (.classLink RL 7 RX2) (by decide +kernel)) (htsL (.instantiable RX2 5) (by decide +kernel)) (htsL (.initialized RX2) (by decide +kernel)) hK.1 hP hD hS hA rfl (fun j hj => by rcases (show j = 0 ∨ j = 1 ∨ j = 2 ∨ j = 3 ∨ j = 4 by omega) with rfl | rfl | rfl | rfl | rfl <;> rfl) (Nat.le_of_ble_eq_true rfl) (Nat.le_of_ble_eq_true rfl) dL_law_0 (fun q0 H hP hD hS => ?_)
  have hP : va_P D vwCl [(q0, .inr (2, [.null, .null, .null, .int 0, .null]))] H := hP
  have hD : va_D (fun q : Nat => s.heap.size ≤ q) [(q0, .inr (2, [.null, .null, .null, .int 0, .null]))] := hD
  refine lv_dup hx hb dL_law_3 rfl ?_
  refine mw_v (mv_I (As := []) (rest := [.ref q0]) ⟨hx, hb, hml, hown, htsL⟩ (kX2_init l D I O q0 H.size _ hw) (cwI 0 htsL gL_law_X2_init rfl rfl rfl (htsL (.initialized RX2) (by decide +kernel)) (htsL (.methodLink RL 9 yX2_init) (by decide +kernel)) (htsL (.instanceMethod yX2_init) (by decide +kernel)) rfl hdSX2_init ⟨(Nat.le_of_ble_eq_true rfl), (Nat.le_of_ble_eq_true rfl)⟩) hK hP hD rfl hl.1 rfl (Nat.le_of_ble_eq_true rfl) dL_law_4 ⟨(Nat.le_of_ble_eq_true rfl), (Nat.le_of_ble_eq_true rfl)⟩) hP hD hS hA (fun u H locs hw hP hD hS => ?_)
  obtain ⟨du, x⟩ := u
  have hP : va_P D vwCl (sysW I O (q0, du) x) H := hP
  have hD : va_D (fun q : Nat => s.heap.size ≤ q) (sysW I O (q0, du) x) := hD
  refine lv_astore_n (lv' := [(1, .ref q0), (0, .ref b)]) hx hb dL_law_7 rfl hl (by decide) rfl (fun ls hl => ?_)
  refine va_new (ci := 3) (fs := [.null, .null, .null, .int 0, .null, .long 0]) (C := RX3) (T := TX3) (N := 6) hx hb hts inX3 tyX3 tyX3_ok hown (htsL (.classLink RL 10 RX3) (by decide +kernel)) (htsL (.instantiable RX3 6) (by decide +kernel)) (htsL (.initialized RX3) (by decide +kernel)) hK.1 hP hD hS hA rfl (fun j hj => by rcases (show j = 0 ∨ j = 1 ∨ j = 2 ∨ j = 3 ∨ j = 4 ∨ j = 5 by omega) with rfl | rfl | rfl | rfl | rfl | rfl <;> rfl) (Nat.le_of_ble_eq_true rfl) (Nat.le_of_ble_eq_true rfl) dL_law_8 (fun q1 H hP hD hS => ?_)
  refine lv_dup hx hb dL_law_11 rfl ?_
  have hPc := va_P.mid (X := sysW I O (q0, du) x) (wc := [(q1, .inr (3, [.null, .null, .null, .int 0, .null, .long 0]))]) (Y := []) hP
  have hDc := va_D.mid (X := sysW I O (q0, du) x) (wc := [(q1, .inr (3, [.null, .null, .null, .int 0, .null, .long 0]))]) (Y := []) hD
  refine mc_v (sysW I O (q0, du) x) [] (mv_I (As := []) (rest := [.ref q1]) ⟨hx, hb, hml, hown, htsL⟩ (kX3_init l D I O q1 H.size _ hw) (cwI 0 htsL gL_law_X3_init rfl rfl rfl (htsL (.initialized RX3) (by decide +kernel)) (htsL (.methodLink RL 12 yX3_init) (by decide +kernel)) (htsL (.instanceMethod yX3_init) (by decide +kernel)) rfl hdSX3_init ⟨(Nat.le_of_ble_eq_true rfl), (Nat.le_of_ble_eq_true rfl)⟩) hK hPc hDc rfl hl.1 rfl (Nat.le_of_ble_eq_true rfl) dL_law_12 ⟨(Nat.le_of_ble_eq_true rfl), (Nat.le_of_ble_eq_true rfl)⟩) hP hD hS hA (fun u H locs hw hP hD hS => ?_)
  obtain ⟨dm, y⟩ := u
  have hP : va_P D vwCl (sysW I O (q0, du) x ++ mdlW I (q1, dm) y) H := hP
  have hD : va_D (fun q : Nat => s.heap.size ≤ q) (sysW I O (q0, du) x ++ mdlW I (q1, dm) y) := hD
  refine lv_astore_n (lv' := [(2, .ref q1), (1, .ref q0), (0, .ref b)]) hx hb dL_law_15 rfl hl (by decide) rfl (fun ls hl => ?_)
  refine lv_iconst (v := 0) hx hb dL_law_16 (by decide) ?_
  refine lv_istore_n (lv' := [(3, .int 0), (2, .ref q1), (1, .ref q0), (0, .ref b)]) hx hb dL_law_17 rfl hl (by decide) rfl (fun ls hl => ?_)
  obtain ⟨n, hw⟩ := hw
  exact law_loop C0 hK hL n 0 x y (q0, du) (q1, dm) H locs ls hP hD hS (lv_sub hl [3, 2, 1, 0] rfl) hw
