def lq14 (L : Nat) (xs : Nat → Int32) (i : Int32) (x : Sys) (y : Mod) (K : Sys → Mod → Prop) : Prop := (qX2_killDensity x (fun r1 u2 => (qX3_killDensity y (fun r3 u4 => (r1 = r3 ∧ K u2 u4)))))
set_option maxHeartbeats 4000000 in
set_option maxRecDepth 100000 in
theorem lc14 {p : Program} {l : Launch} {e : Env} {s : State} {m : MethodId} {below : List Frame} {meth : Method} {c : Code} {D : va_G} {I O : ClassId} {b L : Nat} {xs : Nat → Int32} (C0 : lw_At p s m meth c b L xs) (hK : sK D I O s) (i : Int32) (K : Sys → Mod → Prop) (hk : ∀ (x : Sys) (y : Mod) (a2 : SA) (d2 : MA) (H : Heap) (locs : List Loc) (ls : Array Slot), va_P D vwCl (sysW I O a2 x ++ mdlW I d2 y) H → va_D (fun q : Nat => s.heap.size ≤ q) (sysW I O a2 x ++ mdlW I d2 y) → va_S (fun q : Nat => s.heap.size ≤ q) s.heap H locs → lv_has ls 4 [(0, .ref b), (1, .ref a2.1), (2, .ref d2.1), (3, .int i)] → K x y → W p l e room_1 s m #[Value.ref b] below meth c H locs 50 39149 (lw_Z below #[Value.ref b] s) (F0 m 748 ls [])) (x : Sys) (y : Mod) (a : SA) (d : MA) (H : Heap) (locs : List Loc) (ls : Array Slot) (hP : va_P D vwCl (sysW I O a x ++ mdlW I d y) H) (hD : va_D (fun q : Nat => s.heap.size ≤ q) (sysW I O a x ++ mdlW I d y)) (hS : va_S (fun q : Nat => s.heap.size ≤ q) s.heap H locs) (hl : lv_has ls 4 [(0, .ref b), (1, .ref a.1), (2, .ref d.1), (3, .int i)]) (hw : lq14 L xs i x y K) : W p l e room_1 s m #[Value.ref b] below meth c H locs 50 39149 (lw_Z below #[Value.ref b] s) (F0 m 478 ls []) := by
  obtain ⟨hx, hb, hr, hml, hown, hts0, hX, hbl, hlocks, hgv⟩ := C0
  have hts := fun w h => hts0 w (wsL_law_in w h)
  have hown : s.vm.findClass RL = some m.cls := hown
  have hA : ∀ q : Nat, s.heap.size ≤ q → (fun q : Nat => s.heap.size ≤ q) q := fun _ h => h
  have hbA : ¬ (fun q : Nat => s.heap.size ≤ q) b := Nat.not_le.mpr hbl
  unfold lq14 at hw
  refine lv_aload_n hx hb dL_law_478 rfl (lv_at hl 1 rfl) ?_
  have hPc := va_P.mid (X := []) (wc := sysW I O a x) (Y := mdlW I d y) hP
  have hDc := va_D.mid (X := []) (wc := sysW I O a x) (Y := mdlW I d y) hD
  refine mc_i ([]) (mdlW I d y) (mv_V (As := []) (rest := []) ⟨hx, hb, hml, hown, hts⟩ (kX2_killDensity l D I O a H.size x _ hw) (cwV 0 hts gL_law_X2_killDensity rfl rfl rfl hdVX2_killDensity ⟨(Nat.le_of_ble_eq_true rfl), (Nat.le_of_ble_eq_true rfl)⟩) hK hPc hDc 0 2 rfl rfl rfl rfl hl.1 rfl (Nat.le_of_ble_eq_true rfl) dL_law_479 ⟨(Nat.le_of_ble_eq_true rfl), (Nat.le_of_ble_eq_true rfl)⟩) hP hD hS hA (fun r1 u2 H locs hw hP hD hS => ?_)
  have hP : va_P D vwCl (sysW I O a u2 ++ mdlW I d y) H := hP
  have hD : va_D ((fun q : Nat => s.heap.size ≤ q)) (sysW I O a u2 ++ mdlW I d y) := hD
  refine lv_aload_n hx hb dL_law_482 rfl (lv_at hl 2 rfl) ?_
  have hPc := va_P.mid (X := sysW I O a u2) (wc := mdlW I d y) (Y := []) hP
  have hDc := va_D.mid (X := sysW I O a u2) (wc := mdlW I d y) (Y := []) hD
  refine mc_i (sysW I O a u2) ([]) (mv_V (As := []) (rest := [.int r1]) ⟨hx, hb, hml, hown, hts⟩ (kX3_killDensity l D I O d H.size y _ hw) (cwV 0 hts gL_law_X3_killDensity rfl rfl rfl hdVX3_killDensity ⟨(Nat.le_of_ble_eq_true rfl), (Nat.le_of_ble_eq_true rfl)⟩) hK hPc hDc 0 3 rfl rfl rfl rfl hl.1 rfl (Nat.le_of_ble_eq_true rfl) dL_law_483 ⟨(Nat.le_of_ble_eq_true rfl), (Nat.le_of_ble_eq_true rfl)⟩) hP hD hS hA (fun r3 u4 H locs hw hP hD hS => ?_)
  have hP : va_P D vwCl (sysW I O a u2 ++ mdlW I d u4) H := hP
  have hD : va_D ((fun q : Nat => s.heap.size ≤ q)) (sysW I O a u2 ++ mdlW I d u4) := hD
  obtain ⟨c5, hw⟩ := hw
  refine lv_icmp_eq (tgt := 748) hx hb dL_law_486 (by decide) (fun _ => ?_) (fun cz => absurd c5 cz)
  exact hk u2 u4 a d H locs ls hP hD hS hl hw
def lq15 (L : Nat) (xs : Nat → Int32) (i : Int32) (x : Sys) (y : Mod) (K : Sys → Mod → Prop) : Prop := (vp_in (i + 1) L ∧ (vp_in (i + 2) L ∧ (qX2_killShoePressure x (xs (Int32.toNatClampNeg (i + 1))) (xs (Int32.toNatClampNeg (i + 2))) (fun r3 u4 => (vp_in (i + 1) L ∧ (vp_in (i + 2) L ∧ (qX3_killShoePressure y (xs (Int32.toNatClampNeg (i + 1))) (xs (Int32.toNatClampNeg (i + 2))) (fun r7 u8 => (r3 = r7 ∧ K u4 u8)))))))))
set_option maxHeartbeats 4000000 in
set_option maxRecDepth 100000 in
theorem lc15 {p : Program} {l : Launch} {e : Env} {s : State} {m : MethodId} {below : List Frame} {meth : Method} {c : Code} {D : va_G} {I O : ClassId} {b L : Nat} {xs : Nat → Int32} (C0 : lw_At p s m meth c b L xs) (hK : sK D I O s) (i : Int32) (K : Sys → Mod → Prop) (hk : ∀ (x : Sys) (y : Mod) (a2 : SA) (d2 : MA) (H : Heap) (locs : List Loc) (ls : Array Slot), va_P D vwCl (sysW I O a2 x ++ mdlW I d2 y) H → va_D (fun q : Nat => s.heap.size ≤ q) (sysW I O a2 x ++ mdlW I d2 y) → va_S (fun q : Nat => s.heap.size ≤ q) s.heap H locs → lv_has ls 4 [(0, .ref b), (1, .ref a2.1), (2, .ref d2.1), (3, .int i)] → K x y → W p l e room_1 s m #[Value.ref b] below meth c H locs 50 39149 (lw_Z below #[Value.ref b] s) (F0 m 748 ls [])) (x : Sys) (y : Mod) (a : SA) (d : MA) (H : Heap) (locs : List Loc) (ls : Array Slot) (hP : va_P D vwCl (sysW I O a x ++ mdlW I d y) H) (hD : va_D (fun q : Nat => s.heap.size ≤ q) (sysW I O a x ++ mdlW I d y)) (hS : va_S (fun q : Nat => s.heap.size ≤ q) s.heap H locs) (hl : lv_has ls 4 [(0, .ref b), (1, .ref a.1), (2, .ref d.1), (3, .int i)]) (hw : lq15 L xs i x y K) : W p l e room_1 s m #[Value.ref b] below meth c H locs 50 39149 (lw_Z below #[Value.ref b] s) (F0 m 491 ls []) := by
  obtain ⟨hx, hb, hr, hml, hown, hts0, hX, hbl, hlocks, hgv⟩ := C0
  have hts := fun w h => hts0 w (wsL_law_in w h)
  have hown : s.vm.findClass RL = some m.cls := hown
  have hA : ∀ q : Nat, s.heap.size ≤ q → (fun q : Nat => s.heap.size ≤ q) q := fun _ h => h
  have hbA : ¬ (fun q : Nat => s.heap.size ≤ q) b := Nat.not_le.mpr hbl
  unfold lq15 at hw
  refine lv_aload_n hx hb dL_law_491 rfl (lv_at hl 1 rfl) ?_
  refine lv_aload_n hx hb dL_law_492 rfl (lv_at hl 0 rfl) ?_
  refine lv_iload_n hx hb dL_law_493 rfl (lv_at hl 3 rfl) ?_
  refine lv_iconst (v := 1) hx hb dL_law_494 (by decide) ?_
  refine lv_iadd hx hb dL_law_495 ?_
  obtain ⟨h1, hw⟩ := hw
  refine va_sld hx hb hX hbl hbA hS h1 dL_law_496 ?_
  refine lv_aload_n hx hb dL_law_497 rfl (lv_at hl 0 rfl) ?_
  refine lv_iload_n hx hb dL_law_498 rfl (lv_at hl 3 rfl) ?_
  refine lv_iconst (v := 2) hx hb dL_law_499 (by decide) ?_
  refine lv_iadd hx hb dL_law_500 ?_
  obtain ⟨h2, hw⟩ := hw
  refine va_sld hx hb hX hbl hbA hS h2 dL_law_501 ?_
  have hPc := va_P.mid (X := []) (wc := sysW I O a x) (Y := mdlW I d y) hP
  have hDc := va_D.mid (X := []) (wc := sysW I O a x) (Y := mdlW I d y) hD
  refine mc_i ([]) (mdlW I d y) (mv_V (As := [.int (xs (Int32.toNatClampNeg (i + 1))), .int (xs (Int32.toNatClampNeg (i + 2)))]) (rest := []) ⟨hx, hb, hml, hown, hts⟩ (kX2_killShoePressure l D I O a H.size x (xs (Int32.toNatClampNeg (i + 1))) (xs (Int32.toNatClampNeg (i + 2))) _ hw) (cwV 2 hts gL_law_X2_killShoePressure rfl rfl rfl hdVX2_killShoePressure ⟨(Nat.le_of_ble_eq_true rfl), (Nat.le_of_ble_eq_true rfl)⟩) hK hPc hDc 0 2 rfl rfl rfl rfl hl.1 rfl (Nat.le_of_ble_eq_true rfl) dL_law_502 ⟨(Nat.le_of_ble_eq_true rfl), (Nat.le_of_ble_eq_true rfl)⟩) hP hD hS hA (fun r3 u4 H locs hw hP hD hS => ?_)
  have hP : va_P D vwCl (sysW I O a u4 ++ mdlW I d y) H := hP
  have hD : va_D ((fun q : Nat => s.heap.size ≤ q)) (sysW I O a u4 ++ mdlW I d y) := hD
  refine lv_aload_n hx hb dL_law_505 rfl (lv_at hl 2 rfl) ?_
  refine lv_aload_n hx hb dL_law_506 rfl (lv_at hl 0 rfl) ?_
  refine lv_iload_n hx hb dL_law_507 rfl (lv_at hl 3 rfl) ?_
  refine lv_iconst (v := 1) hx hb dL_law_508 (by decide) ?_
  refine lv_iadd hx hb dL_law_509 ?_
  obtain ⟨h5, hw⟩ := hw
  refine va_sld hx hb hX hbl hbA hS h5 dL_law_510 ?_
  refine lv_aload_n hx hb dL_law_511 rfl (lv_at hl 0 rfl) ?_
  refine lv_iload_n hx hb dL_law_512 rfl (lv_at hl 3 rfl) ?_
  refine lv_iconst (v := 2) hx hb dL_law_513 (by decide) ?_
  refine lv_iadd hx hb dL_law_514 ?_
  obtain ⟨h6, hw⟩ := hw
  refine va_sld hx hb hX hbl hbA hS h6 dL_law_515 ?_
  have hPc := va_P.mid (X := sysW I O a u4) (wc := mdlW I d y) (Y := []) hP
  have hDc := va_D.mid (X := sysW I O a u4) (wc := mdlW I d y) (Y := []) hD
  refine mc_i (sysW I O a u4) ([]) (mv_V (As := [.int (xs (Int32.toNatClampNeg (i + 1))), .int (xs (Int32.toNatClampNeg (i + 2)))]) (rest := [.int r3]) ⟨hx, hb, hml, hown, hts⟩ (kX3_killShoePressure l D I O d H.size y (xs (Int32.toNatClampNeg (i + 1))) (xs (Int32.toNatClampNeg (i + 2))) _ hw) (cwV 2 hts gL_law_X3_killShoePressure rfl rfl rfl hdVX3_killShoePressure ⟨(Nat.le_of_ble_eq_true rfl), (Nat.le_of_ble_eq_true rfl)⟩) hK hPc hDc 0 3 rfl rfl rfl rfl hl.1 rfl (Nat.le_of_ble_eq_true rfl) dL_law_516 ⟨(Nat.le_of_ble_eq_true rfl), (Nat.le_of_ble_eq_true rfl)⟩) hP hD hS hA (fun r7 u8 H locs hw hP hD hS => ?_)
  have hP : va_P D vwCl (sysW I O a u4 ++ mdlW I d u8) H := hP
  have hD : va_D ((fun q : Nat => s.heap.size ≤ q)) (sysW I O a u4 ++ mdlW I d u8) := hD
  obtain ⟨c9, hw⟩ := hw
  refine lv_icmp_eq (tgt := 748) hx hb dL_law_519 (by decide) (fun _ => ?_) (fun cz => absurd c9 cz)
  exact hk u4 u8 a d H locs ls hP hD hS hl hw
def lq16 (L : Nat) (xs : Nat → Int32) (i : Int32) (x : Sys) (y : Mod) (K : Sys → Mod → Prop) : Prop := (vp_in (i + 1) L ∧ (qX2_schedule x (xs (Int32.toNatClampNeg (i + 1))) (fun r2 u3 => (vp_in (i + 1) L ∧ (qX3_schedule y (xs (Int32.toNatClampNeg (i + 1))) (fun r5 u6 => (r2 = r5 ∧ K u3 u6)))))))
set_option maxHeartbeats 4000000 in
set_option maxRecDepth 100000 in
theorem lc16 {p : Program} {l : Launch} {e : Env} {s : State} {m : MethodId} {below : List Frame} {meth : Method} {c : Code} {D : va_G} {I O : ClassId} {b L : Nat} {xs : Nat → Int32} (C0 : lw_At p s m meth c b L xs) (hK : sK D I O s) (i : Int32) (K : Sys → Mod → Prop) (hk : ∀ (x : Sys) (y : Mod) (a2 : SA) (d2 : MA) (H : Heap) (locs : List Loc) (ls : Array Slot), va_P D vwCl (sysW I O a2 x ++ mdlW I d2 y) H → va_D (fun q : Nat => s.heap.size ≤ q) (sysW I O a2 x ++ mdlW I d2 y) → va_S (fun q : Nat => s.heap.size ≤ q) s.heap H locs → lv_has ls 4 [(0, .ref b), (1, .ref a2.1), (2, .ref d2.1), (3, .int i)] → K x y → W p l e room_1 s m #[Value.ref b] below meth c H locs 50 39149 (lw_Z below #[Value.ref b] s) (F0 m 748 ls [])) (x : Sys) (y : Mod) (a : SA) (d : MA) (H : Heap) (locs : List Loc) (ls : Array Slot) (hP : va_P D vwCl (sysW I O a x ++ mdlW I d y) H) (hD : va_D (fun q : Nat => s.heap.size ≤ q) (sysW I O a x ++ mdlW I d y)) (hS : va_S (fun q : Nat => s.heap.size ≤ q) s.heap H locs) (hl : lv_has ls 4 [(0, .ref b), (1, .ref a.1), (2, .ref d.1), (3, .int i)]) (hw : lq16 L xs i x y K) : W p l e room_1 s m #[Value.ref b] below meth c H locs 50 39149 (lw_Z below #[Value.ref b] s) (F0 m 524 ls []) := by
  obtain ⟨hx, hb, hr, hml, hown, hts0, hX, hbl, hlocks, hgv⟩ := C0
  have hts := fun w h => hts0 w (wsL_law_in w h)
  have hown : s.vm.findClass RL = some m.cls := hown
  have hA : ∀ q : Nat, s.heap.size ≤ q → (fun q : Nat => s.heap.size ≤ q) q := fun _ h => h
  have hbA : ¬ (fun q : Nat => s.heap.size ≤ q) b := Nat.not_le.mpr hbl
  unfold lq16 at hw
  refine lv_aload_n hx hb dL_law_524 rfl (lv_at hl 1 rfl) ?_
  refine lv_aload_n hx hb dL_law_525 rfl (lv_at hl 0 rfl) ?_
  refine lv_iload_n hx hb dL_law_526 rfl (lv_at hl 3 rfl) ?_
  refine lv_iconst (v := 1) hx hb dL_law_527 (by decide) ?_
  refine lv_iadd hx hb dL_law_528 ?_
  obtain ⟨h1, hw⟩ := hw
  refine va_sld hx hb hX hbl hbA hS h1 dL_law_529 ?_
  have hPc := va_P.mid (X := []) (wc := sysW I O a x) (Y := mdlW I d y) hP
  have hDc := va_D.mid (X := []) (wc := sysW I O a x) (Y := mdlW I d y) hD
  refine mc_i ([]) (mdlW I d y) (mv_V (As := [.int (xs (Int32.toNatClampNeg (i + 1)))]) (rest := []) ⟨hx, hb, hml, hown, hts⟩ (kX2_schedule l D I O a H.size x (xs (Int32.toNatClampNeg (i + 1))) _ hw) (cwV 1 hts gL_law_X2_schedule rfl rfl rfl hdVX2_schedule ⟨(Nat.le_of_ble_eq_true rfl), (Nat.le_of_ble_eq_true rfl)⟩) hK hPc hDc 0 2 rfl rfl rfl rfl hl.1 rfl (Nat.le_of_ble_eq_true rfl) dL_law_530 ⟨(Nat.le_of_ble_eq_true rfl), (Nat.le_of_ble_eq_true rfl)⟩) hP hD hS hA (fun r2 u3 H locs hw hP hD hS => ?_)
  have hP : va_P D vwCl (sysW I O a u3 ++ mdlW I d y) H := hP
  have hD : va_D ((fun q : Nat => s.heap.size ≤ q)) (sysW I O a u3 ++ mdlW I d y) := hD
  refine lv_aload_n hx hb dL_law_533 rfl (lv_at hl 2 rfl) ?_
  refine lv_aload_n hx hb dL_law_534 rfl (lv_at hl 0 rfl) ?_
  refine lv_iload_n hx hb dL_law_535 rfl (lv_at hl 3 rfl) ?_
  refine lv_iconst (v := 1) hx hb dL_law_536 (by decide) ?_
  refine lv_iadd hx hb dL_law_537 ?_
  obtain ⟨h4, hw⟩ := hw
  refine va_sld hx hb hX hbl hbA hS h4 dL_law_538 ?_
  have hPc := va_P.mid (X := sysW I O a u3) (wc := mdlW I d y) (Y := []) hP
  have hDc := va_D.mid (X := sysW I O a u3) (wc := mdlW I d y) (Y := []) hD
  refine mc_i (sysW I O a u3) ([]) (mv_V (As := [.int (xs (Int32.toNatClampNeg (i + 1)))]) (rest := [.int r2]) ⟨hx, hb, hml, hown, hts⟩ (kX3_schedule l D I O d H.size y (xs (Int32.toNatClampNeg (i + 1))) _ hw) (cwV 1 hts gL_law_X3_schedule rfl rfl rfl hdVX3_schedule ⟨(Nat.le_of_ble_eq_true rfl), (Nat.le_of_ble_eq_true rfl)⟩) hK hPc hDc 0 3 rfl rfl rfl rfl hl.1 rfl (Nat.le_of_ble_eq_true rfl) dL_law_539 ⟨(Nat.le_of_ble_eq_true rfl), (Nat.le_of_ble_eq_true rfl)⟩) hP hD hS hA (fun r5 u6 H locs hw hP hD hS => ?_)
  have hP : va_P D vwCl (sysW I O a u3 ++ mdlW I d u6) H := hP
  have hD : va_D ((fun q : Nat => s.heap.size ≤ q)) (sysW I O a u3 ++ mdlW I d u6) := hD
  obtain ⟨c7, hw⟩ := hw
  refine lv_icmp_eq (tgt := 748) hx hb dL_law_542 (by decide) (fun _ => ?_) (fun cz => absurd c7 cz)
  exact hk u3 u6 a d H locs ls hP hD hS hl hw
def lq17 (L : Nat) (xs : Nat → Int32) (i : Int32) (x : Sys) (y : Mod) (K : Sys → Mod → Prop) : Prop := (vp_in (i + 1) L ∧ (qX2_strokesToBit x (xs (Int32.toNatClampNeg (i + 1))) (fun r2 u3 => (vp_in (i + 1) L ∧ (qX3_strokesToBit y (xs (Int32.toNatClampNeg (i + 1))) (fun r5 u6 => (r2 = r5 ∧ K u3 u6)))))))
set_option maxHeartbeats 4000000 in
set_option maxRecDepth 100000 in
theorem lc17 {p : Program} {l : Launch} {e : Env} {s : State} {m : MethodId} {below : List Frame} {meth : Method} {c : Code} {D : va_G} {I O : ClassId} {b L : Nat} {xs : Nat → Int32} (C0 : lw_At p s m meth c b L xs) (hK : sK D I O s) (i : Int32) (K : Sys → Mod → Prop) (hk : ∀ (x : Sys) (y : Mod) (a2 : SA) (d2 : MA) (H : Heap) (locs : List Loc) (ls : Array Slot), va_P D vwCl (sysW I O a2 x ++ mdlW I d2 y) H → va_D (fun q : Nat => s.heap.size ≤ q) (sysW I O a2 x ++ mdlW I d2 y) → va_S (fun q : Nat => s.heap.size ≤ q) s.heap H locs → lv_has ls 4 [(0, .ref b), (1, .ref a2.1), (2, .ref d2.1), (3, .int i)] → K x y → W p l e room_1 s m #[Value.ref b] below meth c H locs 50 39149 (lw_Z below #[Value.ref b] s) (F0 m 748 ls [])) (x : Sys) (y : Mod) (a : SA) (d : MA) (H : Heap) (locs : List Loc) (ls : Array Slot) (hP : va_P D vwCl (sysW I O a x ++ mdlW I d y) H) (hD : va_D (fun q : Nat => s.heap.size ≤ q) (sysW I O a x ++ mdlW I d y)) (hS : va_S (fun q : Nat => s.heap.size ≤ q) s.heap H locs) (hl : lv_has ls 4 [(0, .ref b), (1, .ref a.1), (2, .ref d.1), (3, .int i)]) (hw : lq17 L xs i x y K) : W p l e room_1 s m #[Value.ref b] below meth c H locs 50 39149 (lw_Z below #[Value.ref b] s) (F0 m 547 ls []) := by
  obtain ⟨hx, hb, hr, hml, hown, hts0, hX, hbl, hlocks, hgv⟩ := C0
  have hts := fun w h => hts0 w (wsL_law_in w h)
  have hown : s.vm.findClass RL = some m.cls := hown
  have hA : ∀ q : Nat, s.heap.size ≤ q → (fun q : Nat => s.heap.size ≤ q) q := fun _ h => h
  have hbA : ¬ (fun q : Nat => s.heap.size ≤ q) b := Nat.not_le.mpr hbl
  unfold lq17 at hw
  refine lv_aload_n hx hb dL_law_547 rfl (lv_at hl 1 rfl) ?_
  refine lv_aload_n hx hb dL_law_548 rfl (lv_at hl 0 rfl) ?_
  refine lv_iload_n hx hb dL_law_549 rfl (lv_at hl 3 rfl) ?_
  refine lv_iconst (v := 1) hx hb dL_law_550 (by decide) ?_
  refine lv_iadd hx hb dL_law_551 ?_
  obtain ⟨h1, hw⟩ := hw
  refine va_sld hx hb hX hbl hbA hS h1 dL_law_552 ?_
  have hPc := va_P.mid (X := []) (wc := sysW I O a x) (Y := mdlW I d y) hP
  have hDc := va_D.mid (X := []) (wc := sysW I O a x) (Y := mdlW I d y) hD
  refine mc_i ([]) (mdlW I d y) (mv_V (As := [.int (xs (Int32.toNatClampNeg (i + 1)))]) (rest := []) ⟨hx, hb, hml, hown, hts⟩ (kX2_strokesToBit l D I O a H.size x (xs (Int32.toNatClampNeg (i + 1))) _ hw) (cwV 1 hts gL_law_X2_strokesToBit rfl rfl rfl hdVX2_strokesToBit ⟨(Nat.le_of_ble_eq_true rfl), (Nat.le_of_ble_eq_true rfl)⟩) hK hPc hDc 0 2 rfl rfl rfl rfl hl.1 rfl (Nat.le_of_ble_eq_true rfl) dL_law_553 ⟨(Nat.le_of_ble_eq_true rfl), (Nat.le_of_ble_eq_true rfl)⟩) hP hD hS hA (fun r2 u3 H locs hw hP hD hS => ?_)
  have hP : va_P D vwCl (sysW I O a u3 ++ mdlW I d y) H := hP
  have hD : va_D ((fun q : Nat => s.heap.size ≤ q)) (sysW I O a u3 ++ mdlW I d y) := hD
  refine lv_aload_n hx hb dL_law_556 rfl (lv_at hl 2 rfl) ?_
  refine lv_aload_n hx hb dL_law_557 rfl (lv_at hl 0 rfl) ?_
  refine lv_iload_n hx hb dL_law_558 rfl (lv_at hl 3 rfl) ?_
  refine lv_iconst (v := 1) hx hb dL_law_559 (by decide) ?_
  refine lv_iadd hx hb dL_law_560 ?_
  obtain ⟨h4, hw⟩ := hw
  refine va_sld hx hb hX hbl hbA hS h4 dL_law_561 ?_
  have hPc := va_P.mid (X := sysW I O a u3) (wc := mdlW I d y) (Y := []) hP
  have hDc := va_D.mid (X := sysW I O a u3) (wc := mdlW I d y) (Y := []) hD
  refine mc_i (sysW I O a u3) ([]) (mv_V (As := [.int (xs (Int32.toNatClampNeg (i + 1)))]) (rest := [.int r2]) ⟨hx, hb, hml, hown, hts⟩ (kX3_strokesToBit l D I O d H.size y (xs (Int32.toNatClampNeg (i + 1))) _ hw) (cwV 1 hts gL_law_X3_strokesToBit rfl rfl rfl hdVX3_strokesToBit ⟨(Nat.le_of_ble_eq_true rfl), (Nat.le_of_ble_eq_true rfl)⟩) hK hPc hDc 0 3 rfl rfl rfl rfl hl.1 rfl (Nat.le_of_ble_eq_true rfl) dL_law_562 ⟨(Nat.le_of_ble_eq_true rfl), (Nat.le_of_ble_eq_true rfl)⟩) hP hD hS hA (fun r5 u6 H locs hw hP hD hS => ?_)
  have hP : va_P D vwCl (sysW I O a u3 ++ mdlW I d u6) H := hP
  have hD : va_D ((fun q : Nat => s.heap.size ≤ q)) (sysW I O a u3 ++ mdlW I d u6) := hD
  obtain ⟨c7, hw⟩ := hw
  refine lv_icmp_eq (tgt := 748) hx hb dL_law_565 (by decide) (fun _ => ?_) (fun cz => absurd c7 cz)
  exact hk u3 u6 a d H locs ls hP hD hS hl hw
def lq18 (L : Nat) (xs : Nat → Int32) (i : Int32) (x : Sys) (y : Mod) (K : Sys → Mod → Prop) : Prop := (vp_in (i + 1) L ∧ (qX2_layers x (xs (Int32.toNatClampNeg (i + 1))) (fun r2 u3 => (vp_in (i + 1) L ∧ (qX3_layers y (xs (Int32.toNatClampNeg (i + 1))) (fun r5 u6 => (r2 = r5 ∧ K u3 u6)))))))
set_option maxHeartbeats 4000000 in
set_option maxRecDepth 100000 in
theorem lc18 {p : Program} {l : Launch} {e : Env} {s : State} {m : MethodId} {below : List Frame} {meth : Method} {c : Code} {D : va_G} {I O : ClassId} {b L : Nat} {xs : Nat → Int32} (C0 : lw_At p s m meth c b L xs) (hK : sK D I O s) (i : Int32) (K : Sys → Mod → Prop) (hk : ∀ (x : Sys) (y : Mod) (a2 : SA) (d2 : MA) (H : Heap) (locs : List Loc) (ls : Array Slot), va_P D vwCl (sysW I O a2 x ++ mdlW I d2 y) H → va_D (fun q : Nat => s.heap.size ≤ q) (sysW I O a2 x ++ mdlW I d2 y) → va_S (fun q : Nat => s.heap.size ≤ q) s.heap H locs → lv_has ls 4 [(0, .ref b), (1, .ref a2.1), (2, .ref d2.1), (3, .int i)] → K x y → W p l e room_1 s m #[Value.ref b] below meth c H locs 50 39149 (lw_Z below #[Value.ref b] s) (F0 m 748 ls [])) (x : Sys) (y : Mod) (a : SA) (d : MA) (H : Heap) (locs : List Loc) (ls : Array Slot) (hP : va_P D vwCl (sysW I O a x ++ mdlW I d y) H) (hD : va_D (fun q : Nat => s.heap.size ≤ q) (sysW I O a x ++ mdlW I d y)) (hS : va_S (fun q : Nat => s.heap.size ≤ q) s.heap H locs) (hl : lv_has ls 4 [(0, .ref b), (1, .ref a.1), (2, .ref d.1), (3, .int i)]) (hw : lq18 L xs i x y K) : W p l e room_1 s m #[Value.ref b] below meth c H locs 50 39149 (lw_Z below #[Value.ref b] s) (F0 m 570 ls []) := by
  obtain ⟨hx, hb, hr, hml, hown, hts0, hX, hbl, hlocks, hgv⟩ := C0
  have hts := fun w h => hts0 w (wsL_law_in w h)
  have hown : s.vm.findClass RL = some m.cls := hown
  have hA : ∀ q : Nat, s.heap.size ≤ q → (fun q : Nat => s.heap.size ≤ q) q := fun _ h => h
  have hbA : ¬ (fun q : Nat => s.heap.size ≤ q) b := Nat.not_le.mpr hbl
  unfold lq18 at hw
  refine lv_aload_n hx hb dL_law_570 rfl (lv_at hl 1 rfl) ?_
  refine lv_aload_n hx hb dL_law_571 rfl (lv_at hl 0 rfl) ?_
  refine lv_iload_n hx hb dL_law_572 rfl (lv_at hl 3 rfl) ?_
  refine lv_iconst (v := 1) hx hb dL_law_573 (by decide) ?_
  refine lv_iadd hx hb dL_law_574 ?_
  obtain ⟨h1, hw⟩ := hw
  refine va_sld hx hb hX hbl hbA hS h1 dL_law_575 ?_
  have hPc := va_P.mid (X := []) (wc := sysW I O a x) (Y := mdlW I d y) hP
  have hDc := va_D.mid (X := []) (wc := sysW I O a x) (Y := mdlW I d y) hD
  refine mc_i ([]) (mdlW I d y) (mv_V (As := [.int (xs (Int32.toNatClampNeg (i + 1)))]) (rest := []) ⟨hx, hb, hml, hown, hts⟩ (kX2_layers l D I O a H.size x (xs (Int32.toNatClampNeg (i + 1))) _ hw) (cwV 1 hts gL_law_X2_layers rfl rfl rfl hdVX2_layers ⟨(Nat.le_of_ble_eq_true rfl), (Nat.le_of_ble_eq_true rfl)⟩) hK hPc hDc 0 2 rfl rfl rfl rfl hl.1 rfl (Nat.le_of_ble_eq_true rfl) dL_law_576 ⟨(Nat.le_of_ble_eq_true rfl), (Nat.le_of_ble_eq_true rfl)⟩) hP hD hS hA (fun r2 u3 H locs hw hP hD hS => ?_)
  have hP : va_P D vwCl (sysW I O a u3 ++ mdlW I d y) H := hP
  have hD : va_D ((fun q : Nat => s.heap.size ≤ q)) (sysW I O a u3 ++ mdlW I d y) := hD
  refine lv_aload_n hx hb dL_law_579 rfl (lv_at hl 2 rfl) ?_
  refine lv_aload_n hx hb dL_law_580 rfl (lv_at hl 0 rfl) ?_
  refine lv_iload_n hx hb dL_law_581 rfl (lv_at hl 3 rfl) ?_
  refine lv_iconst (v := 1) hx hb dL_law_582 (by decide) ?_
  refine lv_iadd hx hb dL_law_583 ?_
  obtain ⟨h4, hw⟩ := hw
  refine va_sld hx hb hX hbl hbA hS h4 dL_law_584 ?_
  have hPc := va_P.mid (X := sysW I O a u3) (wc := mdlW I d y) (Y := []) hP
  have hDc := va_D.mid (X := sysW I O a u3) (wc := mdlW I d y) (Y := []) hD
  refine mc_i (sysW I O a u3) ([]) (mv_V (As := [.int (xs (Int32.toNatClampNeg (i + 1)))]) (rest := [.int r2]) ⟨hx, hb, hml, hown, hts⟩ (kX3_layers l D I O d H.size y (xs (Int32.toNatClampNeg (i + 1))) _ hw) (cwV 1 hts gL_law_X3_layers rfl rfl rfl hdVX3_layers ⟨(Nat.le_of_ble_eq_true rfl), (Nat.le_of_ble_eq_true rfl)⟩) hK hPc hDc 0 3 rfl rfl rfl rfl hl.1 rfl (Nat.le_of_ble_eq_true rfl) dL_law_585 ⟨(Nat.le_of_ble_eq_true rfl), (Nat.le_of_ble_eq_true rfl)⟩) hP hD hS hA (fun r5 u6 H locs hw hP hD hS => ?_)
  have hP : va_P D vwCl (sysW I O a u3 ++ mdlW I d u6) H := hP
  have hD : va_D ((fun q : Nat => s.heap.size ≤ q)) (sysW I O a u3 ++ mdlW I d u6) := hD
  obtain ⟨c7, hw⟩ := hw
  refine lv_icmp_eq (tgt := 748) hx hb dL_law_588 (by decide) (fun _ => ?_) (fun cz => absurd c7 cz)
  exact hk u3 u6 a d H locs ls hP hD hS hl hw
def lq19 (L : Nat) (xs : Nat → Int32) (i : Int32) (x : Sys) (y : Mod) (K : Sys → Mod → Prop) : Prop := (vp_in (i + 1) L ∧ (vp_in (i + 2) L ∧ (qX2_layerVolume x (xs (Int32.toNatClampNeg (i + 1))) (xs (Int32.toNatClampNeg (i + 2))) (fun r3 u4 => (vp_in (i + 1) L ∧ (vp_in (i + 2) L ∧ (qX3_layerVolume y (xs (Int32.toNatClampNeg (i + 1))) (xs (Int32.toNatClampNeg (i + 2))) (fun r7 u8 => (r3 = r7 ∧ K u4 u8)))))))))
set_option maxHeartbeats 4000000 in
set_option maxRecDepth 100000 in
theorem lc19 {p : Program} {l : Launch} {e : Env} {s : State} {m : MethodId} {below : List Frame} {meth : Method} {c : Code} {D : va_G} {I O : ClassId} {b L : Nat} {xs : Nat → Int32} (C0 : lw_At p s m meth c b L xs) (hK : sK D I O s) (i : Int32) (K : Sys → Mod → Prop) (hk : ∀ (x : Sys) (y : Mod) (a2 : SA) (d2 : MA) (H : Heap) (locs : List Loc) (ls : Array Slot), va_P D vwCl (sysW I O a2 x ++ mdlW I d2 y) H → va_D (fun q : Nat => s.heap.size ≤ q) (sysW I O a2 x ++ mdlW I d2 y) → va_S (fun q : Nat => s.heap.size ≤ q) s.heap H locs → lv_has ls 4 [(0, .ref b), (1, .ref a2.1), (2, .ref d2.1), (3, .int i)] → K x y → W p l e room_1 s m #[Value.ref b] below meth c H locs 50 39149 (lw_Z below #[Value.ref b] s) (F0 m 748 ls [])) (x : Sys) (y : Mod) (a : SA) (d : MA) (H : Heap) (locs : List Loc) (ls : Array Slot) (hP : va_P D vwCl (sysW I O a x ++ mdlW I d y) H) (hD : va_D (fun q : Nat => s.heap.size ≤ q) (sysW I O a x ++ mdlW I d y)) (hS : va_S (fun q : Nat => s.heap.size ≤ q) s.heap H locs) (hl : lv_has ls 4 [(0, .ref b), (1, .ref a.1), (2, .ref d.1), (3, .int i)]) (hw : lq19 L xs i x y K) : W p l e room_1 s m #[Value.ref b] below meth c H locs 50 39149 (lw_Z below #[Value.ref b] s) (F0 m 593 ls []) := by
  obtain ⟨hx, hb, hr, hml, hown, hts0, hX, hbl, hlocks, hgv⟩ := C0
  have hts := fun w h => hts0 w (wsL_law_in w h)
  have hown : s.vm.findClass RL = some m.cls := hown
  have hA : ∀ q : Nat, s.heap.size ≤ q → (fun q : Nat => s.heap.size ≤ q) q := fun _ h => h
  have hbA : ¬ (fun q : Nat => s.heap.size ≤ q) b := Nat.not_le.mpr hbl
  unfold lq19 at hw
  refine lv_aload_n hx hb dL_law_593 rfl (lv_at hl 1 rfl) ?_
  refine lv_aload_n hx hb dL_law_594 rfl (lv_at hl 0 rfl) ?_
  refine lv_iload_n hx hb dL_law_595 rfl (lv_at hl 3 rfl) ?_
  refine lv_iconst (v := 1) hx hb dL_law_596 (by decide) ?_
  refine lv_iadd hx hb dL_law_597 ?_
  obtain ⟨h1, hw⟩ := hw
  refine va_sld hx hb hX hbl hbA hS h1 dL_law_598 ?_
  refine lv_aload_n hx hb dL_law_599 rfl (lv_at hl 0 rfl) ?_
  refine lv_iload_n hx hb dL_law_600 rfl (lv_at hl 3 rfl) ?_
  refine lv_iconst (v := 2) hx hb dL_law_601 (by decide) ?_
  refine lv_iadd hx hb dL_law_602 ?_
  obtain ⟨h2, hw⟩ := hw
  refine va_sld hx hb hX hbl hbA hS h2 dL_law_603 ?_
  have hPc := va_P.mid (X := []) (wc := sysW I O a x) (Y := mdlW I d y) hP
  have hDc := va_D.mid (X := []) (wc := sysW I O a x) (Y := mdlW I d y) hD
  refine mc_i ([]) (mdlW I d y) (mv_V (As := [.int (xs (Int32.toNatClampNeg (i + 1))), .int (xs (Int32.toNatClampNeg (i + 2)))]) (rest := []) ⟨hx, hb, hml, hown, hts⟩ (kX2_layerVolume l D I O a H.size x (xs (Int32.toNatClampNeg (i + 1))) (xs (Int32.toNatClampNeg (i + 2))) _ hw) (cwV 2 hts gL_law_X2_layerVolume rfl rfl rfl hdVX2_layerVolume ⟨(Nat.le_of_ble_eq_true rfl), (Nat.le_of_ble_eq_true rfl)⟩) hK hPc hDc 0 2 rfl rfl rfl rfl hl.1 rfl (Nat.le_of_ble_eq_true rfl) dL_law_604 ⟨(Nat.le_of_ble_eq_true rfl), (Nat.le_of_ble_eq_true rfl)⟩) hP hD hS hA (fun r3 u4 H locs hw hP hD hS => ?_)
  have hP : va_P D vwCl (sysW I O a u4 ++ mdlW I d y) H := hP
  have hD : va_D ((fun q : Nat => s.heap.size ≤ q)) (sysW I O a u4 ++ mdlW I d y) := hD
  refine lv_aload_n hx hb dL_law_607 rfl (lv_at hl 2 rfl) ?_
  refine lv_aload_n hx hb dL_law_608 rfl (lv_at hl 0 rfl) ?_
  refine lv_iload_n hx hb dL_law_609 rfl (lv_at hl 3 rfl) ?_
  refine lv_iconst (v := 1) hx hb dL_law_610 (by decide) ?_
  refine lv_iadd hx hb dL_law_611 ?_
  obtain ⟨h5, hw⟩ := hw
  refine va_sld hx hb hX hbl hbA hS h5 dL_law_612 ?_
  refine lv_aload_n hx hb dL_law_613 rfl (lv_at hl 0 rfl) ?_
  refine lv_iload_n hx hb dL_law_614 rfl (lv_at hl 3 rfl) ?_
  refine lv_iconst (v := 2) hx hb dL_law_615 (by decide) ?_
  refine lv_iadd hx hb dL_law_616 ?_
  obtain ⟨h6, hw⟩ := hw
  refine va_sld hx hb hX hbl hbA hS h6 dL_law_617 ?_
  have hPc := va_P.mid (X := sysW I O a u4) (wc := mdlW I d y) (Y := []) hP
  have hDc := va_D.mid (X := sysW I O a u4) (wc := mdlW I d y) (Y := []) hD
  refine mc_i (sysW I O a u4) ([]) (mv_V (As := [.int (xs (Int32.toNatClampNeg (i + 1))), .int (xs (Int32.toNatClampNeg (i + 2)))]) (rest := [.int r3]) ⟨hx, hb, hml, hown, hts⟩ (kX3_layerVolume l D I O d H.size y (xs (Int32.toNatClampNeg (i + 1))) (xs (Int32.toNatClampNeg (i + 2))) _ hw) (cwV 2 hts gL_law_X3_layerVolume rfl rfl rfl hdVX3_layerVolume ⟨(Nat.le_of_ble_eq_true rfl), (Nat.le_of_ble_eq_true rfl)⟩) hK hPc hDc 0 3 rfl rfl rfl rfl hl.1 rfl (Nat.le_of_ble_eq_true rfl) dL_law_618 ⟨(Nat.le_of_ble_eq_true rfl), (Nat.le_of_ble_eq_true rfl)⟩) hP hD hS hA (fun r7 u8 H locs hw hP hD hS => ?_)
  have hP : va_P D vwCl (sysW I O a u4 ++ mdlW I d u8) H := hP
  have hD : va_D ((fun q : Nat => s.heap.size ≤ q)) (sysW I O a u4 ++ mdlW I d u8) := hD
  obtain ⟨c9, hw⟩ := hw
  refine lv_icmp_eq (tgt := 748) hx hb dL_law_621 (by decide) (fun _ => ?_) (fun cz => absurd c9 cz)
  exact hk u4 u8 a d H locs ls hP hD hS hl hw
def lq20 (L : Nat) (xs : Nat → Int32) (i : Int32) (x : Sys) (y : Mod) (K : Sys → Mod → Prop) : Prop := (vp_in (i + 1) L ∧ (vp_in (i + 2) L ∧ (qX2_layerDensity x (xs (Int32.toNatClampNeg (i + 1))) (xs (Int32.toNatClampNeg (i + 2))) (fun r3 u4 => (vp_in (i + 1) L ∧ (vp_in (i + 2) L ∧ (qX3_layerDensity y (xs (Int32.toNatClampNeg (i + 1))) (xs (Int32.toNatClampNeg (i + 2))) (fun r7 u8 => (r3 = r7 ∧ K u4 u8)))))))))
set_option maxHeartbeats 4000000 in
set_option maxRecDepth 100000 in
theorem lc20 {p : Program} {l : Launch} {e : Env} {s : State} {m : MethodId} {below : List Frame} {meth : Method} {c : Code} {D : va_G} {I O : ClassId} {b L : Nat} {xs : Nat → Int32} (C0 : lw_At p s m meth c b L xs) (hK : sK D I O s) (i : Int32) (K : Sys → Mod → Prop) (hk : ∀ (x : Sys) (y : Mod) (a2 : SA) (d2 : MA) (H : Heap) (locs : List Loc) (ls : Array Slot), va_P D vwCl (sysW I O a2 x ++ mdlW I d2 y) H → va_D (fun q : Nat => s.heap.size ≤ q) (sysW I O a2 x ++ mdlW I d2 y) → va_S (fun q : Nat => s.heap.size ≤ q) s.heap H locs → lv_has ls 4 [(0, .ref b), (1, .ref a2.1), (2, .ref d2.1), (3, .int i)] → K x y → W p l e room_1 s m #[Value.ref b] below meth c H locs 50 39149 (lw_Z below #[Value.ref b] s) (F0 m 748 ls [])) (x : Sys) (y : Mod) (a : SA) (d : MA) (H : Heap) (locs : List Loc) (ls : Array Slot) (hP : va_P D vwCl (sysW I O a x ++ mdlW I d y) H) (hD : va_D (fun q : Nat => s.heap.size ≤ q) (sysW I O a x ++ mdlW I d y)) (hS : va_S (fun q : Nat => s.heap.size ≤ q) s.heap H locs) (hl : lv_has ls 4 [(0, .ref b), (1, .ref a.1), (2, .ref d.1), (3, .int i)]) (hw : lq20 L xs i x y K) : W p l e room_1 s m #[Value.ref b] below meth c H locs 50 39149 (lw_Z below #[Value.ref b] s) (F0 m 626 ls []) := by
  obtain ⟨hx, hb, hr, hml, hown, hts0, hX, hbl, hlocks, hgv⟩ := C0
  have hts := fun w h => hts0 w (wsL_law_in w h)
  have hown : s.vm.findClass RL = some m.cls := hown
  have hA : ∀ q : Nat, s.heap.size ≤ q → (fun q : Nat => s.heap.size ≤ q) q := fun _ h => h
  have hbA : ¬ (fun q : Nat => s.heap.size ≤ q) b := Nat.not_le.mpr hbl
  unfold lq20 at hw
  refine lv_aload_n hx hb dL_law_626 rfl (lv_at hl 1 rfl) ?_
  refine lv_aload_n hx hb dL_law_627 rfl (lv_at hl 0 rfl) ?_
  refine lv_iload_n hx hb dL_law_628 rfl (lv_at hl 3 rfl) ?_
  refine lv_iconst (v := 1) hx hb dL_law_629 (by decide) ?_
  refine lv_iadd hx hb dL_law_630 ?_
  obtain ⟨h1, hw⟩ := hw
  refine va_sld hx hb hX hbl hbA hS h1 dL_law_631 ?_
  refine lv_aload_n hx hb dL_law_632 rfl (lv_at hl 0 rfl) ?_
  refine lv_iload_n hx hb dL_law_633 rfl (lv_at hl 3 rfl) ?_
  refine lv_iconst (v := 2) hx hb dL_law_634 (by decide) ?_
  refine lv_iadd hx hb dL_law_635 ?_
  obtain ⟨h2, hw⟩ := hw
  refine va_sld hx hb hX hbl hbA hS h2 dL_law_636 ?_
  have hPc := va_P.mid (X := []) (wc := sysW I O a x) (Y := mdlW I d y) hP
  have hDc := va_D.mid (X := []) (wc := sysW I O a x) (Y := mdlW I d y) hD
  refine mc_i ([]) (mdlW I d y) (mv_V (As := [.int (xs (Int32.toNatClampNeg (i + 1))), .int (xs (Int32.toNatClampNeg (i + 2)))]) (rest := []) ⟨hx, hb, hml, hown, hts⟩ (kX2_layerDensity l D I O a H.size x (xs (Int32.toNatClampNeg (i + 1))) (xs (Int32.toNatClampNeg (i + 2))) _ hw) (cwV 2 hts gL_law_X2_layerDensity rfl rfl rfl hdVX2_layerDensity ⟨(Nat.le_of_ble_eq_true rfl), (Nat.le_of_ble_eq_true rfl)⟩) hK hPc hDc 0 2 rfl rfl rfl rfl hl.1 rfl (Nat.le_of_ble_eq_true rfl) dL_law_637 ⟨(Nat.le_of_ble_eq_true rfl), (Nat.le_of_ble_eq_true rfl)⟩) hP hD hS hA (fun r3 u4 H locs hw hP hD hS => ?_)
  have hP : va_P D vwCl (sysW I O a u4 ++ mdlW I d y) H := hP
  have hD : va_D ((fun q : Nat => s.heap.size ≤ q)) (sysW I O a u4 ++ mdlW I d y) := hD
  refine lv_aload_n hx hb dL_law_640 rfl (lv_at hl 2 rfl) ?_
  refine lv_aload_n hx hb dL_law_641 rfl (lv_at hl 0 rfl) ?_
  refine lv_iload_n hx hb dL_law_642 rfl (lv_at hl 3 rfl) ?_
  refine lv_iconst (v := 1) hx hb dL_law_643 (by decide) ?_
  refine lv_iadd hx hb dL_law_644 ?_
  obtain ⟨h5, hw⟩ := hw
  refine va_sld hx hb hX hbl hbA hS h5 dL_law_645 ?_
  refine lv_aload_n hx hb dL_law_646 rfl (lv_at hl 0 rfl) ?_
  refine lv_iload_n hx hb dL_law_647 rfl (lv_at hl 3 rfl) ?_
  refine lv_iconst (v := 2) hx hb dL_law_648 (by decide) ?_
  refine lv_iadd hx hb dL_law_649 ?_
  obtain ⟨h6, hw⟩ := hw
  refine va_sld hx hb hX hbl hbA hS h6 dL_law_650 ?_
  have hPc := va_P.mid (X := sysW I O a u4) (wc := mdlW I d y) (Y := []) hP
  have hDc := va_D.mid (X := sysW I O a u4) (wc := mdlW I d y) (Y := []) hD
  refine mc_i (sysW I O a u4) ([]) (mv_V (As := [.int (xs (Int32.toNatClampNeg (i + 1))), .int (xs (Int32.toNatClampNeg (i + 2)))]) (rest := [.int r3]) ⟨hx, hb, hml, hown, hts⟩ (kX3_layerDensity l D I O d H.size y (xs (Int32.toNatClampNeg (i + 1))) (xs (Int32.toNatClampNeg (i + 2))) _ hw) (cwV 2 hts gL_law_X3_layerDensity rfl rfl rfl hdVX3_layerDensity ⟨(Nat.le_of_ble_eq_true rfl), (Nat.le_of_ble_eq_true rfl)⟩) hK hPc hDc 0 3 rfl rfl rfl rfl hl.1 rfl (Nat.le_of_ble_eq_true rfl) dL_law_651 ⟨(Nat.le_of_ble_eq_true rfl), (Nat.le_of_ble_eq_true rfl)⟩) hP hD hS hA (fun r7 u8 H locs hw hP hD hS => ?_)
  have hP : va_P D vwCl (sysW I O a u4 ++ mdlW I d u8) H := hP
  have hD : va_D ((fun q : Nat => s.heap.size ≤ q)) (sysW I O a u4 ++ mdlW I d u8) := hD
  obtain ⟨c9, hw⟩ := hw
  refine lv_icmp_eq (tgt := 748) hx hb dL_law_654 (by decide) (fun _ => ?_) (fun cz => absurd c9 cz)
  exact hk u4 u8 a d H locs ls hP hD hS hl hw
def lq21 (L : Nat) (xs : Nat → Int32) (i : Int32) (x : Sys) (y : Mod) (K : Sys → Mod → Prop) : Prop := (qX2_gain x (fun r1 => (qX3_gain y (fun r2 => (r1 = r2 ∧ K x y)))))
set_option maxHeartbeats 4000000 in
set_option maxRecDepth 100000 in
theorem lc21 {p : Program} {l : Launch} {e : Env} {s : State} {m : MethodId} {below : List Frame} {meth : Method} {c : Code} {D : va_G} {I O : ClassId} {b L : Nat} {xs : Nat → Int32} (C0 : lw_At p s m meth c b L xs) (hK : sK D I O s) (i : Int32) (K : Sys → Mod → Prop) (hk : ∀ (x : Sys) (y : Mod) (a2 : SA) (d2 : MA) (H : Heap) (locs : List Loc) (ls : Array Slot), va_P D vwCl (sysW I O a2 x ++ mdlW I d2 y) H → va_D (fun q : Nat => s.heap.size ≤ q) (sysW I O a2 x ++ mdlW I d2 y) → va_S (fun q : Nat => s.heap.size ≤ q) s.heap H locs → lv_has ls 4 [(0, .ref b), (1, .ref a2.1), (2, .ref d2.1), (3, .int i)] → K x y → W p l e room_1 s m #[Value.ref b] below meth c H locs 50 39149 (lw_Z below #[Value.ref b] s) (F0 m 748 ls [])) (x : Sys) (y : Mod) (a : SA) (d : MA) (H : Heap) (locs : List Loc) (ls : Array Slot) (hP : va_P D vwCl (sysW I O a x ++ mdlW I d y) H) (hD : va_D (fun q : Nat => s.heap.size ≤ q) (sysW I O a x ++ mdlW I d y)) (hS : va_S (fun q : Nat => s.heap.size ≤ q) s.heap H locs) (hl : lv_has ls 4 [(0, .ref b), (1, .ref a.1), (2, .ref d.1), (3, .int i)]) (hw : lq21 L xs i x y K) : W p l e room_1 s m #[Value.ref b] below meth c H locs 50 39149 (lw_Z below #[Value.ref b] s) (F0 m 659 ls []) := by
  obtain ⟨hx, hb, hr, hml, hown, hts0, hX, hbl, hlocks, hgv⟩ := C0
  have hts := fun w h => hts0 w (wsL_law_in w h)
  have hown : s.vm.findClass RL = some m.cls := hown
  have hA : ∀ q : Nat, s.heap.size ≤ q → (fun q : Nat => s.heap.size ≤ q) q := fun _ h => h
  have hbA : ¬ (fun q : Nat => s.heap.size ≤ q) b := Nat.not_le.mpr hbl
  unfold lq21 at hw
  refine lv_aload_n hx hb dL_law_659 rfl (lv_at hl 1 rfl) ?_
  have hPc := va_P.mid (X := []) (wc := sysW I O a x) (Y := mdlW I d y) hP
  have hDc := va_D.mid (X := []) (wc := sysW I O a x) (Y := mdlW I d y) hD
  refine mc_i ([]) (mdlW I d y) (mv_V (As := []) (rest := []) ⟨hx, hb, hml, hown, hts⟩ (kX2_gain l D I O a H.size x _ hw) (cwV 0 hts gL_law_X2_gain rfl rfl rfl hdVX2_gain ⟨(Nat.le_of_ble_eq_true rfl), (Nat.le_of_ble_eq_true rfl)⟩) hK hPc hDc 0 2 rfl rfl rfl rfl hl.1 rfl (Nat.le_of_ble_eq_true rfl) dL_law_660 ⟨(Nat.le_of_ble_eq_true rfl), (Nat.le_of_ble_eq_true rfl)⟩) hP hD hS hA (fun r1 _ H locs hw hP hD hS => ?_)
  have hP : va_P D vwCl (sysW I O a x ++ mdlW I d y) H := hP
  have hD : va_D ((fun q : Nat => s.heap.size ≤ q)) (sysW I O a x ++ mdlW I d y) := hD
  refine lv_aload_n hx hb dL_law_663 rfl (lv_at hl 2 rfl) ?_
  have hPc := va_P.mid (X := sysW I O a x) (wc := mdlW I d y) (Y := []) hP
  have hDc := va_D.mid (X := sysW I O a x) (wc := mdlW I d y) (Y := []) hD
  refine mc_i (sysW I O a x) ([]) (mv_V (As := []) (rest := [.int r1]) ⟨hx, hb, hml, hown, hts⟩ (kX3_gain l D I O d H.size y _ hw) (cwV 0 hts gL_law_X3_gain rfl rfl rfl hdVX3_gain ⟨(Nat.le_of_ble_eq_true rfl), (Nat.le_of_ble_eq_true rfl)⟩) hK hPc hDc 0 3 rfl rfl rfl rfl hl.1 rfl (Nat.le_of_ble_eq_true rfl) dL_law_664 ⟨(Nat.le_of_ble_eq_true rfl), (Nat.le_of_ble_eq_true rfl)⟩) hP hD hS hA (fun r2 _ H locs hw hP hD hS => ?_)
  have hP : va_P D vwCl (sysW I O a x ++ mdlW I d y) H := hP
  have hD : va_D ((fun q : Nat => s.heap.size ≤ q)) (sysW I O a x ++ mdlW I d y) := hD
  obtain ⟨c3, hw⟩ := hw
  refine lv_icmp_eq (tgt := 748) hx hb dL_law_667 (by decide) (fun _ => ?_) (fun cz => absurd c3 cz)
  exact hk x y a d H locs ls hP hD hS hl hw
def lq22 (L : Nat) (xs : Nat → Int32) (i : Int32) (x : Sys) (y : Mod) (K : Sys → Mod → Prop) : Prop := (qX2_breaks x (fun r1 => (qX3_breaks y (fun r2 => (r1 = r2 ∧ K x y)))))
set_option maxHeartbeats 4000000 in
set_option maxRecDepth 100000 in
theorem lc22 {p : Program} {l : Launch} {e : Env} {s : State} {m : MethodId} {below : List Frame} {meth : Method} {c : Code} {D : va_G} {I O : ClassId} {b L : Nat} {xs : Nat → Int32} (C0 : lw_At p s m meth c b L xs) (hK : sK D I O s) (i : Int32) (K : Sys → Mod → Prop) (hk : ∀ (x : Sys) (y : Mod) (a2 : SA) (d2 : MA) (H : Heap) (locs : List Loc) (ls : Array Slot), va_P D vwCl (sysW I O a2 x ++ mdlW I d2 y) H → va_D (fun q : Nat => s.heap.size ≤ q) (sysW I O a2 x ++ mdlW I d2 y) → va_S (fun q : Nat => s.heap.size ≤ q) s.heap H locs → lv_has ls 4 [(0, .ref b), (1, .ref a2.1), (2, .ref d2.1), (3, .int i)] → K x y → W p l e room_1 s m #[Value.ref b] below meth c H locs 50 39149 (lw_Z below #[Value.ref b] s) (F0 m 748 ls [])) (x : Sys) (y : Mod) (a : SA) (d : MA) (H : Heap) (locs : List Loc) (ls : Array Slot) (hP : va_P D vwCl (sysW I O a x ++ mdlW I d y) H) (hD : va_D (fun q : Nat => s.heap.size ≤ q) (sysW I O a x ++ mdlW I d y)) (hS : va_S (fun q : Nat => s.heap.size ≤ q) s.heap H locs) (hl : lv_has ls 4 [(0, .ref b), (1, .ref a.1), (2, .ref d.1), (3, .int i)]) (hw : lq22 L xs i x y K) : W p l e room_1 s m #[Value.ref b] below meth c H locs 50 39149 (lw_Z below #[Value.ref b] s) (F0 m 672 ls []) := by
  obtain ⟨hx, hb, hr, hml, hown, hts0, hX, hbl, hlocks, hgv⟩ := C0
  have hts := fun w h => hts0 w (wsL_law_in w h)
  have hown : s.vm.findClass RL = some m.cls := hown
  have hA : ∀ q : Nat, s.heap.size ≤ q → (fun q : Nat => s.heap.size ≤ q) q := fun _ h => h
  have hbA : ¬ (fun q : Nat => s.heap.size ≤ q) b := Nat.not_le.mpr hbl
  unfold lq22 at hw
  refine lv_aload_n hx hb dL_law_672 rfl (lv_at hl 1 rfl) ?_
  have hPc := va_P.mid (X := []) (wc := sysW I O a x) (Y := mdlW I d y) hP
  have hDc := va_D.mid (X := []) (wc := sysW I O a x) (Y := mdlW I d y) hD
  refine mc_i ([]) (mdlW I d y) (mv_V (As := []) (rest := []) ⟨hx, hb, hml, hown, hts⟩ (kX2_breaks l D I O a H.size x _ hw) (cwV 0 hts gL_law_X2_breaks rfl rfl rfl hdVX2_breaks ⟨(Nat.le_of_ble_eq_true rfl), (Nat.le_of_ble_eq_true rfl)⟩) hK hPc hDc 0 2 rfl rfl rfl rfl hl.1 rfl (Nat.le_of_ble_eq_true rfl) dL_law_673 ⟨(Nat.le_of_ble_eq_true rfl), (Nat.le_of_ble_eq_true rfl)⟩) hP hD hS hA (fun r1 _ H locs hw hP hD hS => ?_)
  have hP : va_P D vwCl (sysW I O a x ++ mdlW I d y) H := hP
  have hD : va_D ((fun q : Nat => s.heap.size ≤ q)) (sysW I O a x ++ mdlW I d y) := hD
  refine lv_aload_n hx hb dL_law_676 rfl (lv_at hl 2 rfl) ?_
  have hPc := va_P.mid (X := sysW I O a x) (wc := mdlW I d y) (Y := []) hP
  have hDc := va_D.mid (X := sysW I O a x) (wc := mdlW I d y) (Y := []) hD
  refine mc_i (sysW I O a x) ([]) (mv_V (As := []) (rest := [.int r1]) ⟨hx, hb, hml, hown, hts⟩ (kX3_breaks l D I O d H.size y _ hw) (cwV 0 hts gL_law_X3_breaks rfl rfl rfl hdVX3_breaks ⟨(Nat.le_of_ble_eq_true rfl), (Nat.le_of_ble_eq_true rfl)⟩) hK hPc hDc 0 3 rfl rfl rfl rfl hl.1 rfl (Nat.le_of_ble_eq_true rfl) dL_law_677 ⟨(Nat.le_of_ble_eq_true rfl), (Nat.le_of_ble_eq_true rfl)⟩) hP hD hS hA (fun r2 _ H locs hw hP hD hS => ?_)
  have hP : va_P D vwCl (sysW I O a x ++ mdlW I d y) H := hP
  have hD : va_D ((fun q : Nat => s.heap.size ≤ q)) (sysW I O a x ++ mdlW I d y) := hD
  obtain ⟨c3, hw⟩ := hw
  refine lv_icmp_eq (tgt := 748) hx hb dL_law_680 (by decide) (fun _ => ?_) (fun cz => absurd c3 cz)
  exact hk x y a d H locs ls hP hD hS hl hw
def lq23 (L : Nat) (xs : Nat → Int32) (i : Int32) (x : Sys) (y : Mod) (K : Sys → Mod → Prop) : Prop := (qX2_greatestShoePressure x (fun r1 => (qX3_greatestShoePressure y (fun r2 => (r1 = r2 ∧ K x y)))))
set_option maxHeartbeats 4000000 in
set_option maxRecDepth 100000 in
theorem lc23 {p : Program} {l : Launch} {e : Env} {s : State} {m : MethodId} {below : List Frame} {meth : Method} {c : Code} {D : va_G} {I O : ClassId} {b L : Nat} {xs : Nat → Int32} (C0 : lw_At p s m meth c b L xs) (hK : sK D I O s) (i : Int32) (K : Sys → Mod → Prop) (hk : ∀ (x : Sys) (y : Mod) (a2 : SA) (d2 : MA) (H : Heap) (locs : List Loc) (ls : Array Slot), va_P D vwCl (sysW I O a2 x ++ mdlW I d2 y) H → va_D (fun q : Nat => s.heap.size ≤ q) (sysW I O a2 x ++ mdlW I d2 y) → va_S (fun q : Nat => s.heap.size ≤ q) s.heap H locs → lv_has ls 4 [(0, .ref b), (1, .ref a2.1), (2, .ref d2.1), (3, .int i)] → K x y → W p l e room_1 s m #[Value.ref b] below meth c H locs 50 39149 (lw_Z below #[Value.ref b] s) (F0 m 748 ls [])) (x : Sys) (y : Mod) (a : SA) (d : MA) (H : Heap) (locs : List Loc) (ls : Array Slot) (hP : va_P D vwCl (sysW I O a x ++ mdlW I d y) H) (hD : va_D (fun q : Nat => s.heap.size ≤ q) (sysW I O a x ++ mdlW I d y)) (hS : va_S (fun q : Nat => s.heap.size ≤ q) s.heap H locs) (hl : lv_has ls 4 [(0, .ref b), (1, .ref a.1), (2, .ref d.1), (3, .int i)]) (hw : lq23 L xs i x y K) : W p l e room_1 s m #[Value.ref b] below meth c H locs 50 39149 (lw_Z below #[Value.ref b] s) (F0 m 685 ls []) := by
  obtain ⟨hx, hb, hr, hml, hown, hts0, hX, hbl, hlocks, hgv⟩ := C0
  have hts := fun w h => hts0 w (wsL_law_in w h)
  have hown : s.vm.findClass RL = some m.cls := hown
  have hA : ∀ q : Nat, s.heap.size ≤ q → (fun q : Nat => s.heap.size ≤ q) q := fun _ h => h
  have hbA : ¬ (fun q : Nat => s.heap.size ≤ q) b := Nat.not_le.mpr hbl
  unfold lq23 at hw
  refine lv_aload_n hx hb dL_law_685 rfl (lv_at hl 1 rfl) ?_
  have hPc := va_P.mid (X := []) (wc := sysW I O a x) (Y := mdlW I d y) hP
  have hDc := va_D.mid (X := []) (wc := sysW I O a x) (Y := mdlW I d y) hD
  refine mc_i ([]) (mdlW I d y) (mv_V (As := []) (rest := []) ⟨hx, hb, hml, hown, hts⟩ (kX2_greatestShoePressure l D I O a H.size x _ hw) (cwV 0 hts gL_law_X2_greatestShoePressure rfl rfl rfl hdVX2_greatestShoePressure ⟨(Nat.le_of_ble_eq_true rfl), (Nat.le_of_ble_eq_true rfl)⟩) hK hPc hDc 0 2 rfl rfl rfl rfl hl.1 rfl (Nat.le_of_ble_eq_true rfl) dL_law_686 ⟨(Nat.le_of_ble_eq_true rfl), (Nat.le_of_ble_eq_true rfl)⟩) hP hD hS hA (fun r1 _ H locs hw hP hD hS => ?_)
  have hP : va_P D vwCl (sysW I O a x ++ mdlW I d y) H := hP
  have hD : va_D ((fun q : Nat => s.heap.size ≤ q)) (sysW I O a x ++ mdlW I d y) := hD
  refine lv_aload_n hx hb dL_law_689 rfl (lv_at hl 2 rfl) ?_
  have hPc := va_P.mid (X := sysW I O a x) (wc := mdlW I d y) (Y := []) hP
  have hDc := va_D.mid (X := sysW I O a x) (wc := mdlW I d y) (Y := []) hD
  refine mc_i (sysW I O a x) ([]) (mv_V (As := []) (rest := [.int r1]) ⟨hx, hb, hml, hown, hts⟩ (kX3_greatestShoePressure l D I O d H.size y _ hw) (cwV 0 hts gL_law_X3_greatestShoePressure rfl rfl rfl hdVX3_greatestShoePressure ⟨(Nat.le_of_ble_eq_true rfl), (Nat.le_of_ble_eq_true rfl)⟩) hK hPc hDc 0 3 rfl rfl rfl rfl hl.1 rfl (Nat.le_of_ble_eq_true rfl) dL_law_690 ⟨(Nat.le_of_ble_eq_true rfl), (Nat.le_of_ble_eq_true rfl)⟩) hP hD hS hA (fun r2 _ H locs hw hP hD hS => ?_)
  have hP : va_P D vwCl (sysW I O a x ++ mdlW I d y) H := hP
  have hD : va_D ((fun q : Nat => s.heap.size ≤ q)) (sysW I O a x ++ mdlW I d y) := hD
  obtain ⟨c3, hw⟩ := hw
  refine lv_icmp_eq (tgt := 748) hx hb dL_law_693 (by decide) (fun _ => ?_) (fun cz => absurd c3 cz)
  exact hk x y a d H locs ls hP hD hS hl hw
def lq24 (L : Nat) (xs : Nat → Int32) (i : Int32) (x : Sys) (y : Mod) (K : Sys → Mod → Prop) : Prop := (qX2_undo x (fun r1 u2 => (qX3_undo y (fun r3 u4 => (r1 = r3 ∧ K u2 u4)))))
set_option maxHeartbeats 4000000 in
set_option maxRecDepth 100000 in
theorem lc24 {p : Program} {l : Launch} {e : Env} {s : State} {m : MethodId} {below : List Frame} {meth : Method} {c : Code} {D : va_G} {I O : ClassId} {b L : Nat} {xs : Nat → Int32} (C0 : lw_At p s m meth c b L xs) (hK : sK D I O s) (i : Int32) (K : Sys → Mod → Prop) (hk : ∀ (x : Sys) (y : Mod) (a2 : SA) (d2 : MA) (H : Heap) (locs : List Loc) (ls : Array Slot), va_P D vwCl (sysW I O a2 x ++ mdlW I d2 y) H → va_D (fun q : Nat => s.heap.size ≤ q) (sysW I O a2 x ++ mdlW I d2 y) → va_S (fun q : Nat => s.heap.size ≤ q) s.heap H locs → lv_has ls 4 [(0, .ref b), (1, .ref a2.1), (2, .ref d2.1), (3, .int i)] → K x y → W p l e room_1 s m #[Value.ref b] below meth c H locs 50 39149 (lw_Z below #[Value.ref b] s) (F0 m 748 ls [])) (x : Sys) (y : Mod) (a : SA) (d : MA) (H : Heap) (locs : List Loc) (ls : Array Slot) (hP : va_P D vwCl (sysW I O a x ++ mdlW I d y) H) (hD : va_D (fun q : Nat => s.heap.size ≤ q) (sysW I O a x ++ mdlW I d y)) (hS : va_S (fun q : Nat => s.heap.size ≤ q) s.heap H locs) (hl : lv_has ls 4 [(0, .ref b), (1, .ref a.1), (2, .ref d.1), (3, .int i)]) (hw : lq24 L xs i x y K) : W p l e room_1 s m #[Value.ref b] below meth c H locs 50 39149 (lw_Z below #[Value.ref b] s) (F0 m 698 ls []) := by
  obtain ⟨hx, hb, hr, hml, hown, hts0, hX, hbl, hlocks, hgv⟩ := C0
  have hts := fun w h => hts0 w (wsL_law_in w h)
  have hown : s.vm.findClass RL = some m.cls := hown
  have hA : ∀ q : Nat, s.heap.size ≤ q → (fun q : Nat => s.heap.size ≤ q) q := fun _ h => h
  have hbA : ¬ (fun q : Nat => s.heap.size ≤ q) b := Nat.not_le.mpr hbl
  unfold lq24 at hw
  refine lv_aload_n hx hb dL_law_698 rfl (lv_at hl 1 rfl) ?_
  have hPc := va_P.mid (X := []) (wc := sysW I O a x) (Y := mdlW I d y) hP
  have hDc := va_D.mid (X := []) (wc := sysW I O a x) (Y := mdlW I d y) hD
  refine mc_i ([]) (mdlW I d y) (mv_V (As := []) (rest := []) ⟨hx, hb, hml, hown, hts⟩ (kX2_undo l D I O a H.size x _ hw) (cwV 0 hts gL_law_X2_undo rfl rfl rfl hdVX2_undo ⟨(Nat.le_of_ble_eq_true rfl), (Nat.le_of_ble_eq_true rfl)⟩) hK hPc hDc 0 2 rfl rfl rfl rfl hl.1 rfl (Nat.le_of_ble_eq_true rfl) dL_law_699 ⟨(Nat.le_of_ble_eq_true rfl), (Nat.le_of_ble_eq_true rfl)⟩) hP hD hS hA (fun r1 u2 H locs hw hP hD hS => ?_)
  obtain ⟨du2, u2⟩ := u2
  have hP : va_P D vwCl (sysW I O (a.1, du2) u2 ++ mdlW I d y) H := hP
  have hD : va_D ((fun q : Nat => s.heap.size ≤ q)) (sysW I O (a.1, du2) u2 ++ mdlW I d y) := hD
  refine lv_aload_n hx hb dL_law_702 rfl (lv_at hl 2 rfl) ?_
  have hPc := va_P.mid (X := sysW I O (a.1, du2) u2) (wc := mdlW I d y) (Y := []) hP
  have hDc := va_D.mid (X := sysW I O (a.1, du2) u2) (wc := mdlW I d y) (Y := []) hD
  refine mc_i (sysW I O (a.1, du2) u2) ([]) (mv_V (As := []) (rest := [.int r1]) ⟨hx, hb, hml, hown, hts⟩ (kX3_undo l D I O d H.size y _ hw) (cwV 0 hts gL_law_X3_undo rfl rfl rfl hdVX3_undo ⟨(Nat.le_of_ble_eq_true rfl), (Nat.le_of_ble_eq_true rfl)⟩) hK hPc hDc 0 3 rfl rfl rfl rfl hl.1 rfl (Nat.le_of_ble_eq_true rfl) dL_law_703 ⟨(Nat.le_of_ble_eq_true rfl), (Nat.le_of_ble_eq_true rfl)⟩) hP hD hS hA (fun r3 u4 H locs hw hP hD hS => ?_)
  have hP : va_P D vwCl (sysW I O (a.1, du2) u2 ++ mdlW I d u4) H := hP
  have hD : va_D ((fun q : Nat => s.heap.size ≤ q)) (sysW I O (a.1, du2) u2 ++ mdlW I d u4) := hD
  obtain ⟨c5, hw⟩ := hw
  refine lv_icmp_eq (tgt := 748) hx hb dL_law_706 (by decide) (fun _ => ?_) (fun cz => absurd c5 cz)
  exact hk u2 u4 (a.1, du2) d H locs ls hP hD hS hl hw
def lq25 (L : Nat) (xs : Nat → Int32) (i : Int32) (x : Sys) (y : Mod) (K : Sys → Mod → Prop) : Prop := (vp_in (i + 1) L ∧ (qX2_errorCount x (xs (Int32.toNatClampNeg (i + 1))) (fun r2 u3 => (vp_in (i + 1) L ∧ (qX3_errorCount y (xs (Int32.toNatClampNeg (i + 1))) (fun r5 u6 => (r2 = r5 ∧ K u3 u6)))))))
set_option maxHeartbeats 4000000 in
set_option maxRecDepth 100000 in
theorem lc25 {p : Program} {l : Launch} {e : Env} {s : State} {m : MethodId} {below : List Frame} {meth : Method} {c : Code} {D : va_G} {I O : ClassId} {b L : Nat} {xs : Nat → Int32} (C0 : lw_At p s m meth c b L xs) (hK : sK D I O s) (i : Int32) (K : Sys → Mod → Prop) (hk : ∀ (x : Sys) (y : Mod) (a2 : SA) (d2 : MA) (H : Heap) (locs : List Loc) (ls : Array Slot), va_P D vwCl (sysW I O a2 x ++ mdlW I d2 y) H → va_D (fun q : Nat => s.heap.size ≤ q) (sysW I O a2 x ++ mdlW I d2 y) → va_S (fun q : Nat => s.heap.size ≤ q) s.heap H locs → lv_has ls 4 [(0, .ref b), (1, .ref a2.1), (2, .ref d2.1), (3, .int i)] → K x y → W p l e room_1 s m #[Value.ref b] below meth c H locs 50 39149 (lw_Z below #[Value.ref b] s) (F0 m 748 ls [])) (x : Sys) (y : Mod) (a : SA) (d : MA) (H : Heap) (locs : List Loc) (ls : Array Slot) (hP : va_P D vwCl (sysW I O a x ++ mdlW I d y) H) (hD : va_D (fun q : Nat => s.heap.size ≤ q) (sysW I O a x ++ mdlW I d y)) (hS : va_S (fun q : Nat => s.heap.size ≤ q) s.heap H locs) (hl : lv_has ls 4 [(0, .ref b), (1, .ref a.1), (2, .ref d.1), (3, .int i)]) (hw : lq25 L xs i x y K) : W p l e room_1 s m #[Value.ref b] below meth c H locs 50 39149 (lw_Z below #[Value.ref b] s) (F0 m 711 ls []) := by
  obtain ⟨hx, hb, hr, hml, hown, hts0, hX, hbl, hlocks, hgv⟩ := C0
  have hts := fun w h => hts0 w (wsL_law_in w h)
  have hown : s.vm.findClass RL = some m.cls := hown
  have hA : ∀ q : Nat, s.heap.size ≤ q → (fun q : Nat => s.heap.size ≤ q) q := fun _ h => h
  have hbA : ¬ (fun q : Nat => s.heap.size ≤ q) b := Nat.not_le.mpr hbl
  unfold lq25 at hw
  refine lv_aload_n hx hb dL_law_711 rfl (lv_at hl 1 rfl) ?_
  refine lv_aload_n hx hb dL_law_712 rfl (lv_at hl 0 rfl) ?_
  refine lv_iload_n hx hb dL_law_713 rfl (lv_at hl 3 rfl) ?_
  refine lv_iconst (v := 1) hx hb dL_law_714 (by decide) ?_
  refine lv_iadd hx hb dL_law_715 ?_
  obtain ⟨h1, hw⟩ := hw
  refine va_sld hx hb hX hbl hbA hS h1 dL_law_716 ?_
  have hPc := va_P.mid (X := []) (wc := sysW I O a x) (Y := mdlW I d y) hP
  have hDc := va_D.mid (X := []) (wc := sysW I O a x) (Y := mdlW I d y) hD
  refine mc_i ([]) (mdlW I d y) (mv_V (As := [.int (xs (Int32.toNatClampNeg (i + 1)))]) (rest := []) ⟨hx, hb, hml, hown, hts⟩ (kX2_errorCount l D I O a H.size x (xs (Int32.toNatClampNeg (i + 1))) _ hw) (cwV 1 hts gL_law_X2_errorCount rfl rfl rfl hdVX2_errorCount ⟨(Nat.le_of_ble_eq_true rfl), (Nat.le_of_ble_eq_true rfl)⟩) hK hPc hDc 0 2 rfl rfl rfl rfl hl.1 rfl (Nat.le_of_ble_eq_true rfl) dL_law_717 ⟨(Nat.le_of_ble_eq_true rfl), (Nat.le_of_ble_eq_true rfl)⟩) hP hD hS hA (fun r2 u3 H locs hw hP hD hS => ?_)
  have hP : va_P D vwCl (sysW I O a u3 ++ mdlW I d y) H := hP
  have hD : va_D ((fun q : Nat => s.heap.size ≤ q)) (sysW I O a u3 ++ mdlW I d y) := hD
  refine lv_aload_n hx hb dL_law_720 rfl (lv_at hl 2 rfl) ?_
  refine lv_aload_n hx hb dL_law_721 rfl (lv_at hl 0 rfl) ?_
  refine lv_iload_n hx hb dL_law_722 rfl (lv_at hl 3 rfl) ?_
  refine lv_iconst (v := 1) hx hb dL_law_723 (by decide) ?_
  refine lv_iadd hx hb dL_law_724 ?_
  obtain ⟨h4, hw⟩ := hw
  refine va_sld hx hb hX hbl hbA hS h4 dL_law_725 ?_
  have hPc := va_P.mid (X := sysW I O a u3) (wc := mdlW I d y) (Y := []) hP
  have hDc := va_D.mid (X := sysW I O a u3) (wc := mdlW I d y) (Y := []) hD
  refine mc_i (sysW I O a u3) ([]) (mv_V (As := [.int (xs (Int32.toNatClampNeg (i + 1)))]) (rest := [.int r2]) ⟨hx, hb, hml, hown, hts⟩ (kX3_errorCount l D I O d H.size y (xs (Int32.toNatClampNeg (i + 1))) _ hw) (cwV 1 hts gL_law_X3_errorCount rfl rfl rfl hdVX3_errorCount ⟨(Nat.le_of_ble_eq_true rfl), (Nat.le_of_ble_eq_true rfl)⟩) hK hPc hDc 0 3 rfl rfl rfl rfl hl.1 rfl (Nat.le_of_ble_eq_true rfl) dL_law_726 ⟨(Nat.le_of_ble_eq_true rfl), (Nat.le_of_ble_eq_true rfl)⟩) hP hD hS hA (fun r5 u6 H locs hw hP hD hS => ?_)
  have hP : va_P D vwCl (sysW I O a u3 ++ mdlW I d u6) H := hP
  have hD : va_D ((fun q : Nat => s.heap.size ≤ q)) (sysW I O a u3 ++ mdlW I d u6) := hD
  obtain ⟨c7, hw⟩ := hw
  refine lv_icmp_eq (tgt := 748) hx hb dL_law_729 (by decide) (fun _ => ?_) (fun cz => absurd c7 cz)
  exact hk u3 u6 a d H locs ls hP hD hS hl hw
def lq26 (L : Nat) (xs : Nat → Int32) (i : Int32) (x : Sys) (y : Mod) (K : Sys → Mod → Prop) : Prop := (qX2_digest x (fun r1 => (qX3_digest y (fun r2 u3 => (r1 = r2 ∧ K x u3)))))
set_option maxHeartbeats 4000000 in
set_option maxRecDepth 100000 in
theorem lc26 {p : Program} {l : Launch} {e : Env} {s : State} {m : MethodId} {below : List Frame} {meth : Method} {c : Code} {D : va_G} {I O : ClassId} {b L : Nat} {xs : Nat → Int32} (C0 : lw_At p s m meth c b L xs) (hK : sK D I O s) (i : Int32) (K : Sys → Mod → Prop) (hk : ∀ (x : Sys) (y : Mod) (a2 : SA) (d2 : MA) (H : Heap) (locs : List Loc) (ls : Array Slot), va_P D vwCl (sysW I O a2 x ++ mdlW I d2 y) H → va_D (fun q : Nat => s.heap.size ≤ q) (sysW I O a2 x ++ mdlW I d2 y) → va_S (fun q : Nat => s.heap.size ≤ q) s.heap H locs → lv_has ls 4 [(0, .ref b), (1, .ref a2.1), (2, .ref d2.1), (3, .int i)] → K x y → W p l e room_1 s m #[Value.ref b] below meth c H locs 50 39149 (lw_Z below #[Value.ref b] s) (F0 m 748 ls [])) (x : Sys) (y : Mod) (a : SA) (d : MA) (H : Heap) (locs : List Loc) (ls : Array Slot) (hP : va_P D vwCl (sysW I O a x ++ mdlW I d y) H) (hD : va_D (fun q : Nat => s.heap.size ≤ q) (sysW I O a x ++ mdlW I d y)) (hS : va_S (fun q : Nat => s.heap.size ≤ q) s.heap H locs) (hl : lv_has ls 4 [(0, .ref b), (1, .ref a.1), (2, .ref d.1), (3, .int i)]) (hw : lq26 L xs i x y K) : W p l e room_1 s m #[Value.ref b] below meth c H locs 50 39149 (lw_Z below #[Value.ref b] s) (F0 m 734 ls []) := by
  obtain ⟨hx, hb, hr, hml, hown, hts0, hX, hbl, hlocks, hgv⟩ := C0
  have hts := fun w h => hts0 w (wsL_law_in w h)
  have hown : s.vm.findClass RL = some m.cls := hown
  have hA : ∀ q : Nat, s.heap.size ≤ q → (fun q : Nat => s.heap.size ≤ q) q := fun _ h => h
  have hbA : ¬ (fun q : Nat => s.heap.size ≤ q) b := Nat.not_le.mpr hbl
  unfold lq26 at hw
  refine lv_aload_n hx hb dL_law_734 rfl (lv_at hl 1 rfl) ?_
  have hPc := va_P.mid (X := []) (wc := sysW I O a x) (Y := mdlW I d y) hP
  have hDc := va_D.mid (X := []) (wc := sysW I O a x) (Y := mdlW I d y) hD
  refine mc_l ([]) (mdlW I d y) (mv_V (As := []) (rest := []) ⟨hx, hb, hml, hown, hts⟩ (kX2_digest l D I O a H.size x _ hw) (cwV 0 hts gL_law_X2_digest rfl rfl rfl hdVX2_digest ⟨(Nat.le_of_ble_eq_true rfl), (Nat.le_of_ble_eq_true rfl)⟩) hK hPc hDc 0 2 rfl rfl rfl rfl hl.1 rfl (Nat.le_of_ble_eq_true rfl) dL_law_735 ⟨(Nat.le_of_ble_eq_true rfl), (Nat.le_of_ble_eq_true rfl)⟩) hP hD hS hA (fun r1 _ H locs hw hP hD hS => ?_)
  have hP : va_P D vwCl (sysW I O a x ++ mdlW I d y) H := hP
  have hD : va_D ((fun q : Nat => s.heap.size ≤ q)) (sysW I O a x ++ mdlW I d y) := hD
  refine lv_aload_n hx hb dL_law_738 rfl (lv_at hl 2 rfl) ?_
  have hPc := va_P.mid (X := sysW I O a x) (wc := mdlW I d y) (Y := []) hP
  have hDc := va_D.mid (X := sysW I O a x) (wc := mdlW I d y) (Y := []) hD
  refine mc_l (sysW I O a x) ([]) (mv_V (As := []) (rest := [.long r1]) ⟨hx, hb, hml, hown, hts⟩ (kX3_digest l D I O d H.size y _ hw) (cwV 0 hts gL_law_X3_digest rfl rfl rfl hdVX3_digest ⟨(Nat.le_of_ble_eq_true rfl), (Nat.le_of_ble_eq_true rfl)⟩) hK hPc hDc 0 3 rfl rfl rfl rfl hl.1 rfl (Nat.le_of_ble_eq_true rfl) dL_law_739 ⟨(Nat.le_of_ble_eq_true rfl), (Nat.le_of_ble_eq_true rfl)⟩) hP hD hS hA (fun r2 u3 H locs hw hP hD hS => ?_)
  have hP : va_P D vwCl (sysW I O a x ++ mdlW I d u3) H := hP
  have hD : va_D ((fun q : Nat => s.heap.size ≤ q)) (sysW I O a x ++ mdlW I d u3) := hD
  obtain ⟨c4, hw⟩ := hw
  refine W.lcmp hx hb dL_law_742 ?_
  refine lv_if_eq (tgt := 748) hx hb dL_law_743 (by decide) (fun _ => ?_) (fun cz => absurd ((lg_cmp_eq _ _).mpr c4) cz)
  exact hk x u3 a d H locs ls hP hD hS hl hw
