def qX0_init_1 (Q : Col → Prop) : Prop := Q (1, fun _ => 0, fun _ => 0, 0, 0, 0)
set_option maxHeartbeats 4000000 in
set_option maxRecDepth 100000 in
theorem kX0_init_1 (l : Launch) (D : va_G) (I O : ClassId) (h0 : Nat) (sz : Nat) (Q : Col → Prop) (hw : qX0_init_1 Q) : Met l yX0_init wsX0_init rX0_init (mPc D I O [.ref h0, .int 1] ([(h0, .inr (0, [.int 0, .null, .null, .int 0, .int 0, .long 0]))]) sz) (va_Qv (fun (u : (Nat × Nat) × Col) => Q u.2) (mB D (va_A ([(h0, .inr (0, [.int 0, .null, .null, .int 0, .int 0, .long 0]))]) sz) (fun u => colB I (h0, u.1.1, u.1.2) u.2)) (va_A ([(h0, .inr (0, [.int 0, .null, .null, .int 0, .int 0, .long 0]))]) sz)) 2 1040 (va_A ([(h0, .inr (0, [.int 0, .null, .null, .int 0, .int 0, .long 0]))]) sz) := by
  refine m_start (by decide) rfl (Nat.le_of_ble_eq_true rfl) (fun p e s m below meth c ls H locs hx hb hr hml hts hown hlocks hnm hK hP hD hA hS hl => ?_)
  have hown : s.vm.findClass RX0 = some m.cls := hown
  have hl : lv_has ls 2 [(0, .ref h0), (1, .int 1)] := hl
  have hiX0 : ∀ w ∈ wsX00, w ∈ wsX0_init := by decide +kernel
  have f0 := hts (.methodLink RX0 3 objectInit) (by decide +kernel)
  have f1 := hts (.instanceMethod objectInit) (by decide +kernel)
  have f2 := hts (.code objectInit ⟨#[0xb1]⟩ 1 none) (by decide +kernel)
  have f3 := hts (.arrayClass .int) (by decide +kernel)
  have f4 := hts (.fieldLink RX0 9 "WellControl$Column" "volumes" "[I") (by decide +kernel)
  have f5 := hts (.fieldLink RX0 15 "WellControl$Column" "densities" "[I") (by decide +kernel)
  have f6 := hts (.fieldLink RX0 18 "WellControl$Column" "filledFromTop" "Z") (by decide +kernel)
  unfold qX0_init_1 at hw
  refine lv_aload_n hx hb dX0_init_0 rfl (lv_at hl 0 rfl) ?_
  refine W.objInit hx hb hown f0 f1 f2 rfl (by rw [hml]; exact hl.1) rfl dX0_init_1 (Nat.le_of_ble_eq_true rfl) (Nat.le_of_ble_eq_true rfl) ?_
  refine W.eq (g2 := F0 m 4 ls []) rfl ?_
  refine lv_aload_n hx hb dX0_init_4 rfl (lv_at hl 0 rfl) ?_
  refine lv_sipush (v := 520) hx hb dX0_init_5 (by decide) ?_
  refine m_newI (n := 520) (N := 520) hx hb f3 hK hP hD hS hA (by decide) (by decide) (Nat.le_of_ble_eq_true rfl) (Nat.le_of_ble_eq_true rfl) (Nat.le_of_ble_eq_true rfl) dX0_init_8 (fun q1 H hP hD hS => ?_)
  have hP : va_P D vwCl ([(h0, .inr (0, [.int 0, .null, .null, .int 0, .int 0, .long 0]))] ++ [(q1, .inl (I, 520, .inl (fun _ => 0)))]) H := hP
  have hD : va_D (va_A ([(h0, .inr (0, [.int 0, .null, .null, .int 0, .int 0, .long 0]))]) sz) ([(h0, .inr (0, [.int 0, .null, .null, .int 0, .int 0, .long 0]))] ++ [(q1, .inl (I, 520, .inl (fun _ => 0)))]) := hD
  refine va_putF (ci := 0) (v := .ref q1) (ty := .array .int) (C := RX0) (T := TX0) (N := 6) hx hb hts hiX0 tyX0 tyX0_ok nmX0 hown hK.1 hP hD hS 0 rfl rfl 1 (by decide) f4 (fun _ h9 => h9) rfl hnm rfl (by decide +kernel) rfl rfl (Nat.le_of_ble_eq_true rfl) dX0_init_10 (fun H locs hP hD hS => ?_)
  have hP : va_P D vwCl ([(h0, .inr (0, [.int 0, .ref q1, .null, .int 0, .int 0, .long 0]))] ++ [(q1, .inl (I, 520, .inl (fun _ => 0)))]) H := hP
  have hD : va_D (va_A ([(h0, .inr (0, [.int 0, .null, .null, .int 0, .int 0, .long 0]))]) sz) ([(h0, .inr (0, [.int 0, .ref q1, .null, .int 0, .int 0, .long 0]))] ++ [(q1, .inl (I, 520, .inl (fun _ => 0)))]) := hD
  refine lv_aload_n hx hb dX0_init_13 rfl (lv_at hl 0 rfl) ?_
  refine lv_sipush (v := 520) hx hb dX0_init_14 (by decide) ?_
  refine m_newI (n := 520) (N := 520) hx hb f3 hK hP hD hS hA (by decide) (by decide) (Nat.le_of_ble_eq_true rfl) (Nat.le_of_ble_eq_true rfl) (Nat.le_of_ble_eq_true rfl) dX0_init_17 (fun q2 H hP hD hS => ?_)
  have hP : va_P D vwCl ([(h0, .inr (0, [.int 0, .ref q1, .null, .int 0, .int 0, .long 0]))] ++ ([(q1, .inl (I, 520, .inl (fun _ => 0)))] ++ [(q2, .inl (I, 520, .inl (fun _ => 0)))])) H := hP
  have hD : va_D (va_A ([(h0, .inr (0, [.int 0, .null, .null, .int 0, .int 0, .long 0]))]) sz) ([(h0, .inr (0, [.int 0, .ref q1, .null, .int 0, .int 0, .long 0]))] ++ ([(q1, .inl (I, 520, .inl (fun _ => 0)))] ++ [(q2, .inl (I, 520, .inl (fun _ => 0)))])) := hD
  refine va_putF (ci := 0) (v := .ref q2) (ty := .array .int) (C := RX0) (T := TX0) (N := 6) hx hb hts hiX0 tyX0 tyX0_ok nmX0 hown hK.1 hP hD hS 0 rfl rfl 2 (by decide) f5 (fun _ h9 => h9) rfl hnm rfl (by decide +kernel) rfl rfl (Nat.le_of_ble_eq_true rfl) dX0_init_19 (fun H locs hP hD hS => ?_)
  have hP : va_P D vwCl ([(h0, .inr (0, [.int 0, .ref q1, .ref q2, .int 0, .int 0, .long 0]))] ++ ([(q1, .inl (I, 520, .inl (fun _ => 0)))] ++ [(q2, .inl (I, 520, .inl (fun _ => 0)))])) H := hP
  have hD : va_D (va_A ([(h0, .inr (0, [.int 0, .null, .null, .int 0, .int 0, .long 0]))]) sz) ([(h0, .inr (0, [.int 0, .ref q1, .ref q2, .int 0, .int 0, .long 0]))] ++ ([(q1, .inl (I, 520, .inl (fun _ => 0)))] ++ [(q2, .inl (I, 520, .inl (fun _ => 0)))])) := hD
  refine lv_aload_n hx hb dX0_init_22 rfl (lv_at hl 0 rfl) ?_
  refine lv_iload_n hx hb dX0_init_23 rfl (lv_at hl 1 rfl) ?_
  refine va_putF (ci := 0) (v := .int 1) (ty := .boolean) (C := RX0) (T := TX0) (N := 6) hx hb hts hiX0 tyX0 tyX0_ok nmX0 hown hK.1 hP hD hS 0 rfl rfl 0 (by decide) f6 (fun _ h9 => h9) rfl hnm rfl (by decide +kernel) (by decide) (by decide) (Nat.le_of_ble_eq_true rfl) dX0_init_24 (fun H locs hP hD hS => ?_)
  have hP : va_P D vwCl ([(h0, .inr (0, [.int 1, .ref q1, .ref q2, .int 0, .int 0, .long 0]))] ++ ([(q1, .inl (I, 520, .inl (fun _ => 0)))] ++ [(q2, .inl (I, 520, .inl (fun _ => 0)))])) H := hP
  have hD : va_D (va_A ([(h0, .inr (0, [.int 0, .null, .null, .int 0, .int 0, .long 0]))]) sz) ([(h0, .inr (0, [.int 1, .ref q1, .ref q2, .int 0, .int 0, .long 0]))] ++ ([(q1, .inl (I, 520, .inl (fun _ => 0)))] ++ [(q2, .inl (I, 520, .inl (fun _ => 0)))])) := hD
  exact m_vret (u := ((q1, q2), (1, fun _ => 0, fun _ => 0, 0, 0, 0))) hx hb hr hlocks hS hP hD dX0_init_27 hw
def qX0_init_0 (Q : Col → Prop) : Prop := Q (0, fun _ => 0, fun _ => 0, 0, 0, 0)
set_option maxHeartbeats 4000000 in
set_option maxRecDepth 100000 in
theorem kX0_init_0 (l : Launch) (D : va_G) (I O : ClassId) (h0 : Nat) (sz : Nat) (Q : Col → Prop) (hw : qX0_init_0 Q) : Met l yX0_init wsX0_init rX0_init (mPc D I O [.ref h0, .int 0] ([(h0, .inr (0, [.int 0, .null, .null, .int 0, .int 0, .long 0]))]) sz) (va_Qv (fun (u : (Nat × Nat) × Col) => Q u.2) (mB D (va_A ([(h0, .inr (0, [.int 0, .null, .null, .int 0, .int 0, .long 0]))]) sz) (fun u => colB I (h0, u.1.1, u.1.2) u.2)) (va_A ([(h0, .inr (0, [.int 0, .null, .null, .int 0, .int 0, .long 0]))]) sz)) 2 1040 (va_A ([(h0, .inr (0, [.int 0, .null, .null, .int 0, .int 0, .long 0]))]) sz) := by
  refine m_start (by decide) rfl (Nat.le_of_ble_eq_true rfl) (fun p e s m below meth c ls H locs hx hb hr hml hts hown hlocks hnm hK hP hD hA hS hl => ?_)
  have hown : s.vm.findClass RX0 = some m.cls := hown
  have hl : lv_has ls 2 [(0, .ref h0), (1, .int 0)] := hl
  have hiX0 : ∀ w ∈ wsX00, w ∈ wsX0_init := by decide +kernel
  have f0 := hts (.methodLink RX0 3 objectInit) (by decide +kernel)
  have f1 := hts (.instanceMethod objectInit) (by decide +kernel)
  have f2 := hts (.code objectInit ⟨#[0xb1]⟩ 1 none) (by decide +kernel)
  have f3 := hts (.arrayClass .int) (by decide +kernel)
  have f4 := hts (.fieldLink RX0 9 "WellControl$Column" "volumes" "[I") (by decide +kernel)
  have f5 := hts (.fieldLink RX0 15 "WellControl$Column" "densities" "[I") (by decide +kernel)
  have f6 := hts (.fieldLink RX0 18 "WellControl$Column" "filledFromTop" "Z") (by decide +kernel)
  unfold qX0_init_0 at hw
  refine lv_aload_n hx hb dX0_init_0 rfl (lv_at hl 0 rfl) ?_
  refine W.objInit hx hb hown f0 f1 f2 rfl (by rw [hml]; exact hl.1) rfl dX0_init_1 (Nat.le_of_ble_eq_true rfl) (Nat.le_of_ble_eq_true rfl) ?_
  refine W.eq (g2 := F0 m 4 ls []) rfl ?_
  refine lv_aload_n hx hb dX0_init_4 rfl (lv_at hl 0 rfl) ?_
  refine lv_sipush (v := 520) hx hb dX0_init_5 (by decide) ?_
  refine m_newI (n := 520) (N := 520) hx hb f3 hK hP hD hS hA (by decide) (by decide) (Nat.le_of_ble_eq_true rfl) (Nat.le_of_ble_eq_true rfl) (Nat.le_of_ble_eq_true rfl) dX0_init_8 (fun q1 H hP hD hS => ?_)
  have hP : va_P D vwCl ([(h0, .inr (0, [.int 0, .null, .null, .int 0, .int 0, .long 0]))] ++ [(q1, .inl (I, 520, .inl (fun _ => 0)))]) H := hP
  have hD : va_D (va_A ([(h0, .inr (0, [.int 0, .null, .null, .int 0, .int 0, .long 0]))]) sz) ([(h0, .inr (0, [.int 0, .null, .null, .int 0, .int 0, .long 0]))] ++ [(q1, .inl (I, 520, .inl (fun _ => 0)))]) := hD
  refine va_putF (ci := 0) (v := .ref q1) (ty := .array .int) (C := RX0) (T := TX0) (N := 6) hx hb hts hiX0 tyX0 tyX0_ok nmX0 hown hK.1 hP hD hS 0 rfl rfl 1 (by decide) f4 (fun _ h9 => h9) rfl hnm rfl (by decide +kernel) rfl rfl (Nat.le_of_ble_eq_true rfl) dX0_init_10 (fun H locs hP hD hS => ?_)
  have hP : va_P D vwCl ([(h0, .inr (0, [.int 0, .ref q1, .null, .int 0, .int 0, .long 0]))] ++ [(q1, .inl (I, 520, .inl (fun _ => 0)))]) H := hP
  have hD : va_D (va_A ([(h0, .inr (0, [.int 0, .null, .null, .int 0, .int 0, .long 0]))]) sz) ([(h0, .inr (0, [.int 0, .ref q1, .null, .int 0, .int 0, .long 0]))] ++ [(q1, .inl (I, 520, .inl (fun _ => 0)))]) := hD
  refine lv_aload_n hx hb dX0_init_13 rfl (lv_at hl 0 rfl) ?_
  refine lv_sipush (v := 520) hx hb dX0_init_14 (by decide) ?_
  refine m_newI (n := 520) (N := 520) hx hb f3 hK hP hD hS hA (by decide) (by decide) (Nat.le_of_ble_eq_true rfl) (Nat.le_of_ble_eq_true rfl) (Nat.le_of_ble_eq_true rfl) dX0_init_17 (fun q2 H hP hD hS => ?_)
  have hP : va_P D vwCl ([(h0, .inr (0, [.int 0, .ref q1, .null, .int 0, .int 0, .long 0]))] ++ ([(q1, .inl (I, 520, .inl (fun _ => 0)))] ++ [(q2, .inl (I, 520, .inl (fun _ => 0)))])) H := hP
  have hD : va_D (va_A ([(h0, .inr (0, [.int 0, .null, .null, .int 0, .int 0, .long 0]))]) sz) ([(h0, .inr (0, [.int 0, .ref q1, .null, .int 0, .int 0, .long 0]))] ++ ([(q1, .inl (I, 520, .inl (fun _ => 0)))] ++ [(q2, .inl (I, 520, .inl (fun _ => 0)))])) := hD
  refine va_putF (ci := 0) (v := .ref q2) (ty := .array .int) (C := RX0) (T := TX0) (N := 6) hx hb hts hiX0 tyX0 tyX0_ok nmX0 hown hK.1 hP hD hS 0 rfl rfl 2 (by decide) f5 (fun _ h9 => h9) rfl hnm rfl (by decide +kernel) rfl rfl (Nat.le_of_ble_eq_true rfl) dX0_init_19 (fun H locs hP hD hS => ?_)
  have hP : va_P D vwCl ([(h0, .inr (0, [.int 0, .ref q1, .ref q2, .int 0, .int 0, .long 0]))] ++ ([(q1, .inl (I, 520, .inl (fun _ => 0)))] ++ [(q2, .inl (I, 520, .inl (fun _ => 0)))])) H := hP
  have hD : va_D (va_A ([(h0, .inr (0, [.int 0, .null, .null, .int 0, .int 0, .long 0]))]) sz) ([(h0, .inr (0, [.int 0, .ref q1, .ref q2, .int 0, .int 0, .long 0]))] ++ ([(q1, .inl (I, 520, .inl (fun _ => 0)))] ++ [(q2, .inl (I, 520, .inl (fun _ => 0)))])) := hD
  refine lv_aload_n hx hb dX0_init_22 rfl (lv_at hl 0 rfl) ?_
  refine lv_iload_n hx hb dX0_init_23 rfl (lv_at hl 1 rfl) ?_
  refine va_putF (ci := 0) (v := .int 0) (ty := .boolean) (C := RX0) (T := TX0) (N := 6) hx hb hts hiX0 tyX0 tyX0_ok nmX0 hown hK.1 hP hD hS 0 rfl rfl 0 (by decide) f6 (fun _ h9 => h9) rfl hnm rfl (by decide +kernel) (by decide) (by decide) (Nat.le_of_ble_eq_true rfl) dX0_init_24 (fun H locs hP hD hS => ?_)
  have hP : va_P D vwCl ([(h0, .inr (0, [.int 0, .ref q1, .ref q2, .int 0, .int 0, .long 0]))] ++ ([(q1, .inl (I, 520, .inl (fun _ => 0)))] ++ [(q2, .inl (I, 520, .inl (fun _ => 0)))])) H := hP
  have hD : va_D (va_A ([(h0, .inr (0, [.int 0, .null, .null, .int 0, .int 0, .long 0]))]) sz) ([(h0, .inr (0, [.int 0, .ref q1, .ref q2, .int 0, .int 0, .long 0]))] ++ ([(q1, .inl (I, 520, .inl (fun _ => 0)))] ++ [(q2, .inl (I, 520, .inl (fun _ => 0)))])) := hD
  exact m_vret (u := ((q1, q2), (0, fun _ => 0, fun _ => 0, 0, 0, 0))) hx hb hr hlocks hS hP hD dX0_init_27 hw
def qX1_init (Q : Wel → Prop) : Prop := (qX0_init_1 (fun u2 => (qX0_init_0 (fun u4 => (qX1_startAnew (1000, 9, 25, 400, 1200, 0, 2000, 8000, 0, 0, 0, u2, u4) (fun u5 => Q u5))))))
set_option maxHeartbeats 4000000 in
set_option maxRecDepth 100000 in
theorem kX1_init (l : Launch) (D : va_G) (I O : ClassId) (h0 : Nat) (sz : Nat) (Q : Wel → Prop) (hw : qX1_init Q) : Met l yX1_init wsX1_init rX1_init (mPc D I O [.ref h0] ([(h0, .inr (1, [.int 0, .int 0, .int 0, .int 0, .int 0, .int 0, .int 0, .int 0, .int 0, .int 0, .int 0, .null, .null]))]) sz) (va_Qv (fun (u : (CA × CA) × Wel) => Q u.2) (mB D (va_A ([(h0, .inr (1, [.int 0, .int 0, .int 0, .int 0, .int 0, .int 0, .int 0, .int 0, .int 0, .int 0, .int 0, .null, .null]))]) sz) (fun u => welB I (h0, u.1.1, u.1.2) u.2)) (va_A ([(h0, .inr (1, [.int 0, .int 0, .int 0, .int 0, .int 0, .int 0, .int 0, .int 0, .int 0, .int 0, .int 0, .null, .null]))]) sz)) 6 2092 (va_A ([(h0, .inr (1, [.int 0, .int 0, .int 0, .int 0, .int 0, .int 0, .int 0, .int 0, .int 0, .int 0, .int 0, .null, .null]))]) sz) := by
  refine m_start (by decide) rfl (Nat.le_of_ble_eq_true rfl) (fun p e s m below meth c ls H locs hx hb hr hml hts hown hlocks hnm hK hP hD hA hS hl => ?_)
  have hown : s.vm.findClass RX1 = some m.cls := hown
  have hl : lv_has ls 1 [(0, .ref h0)] := hl
  have hiX0 : ∀ w ∈ wsX00, w ∈ wsX1_init := by decide +kernel
  have hiX1 : ∀ w ∈ wsX10, w ∈ wsX1_init := by decide +kernel
  have f0 := hts (.methodLink RX1 3 objectInit) (by decide +kernel)
  have f1 := hts (.instanceMethod objectInit) (by decide +kernel)
  have f2 := hts (.code objectInit ⟨#[0xb1]⟩ 1 none) (by decide +kernel)
  have f3 := hts (.fieldLink RX1 9 "WellControl$Well" "depth" "I") (by decide +kernel)
  have f4 := hts (.fieldLink RX1 15 "WellControl$Well" "pipeCapacity" "I") (by decide +kernel)
  have f5 := hts (.fieldLink RX1 18 "WellControl$Well" "annulusCapacity" "I") (by decide +kernel)
  have f6 := hts (.fieldLink RX1 21 "WellControl$Well" "shoe" "I") (by decide +kernel)
  have f7 := hts (.fieldLink RX1 24 "WellControl$Well" "mud" "I") (by decide +kernel)
  have f8 := hts (.fieldLink RX1 27 "WellControl$Well" "formation" "I") (by decide +kernel)
  have f9 := hts (.fieldLink RX1 30 "WellControl$Well" "slowPump" "I") (by decide +kernel)
  have f10 := hts (.fieldLink RX1 33 "WellControl$Well" "fracture" "I") (by decide +kernel)
  have f11 := hts (.classLink RX1 36 RX0) (by decide +kernel)
  have f12 := hts (.instantiable RX0 6) (by decide +kernel)
  have f13 := hts (.initialized RX0) (by decide +kernel)
  have f14 := hts (.methodLink RX1 38 yX0_init) (by decide +kernel)
  have f15 := hts (.instanceMethod yX0_init) (by decide +kernel)
  have f16 := hts (.fieldLink RX1 41 "WellControl$Well" "pipe" "LWellControl$Column;") (by decide +kernel)
  have f17 := hts (.fieldLink RX1 45 "WellControl$Well" "annulus" "LWellControl$Column;") (by decide +kernel)
  unfold qX1_init at hw
  refine lv_aload_n hx hb dX1_init_0 rfl (lv_at hl 0 rfl) ?_
  refine W.objInit hx hb hown f0 f1 f2 rfl (by rw [hml]; exact hl.1) rfl dX1_init_1 (Nat.le_of_ble_eq_true rfl) (Nat.le_of_ble_eq_true rfl) ?_
  refine W.eq (g2 := F0 m 4 ls []) rfl ?_
  refine lv_aload_n hx hb dX1_init_4 rfl (lv_at hl 0 rfl) ?_
  refine lv_sipush (v := 1000) hx hb dX1_init_5 (by decide) ?_
  refine va_put (ci := 1) (v := .int 1000) (ty := .int) (C := RX1) (T := TX1) (N := 13) hx hb hts hiX1 tyX1 tyX1_ok nmX1 hown hK.1 hP hD hS 0 rfl rfl 0 (by decide) f3 (fun _ h9 => h9) rfl (by decide +kernel) rfl rfl (Nat.le_of_ble_eq_true rfl) dX1_init_8 (fun H locs hP hD hS => ?_)
  have hP : va_P D vwCl ([(h0, .inr (1, [.int 1000, .int 0, .int 0, .int 0, .int 0, .int 0, .int 0, .int 0, .int 0, .int 0, .int 0, .null, .null]))]) H := hP
  have hD : va_D (va_A ([(h0, .inr (1, [.int 0, .int 0, .int 0, .int 0, .int 0, .int 0, .int 0, .int 0, .int 0, .int 0, .int 0, .null, .null]))]) sz) ([(h0, .inr (1, [.int 1000, .int 0, .int 0, .int 0, .int 0, .int 0, .int 0, .int 0, .int 0, .int 0, .int 0, .null, .null]))]) := hD
  refine lv_aload_n hx hb dX1_init_11 rfl (lv_at hl 0 rfl) ?_
  refine lv_bipush (v := 9) hx hb dX1_init_12 (by decide) ?_
  refine va_put (ci := 1) (v := .int 9) (ty := .int) (C := RX1) (T := TX1) (N := 13) hx hb hts hiX1 tyX1 tyX1_ok nmX1 hown hK.1 hP hD hS 0 rfl rfl 1 (by decide) f4 (fun _ h9 => h9) rfl (by decide +kernel) rfl rfl (Nat.le_of_ble_eq_true rfl) dX1_init_14 (fun H locs hP hD hS => ?_)
  have hP : va_P D vwCl ([(h0, .inr (1, [.int 1000, .int 9, .int 0, .int 0, .int 0, .int 0, .int 0, .int 0, .int 0, .int 0, .int 0, .null, .null]))]) H := hP
  have hD : va_D (va_A ([(h0, .inr (1, [.int 0, .int 0, .int 0, .int 0, .int 0, .int 0, .int 0, .int 0, .int 0, .int 0, .int 0, .null, .null]))]) sz) ([(h0, .inr (1, [.int 1000, .int 9, .int 0, .int 0, .int 0, .int 0, .int 0, .int 0, .int 0, .int 0, .int 0, .null, .null]))]) := hD
  refine lv_aload_n hx hb dX1_init_17 rfl (lv_at hl 0 rfl) ?_
  refine lv_bipush (v := 25) hx hb dX1_init_18 (by decide) ?_
  refine va_put (ci := 1) (v := .int 25) (ty := .int) (C := RX1) (T := TX1) (N := 13) hx hb hts hiX1 tyX1 tyX1_ok nmX1 hown hK.1 hP hD hS 0 rfl rfl 2 (by decide) f5 (fun _ h9 => h9) rfl (by decide +kernel) rfl rfl (Nat.le_of_ble_eq_true rfl) dX1_init_20 (fun H locs hP hD hS => ?_)
  have hP : va_P D vwCl ([(h0, .inr (1, [.int 1000, .int 9, .int 25, .int 0, .int 0, .int 0, .int 0, .int 0, .int 0, .int 0, .int 0, .null, .null]))]) H := hP
  have hD : va_D (va_A ([(h0, .inr (1, [.int 0, .int 0, .int 0, .int 0, .int 0, .int 0, .int 0, .int 0, .int 0, .int 0, .int 0, .null, .null]))]) sz) ([(h0, .inr (1, [.int 1000, .int 9, .int 25, .int 0, .int 0, .int 0, .int 0, .int 0, .int 0, .int 0, .int 0, .null, .null]))]) := hD
  refine lv_aload_n hx hb dX1_init_23 rfl (lv_at hl 0 rfl) ?_
  refine lv_sipush (v := 400) hx hb dX1_init_24 (by decide) ?_
  refine va_put (ci := 1) (v := .int 400) (ty := .int) (C := RX1) (T := TX1) (N := 13) hx hb hts hiX1 tyX1 tyX1_ok nmX1 hown hK.1 hP hD hS 0 rfl rfl 3 (by decide) f6 (fun _ h9 => h9) rfl (by decide +kernel) rfl rfl (Nat.le_of_ble_eq_true rfl) dX1_init_27 (fun H locs hP hD hS => ?_)
  have hP : va_P D vwCl ([(h0, .inr (1, [.int 1000, .int 9, .int 25, .int 400, .int 0, .int 0, .int 0, .int 0, .int 0, .int 0, .int 0, .null, .null]))]) H := hP
  have hD : va_D (va_A ([(h0, .inr (1, [.int 0, .int 0, .int 0, .int 0, .int 0, .int 0, .int 0, .int 0, .int 0, .int 0, .int 0, .null, .null]))]) sz) ([(h0, .inr (1, [.int 1000, .int 9, .int 25, .int 400, .int 0, .int 0, .int 0, .int 0, .int 0, .int 0, .int 0, .null, .null]))]) := hD
  refine lv_aload_n hx hb dX1_init_30 rfl (lv_at hl 0 rfl) ?_
  refine lv_sipush (v := 1200) hx hb dX1_init_31 (by decide) ?_
  refine va_put (ci := 1) (v := .int 1200) (ty := .int) (C := RX1) (T := TX1) (N := 13) hx hb hts hiX1 tyX1 tyX1_ok nmX1 hown hK.1 hP hD hS 0 rfl rfl 4 (by decide) f7 (fun _ h9 => h9) rfl (by decide +kernel) rfl rfl (Nat.le_of_ble_eq_true rfl) dX1_init_34 (fun H locs hP hD hS => ?_)
  have hP : va_P D vwCl ([(h0, .inr (1, [.int 1000, .int 9, .int 25, .int 400, .int 1200, .int 0, .int 0, .int 0, .int 0, .int 0, .int 0, .null, .null]))]) H := hP
  have hD : va_D (va_A ([(h0, .inr (1, [.int 0, .int 0, .int 0, .int 0, .int 0, .int 0, .int 0, .int 0, .int 0, .int 0, .int 0, .null, .null]))]) sz) ([(h0, .inr (1, [.int 1000, .int 9, .int 25, .int 400, .int 1200, .int 0, .int 0, .int 0, .int 0, .int 0, .int 0, .null, .null]))]) := hD
  refine lv_aload_n hx hb dX1_init_37 rfl (lv_at hl 0 rfl) ?_
  refine lv_iconst (v := 0) hx hb dX1_init_38 (by decide) ?_
  refine va_put (ci := 1) (v := .int 0) (ty := .int) (C := RX1) (T := TX1) (N := 13) hx hb hts hiX1 tyX1 tyX1_ok nmX1 hown hK.1 hP hD hS 0 rfl rfl 5 (by decide) f8 (fun _ h9 => h9) rfl (by decide +kernel) rfl rfl (Nat.le_of_ble_eq_true rfl) dX1_init_39 (fun H locs hP hD hS => ?_)
  have hP : va_P D vwCl ([(h0, .inr (1, [.int 1000, .int 9, .int 25, .int 400, .int 1200, .int 0, .int 0, .int 0, .int 0, .int 0, .int 0, .null, .null]))]) H := hP
  have hD : va_D (va_A ([(h0, .inr (1, [.int 0, .int 0, .int 0, .int 0, .int 0, .int 0, .int 0, .int 0, .int 0, .int 0, .int 0, .null, .null]))]) sz) ([(h0, .inr (1, [.int 1000, .int 9, .int 25, .int 400, .int 1200, .int 0, .int 0, .int 0, .int 0, .int 0, .int 0, .null, .null]))]) := hD
  refine lv_aload_n hx hb dX1_init_42 rfl (lv_at hl 0 rfl) ?_
  refine lv_sipush (v := 2000) hx hb dX1_init_43 (by decide) ?_
  refine va_put (ci := 1) (v := .int 2000) (ty := .int) (C := RX1) (T := TX1) (N := 13) hx hb hts hiX1 tyX1 tyX1_ok nmX1 hown hK.1 hP hD hS 0 rfl rfl 6 (by decide) f9 (fun _ h9 => h9) rfl (by decide +kernel) rfl rfl (Nat.le_of_ble_eq_true rfl) dX1_init_46 (fun H locs hP hD hS => ?_)
  have hP : va_P D vwCl ([(h0, .inr (1, [.int 1000, .int 9, .int 25, .int 400, .int 1200, .int 0, .int 2000, .int 0, .int 0, .int 0, .int 0, .null, .null]))]) H := hP
  have hD : va_D (va_A ([(h0, .inr (1, [.int 0, .int 0, .int 0, .int 0, .int 0, .int 0, .int 0, .int 0, .int 0, .int 0, .int 0, .null, .null]))]) sz) ([(h0, .inr (1, [.int 1000, .int 9, .int 25, .int 400, .int 1200, .int 0, .int 2000, .int 0, .int 0, .int 0, .int 0, .null, .null]))]) := hD
  refine lv_aload_n hx hb dX1_init_49 rfl (lv_at hl 0 rfl) ?_
  refine lv_sipush (v := 8000) hx hb dX1_init_50 (by decide) ?_
  refine va_put (ci := 1) (v := .int 8000) (ty := .int) (C := RX1) (T := TX1) (N := 13) hx hb hts hiX1 tyX1 tyX1_ok nmX1 hown hK.1 hP hD hS 0 rfl rfl 7 (by decide) f10 (fun _ h9 => h9) rfl (by decide +kernel) rfl rfl (Nat.le_of_ble_eq_true rfl) dX1_init_53 (fun H locs hP hD hS => ?_)
  have hP : va_P D vwCl ([(h0, .inr (1, [.int 1000, .int 9, .int 25, .int 400, .int 1200, .int 0, .int 2000, .int 8000, .int 0, .int 0, .int 0, .null, .null]))]) H := hP
  have hD : va_D (va_A ([(h0, .inr (1, [.int 0, .int 0, .int 0, .int 0, .int 0, .int 0, .int 0, .int 0, .int 0, .int 0, .int 0, .null, .null]))]) sz) ([(h0, .inr (1, [.int 1000, .int 9, .int 25, .int 400, .int 1200, .int 0, .int 2000, .int 8000, .int 0, .int 0, .int 0, .null, .null]))]) := hD
  refine lv_aload_n hx hb dX1_init_56 rfl (lv_at hl 0 rfl) ?_
  refine va_new (ci := 0) (fs := [.int 0, .null, .null, .int 0, .int 0, .long 0]) (C := RX0) (T := TX0) (N := 6) hx hb hts hiX0 tyX0 tyX0_ok hown f11 f12 f13 hK.1 hP hD hS hA rfl (fun j hj => by rcases (show j = 0 ∨ j = 1 ∨ j = 2 ∨ j = 3 ∨ j = 4 ∨ j = 5 by omega) with rfl | rfl | rfl | rfl | rfl | rfl <;> rfl) (Nat.le_of_ble_eq_true rfl) (Nat.le_of_ble_eq_true rfl) dX1_init_57 (fun q1 H hP hD hS => ?_)
  have hP : va_P D vwCl ([(h0, .inr (1, [.int 1000, .int 9, .int 25, .int 400, .int 1200, .int 0, .int 2000, .int 8000, .int 0, .int 0, .int 0, .null, .null]))] ++ [(q1, .inr (0, [.int 0, .null, .null, .int 0, .int 0, .long 0]))]) H := hP
  have hD : va_D (va_A ([(h0, .inr (1, [.int 0, .int 0, .int 0, .int 0, .int 0, .int 0, .int 0, .int 0, .int 0, .int 0, .int 0, .null, .null]))]) sz) ([(h0, .inr (1, [.int 1000, .int 9, .int 25, .int 400, .int 1200, .int 0, .int 2000, .int 8000, .int 0, .int 0, .int 0, .null, .null]))] ++ [(q1, .inr (0, [.int 0, .null, .null, .int 0, .int 0, .long 0]))]) := hD
  refine lv_dup hx hb dX1_init_60 rfl ?_
  refine lv_iconst (v := 1) hx hb dX1_init_61 (by decide) ?_
  have hPc := va_P.mid (X := [(h0, .inr (1, [.int 1000, .int 9, .int 25, .int 400, .int 1200, .int 0, .int 2000, .int 8000, .int 0, .int 0, .int 0, .null, .null]))]) (wc := [(q1, .inr (0, [.int 0, .null, .null, .int 0, .int 0, .long 0]))]) (Y := []) hP
  have hDc := va_D.mid (X := [(h0, .inr (1, [.int 1000, .int 9, .int 25, .int 400, .int 1200, .int 0, .int 2000, .int 8000, .int 0, .int 0, .int 0, .null, .null]))]) (wc := [(q1, .inr (0, [.int 0, .null, .null, .int 0, .int 0, .long 0]))]) (Y := []) hD
  refine mc_v ([(h0, .inr (1, [.int 1000, .int 9, .int 25, .int 400, .int 1200, .int 0, .int 2000, .int 8000, .int 0, .int 0, .int 0, .null, .null]))]) ([]) (mv_I (As := [.int 1]) (rest := [.ref q1, .ref h0]) ⟨hx, hb, hml, hown, hts⟩ (kX0_init_1 l D I O q1 H.size _ hw) (cwI 1 hts gX1_init_X0_init rfl rfl rfl f13 f14 f15 rfl hdSX0_init ⟨(Nat.le_of_ble_eq_true rfl), (Nat.le_of_ble_eq_true rfl)⟩) hK hPc hDc rfl hl.1 rfl (Nat.le_of_ble_eq_true rfl) dX1_init_62 ⟨(Nat.le_of_ble_eq_true rfl), (Nat.le_of_ble_eq_true rfl)⟩) hP hD hS hA (fun u2 H locs hw hP hD hS => ?_)
  obtain ⟨du2, u2⟩ := u2
  have hP : va_P D vwCl ([(h0, .inr (1, [.int 1000, .int 9, .int 25, .int 400, .int 1200, .int 0, .int 2000, .int 8000, .int 0, .int 0, .int 0, .null, .null]))] ++ colB I (q1, du2.1, du2.2) u2) H := hP
  have hD : va_D (va_A ([(h0, .inr (1, [.int 0, .int 0, .int 0, .int 0, .int 0, .int 0, .int 0, .int 0, .int 0, .int 0, .int 0, .null, .null]))]) sz) ([(h0, .inr (1, [.int 1000, .int 9, .int 25, .int 400, .int 1200, .int 0, .int 2000, .int 8000, .int 0, .int 0, .int 0, .null, .null]))] ++ colB I (q1, du2.1, du2.2) u2) := hD
  refine va_putF (ci := 1) (v := .ref q1) (ty := .object "WellControl$Column") (C := RX1) (T := TX1) (N := 13) hx hb hts hiX1 tyX1 tyX1_ok nmX1 hown hK.1 hP hD hS 0 rfl rfl 11 (by decide) f16 (fun _ h9 => h9) rfl hnm rfl (by decide +kernel) rfl rfl (Nat.le_of_ble_eq_true rfl) dX1_init_65 (fun H locs hP hD hS => ?_)
  have hP : va_P D vwCl ([(h0, .inr (1, [.int 1000, .int 9, .int 25, .int 400, .int 1200, .int 0, .int 2000, .int 8000, .int 0, .int 0, .int 0, .ref q1, .null]))] ++ colB I (q1, du2.1, du2.2) u2) H := hP
  have hD : va_D (va_A ([(h0, .inr (1, [.int 0, .int 0, .int 0, .int 0, .int 0, .int 0, .int 0, .int 0, .int 0, .int 0, .int 0, .null, .null]))]) sz) ([(h0, .inr (1, [.int 1000, .int 9, .int 25, .int 400, .int 1200, .int 0, .int 2000, .int 8000, .int 0, .int 0, .int 0, .ref q1, .null]))] ++ colB I (q1, du2.1, du2.2) u2) := hD
  refine lv_aload_n hx hb dX1_init_68 rfl (lv_at hl 0 rfl) ?_
  refine va_new (ci := 0) (fs := [.int 0, .null, .null, .int 0, .int 0, .long 0]) (C := RX0) (T := TX0) (N := 6) hx hb hts hiX0 tyX0 tyX0_ok hown f11 f12 f13 hK.1 hP hD hS hA rfl (fun j hj => by rcases (show j = 0 ∨ j = 1 ∨ j = 2 ∨ j = 3 ∨ j = 4 ∨ j = 5 by omega) with rfl | rfl | rfl | rfl | rfl | rfl <;> rfl) (Nat.le_of_ble_eq_true rfl) (Nat.le_of_ble_eq_true rfl) dX1_init_69 (fun q3 H hP hD hS => ?_)
  have hP : va_P D vwCl ([(h0, .inr (1, [.int 1000, .int 9, .int 25, .int 400, .int 1200, .int 0, .int 2000, .int 8000, .int 0, .int 0, .int 0, .ref q1, .null]))] ++ (colB I (q1, du2.1, du2.2) u2 ++ [(q3, .inr (0, [.int 0, .null, .null, .int 0, .int 0, .long 0]))])) H := hP
  have hD : va_D (va_A ([(h0, .inr (1, [.int 0, .int 0, .int 0, .int 0, .int 0, .int 0, .int 0, .int 0, .int 0, .int 0, .int 0, .null, .null]))]) sz) ([(h0, .inr (1, [.int 1000, .int 9, .int 25, .int 400, .int 1200, .int 0, .int 2000, .int 8000, .int 0, .int 0, .int 0, .ref q1, .null]))] ++ (colB I (q1, du2.1, du2.2) u2 ++ [(q3, .inr (0, [.int 0, .null, .null, .int 0, .int 0, .long 0]))])) := hD
  refine lv_dup hx hb dX1_init_72 rfl ?_
  refine lv_iconst (v := 0) hx hb dX1_init_73 (by decide) ?_
  have hPc := va_P.mid (X := [(h0, .inr (1, [.int 1000, .int 9, .int 25, .int 400, .int 1200, .int 0, .int 2000, .int 8000, .int 0, .int 0, .int 0, .ref q1, .null]))] ++ colB I (q1, du2.1, du2.2) u2) (wc := [(q3, .inr (0, [.int 0, .null, .null, .int 0, .int 0, .long 0]))]) (Y := []) hP
  have hDc := va_D.mid (X := [(h0, .inr (1, [.int 1000, .int 9, .int 25, .int 400, .int 1200, .int 0, .int 2000, .int 8000, .int 0, .int 0, .int 0, .ref q1, .null]))] ++ colB I (q1, du2.1, du2.2) u2) (wc := [(q3, .inr (0, [.int 0, .null, .null, .int 0, .int 0, .long 0]))]) (Y := []) hD
  refine mc_v ([(h0, .inr (1, [.int 1000, .int 9, .int 25, .int 400, .int 1200, .int 0, .int 2000, .int 8000, .int 0, .int 0, .int 0, .ref q1, .null]))] ++ colB I (q1, du2.1, du2.2) u2) ([]) (mv_I (As := [.int 0]) (rest := [.ref q3, .ref h0]) ⟨hx, hb, hml, hown, hts⟩ (kX0_init_0 l D I O q3 H.size _ hw) (cwI 1 hts gX1_init_X0_init rfl rfl rfl f13 f14 f15 rfl hdSX0_init ⟨(Nat.le_of_ble_eq_true rfl), (Nat.le_of_ble_eq_true rfl)⟩) hK hPc hDc rfl hl.1 rfl (Nat.le_of_ble_eq_true rfl) dX1_init_74 ⟨(Nat.le_of_ble_eq_true rfl), (Nat.le_of_ble_eq_true rfl)⟩) hP hD hS hA (fun u4 H locs hw hP hD hS => ?_)
  obtain ⟨du4, u4⟩ := u4
  have hP : va_P D vwCl ([(h0, .inr (1, [.int 1000, .int 9, .int 25, .int 400, .int 1200, .int 0, .int 2000, .int 8000, .int 0, .int 0, .int 0, .ref q1, .null]))] ++ (colB I (q1, du2.1, du2.2) u2 ++ colB I (q3, du4.1, du4.2) u4)) H := hP
  have hD : va_D (va_A ([(h0, .inr (1, [.int 0, .int 0, .int 0, .int 0, .int 0, .int 0, .int 0, .int 0, .int 0, .int 0, .int 0, .null, .null]))]) sz) ([(h0, .inr (1, [.int 1000, .int 9, .int 25, .int 400, .int 1200, .int 0, .int 2000, .int 8000, .int 0, .int 0, .int 0, .ref q1, .null]))] ++ (colB I (q1, du2.1, du2.2) u2 ++ colB I (q3, du4.1, du4.2) u4)) := hD
  refine va_putF (ci := 1) (v := .ref q3) (ty := .object "WellControl$Column") (C := RX1) (T := TX1) (N := 13) hx hb hts hiX1 tyX1 tyX1_ok nmX1 hown hK.1 hP hD hS 0 rfl rfl 12 (by decide) f17 (fun _ h9 => h9) rfl hnm rfl (by decide +kernel) rfl rfl (Nat.le_of_ble_eq_true rfl) dX1_init_77 (fun H locs hP hD hS => ?_)
  have hP : va_P D vwCl ([(h0, .inr (1, [.int 1000, .int 9, .int 25, .int 400, .int 1200, .int 0, .int 2000, .int 8000, .int 0, .int 0, .int 0, .ref q1, .ref q3]))] ++ (colB I (q1, du2.1, du2.2) u2 ++ colB I (q3, du4.1, du4.2) u4)) H := hP
  have hD : va_D (va_A ([(h0, .inr (1, [.int 0, .int 0, .int 0, .int 0, .int 0, .int 0, .int 0, .int 0, .int 0, .int 0, .int 0, .null, .null]))]) sz) ([(h0, .inr (1, [.int 1000, .int 9, .int 25, .int 400, .int 1200, .int 0, .int 2000, .int 8000, .int 0, .int 0, .int 0, .ref q1, .ref q3]))] ++ (colB I (q1, du2.1, du2.2) u2 ++ colB I (q3, du4.1, du4.2) u4)) := hD
  refine lv_aload_n hx hb dX1_init_80 rfl (lv_at hl 0 rfl) ?_
  have hP : va_P D vwCl (welB I (h0, (q1, du2.1, du2.2), (q3, du4.1, du4.2)) (1000, 9, 25, 400, 1200, 0, 2000, 8000, 0, 0, 0, u2, u4)) H := hP
  have hD : va_D (va_A ([(h0, .inr (1, [.int 0, .int 0, .int 0, .int 0, .int 0, .int 0, .int 0, .int 0, .int 0, .int 0, .int 0, .null, .null]))]) sz) (welB I (h0, (q1, du2.1, du2.2), (q3, du4.1, du4.2)) (1000, 9, 25, 400, 1200, 0, 2000, 8000, 0, 0, 0, u2, u4)) := hD
  refine mw_v (mv_V (As := []) (rest := []) ⟨hx, hb, hml, hown, hts⟩ (kX1_startAnew l D I O (h0, (q1, du2.1, du2.2), (q3, du4.1, du4.2)) H.size (1000, 9, 25, 400, 1200, 0, 2000, 8000, 0, 0, 0, u2, u4) _ hw) (cwV 0 hts gX1_init_X1_startAnew rfl rfl rfl hdVX1_startAnew ⟨(Nat.le_of_ble_eq_true rfl), (Nat.le_of_ble_eq_true rfl)⟩) hK hP hD 0 1 rfl rfl rfl rfl hl.1 rfl (Nat.le_of_ble_eq_true rfl) dX1_init_81 ⟨(Nat.le_of_ble_eq_true rfl), (Nat.le_of_ble_eq_true rfl)⟩) hP hD hS hA (fun u5 H locs hw hP hD hS => ?_)
  have hP : va_P D vwCl (welB I (h0, (q1, du2.1, du2.2), (q3, du4.1, du4.2)) u5) H := hP
  have hD : va_D (va_A ([(h0, .inr (1, [.int 0, .int 0, .int 0, .int 0, .int 0, .int 0, .int 0, .int 0, .int 0, .int 0, .int 0, .null, .null]))]) sz) (welB I (h0, (q1, du2.1, du2.2), (q3, du4.1, du4.2)) u5) := hD
  exact m_vret (u := (((q1, du2.1, du2.2), (q3, du4.1, du4.2)), u5)) hx hb hr hlocks hS hP hD dX1_init_84 hw
def qX3_init (Q : Mod → Prop) : Prop := (qX3_fill (upd (upd (upd (upd (upd (upd (upd (fun _ => 0) (Int32.toNatClampNeg 0) 1000) (Int32.toNatClampNeg 1) 9) (Int32.toNatClampNeg 2) 25) (Int32.toNatClampNeg 3) 400) (Int32.toNatClampNeg 4) 1200) (Int32.toNatClampNeg 6) 2000) (Int32.toNatClampNeg 7) 8000, fun _ => 0, fun _ => 0, 0, fun _ => 0, 0) (fun u5 => Q u5))
set_option maxHeartbeats 4000000 in
set_option maxRecDepth 100000 in
theorem kX3_init (l : Launch) (D : va_G) (I O : ClassId) (h0 : Nat) (sz : Nat) (Q : Mod → Prop) (hw : qX3_init Q) : Met l yX3_init wsX3_init rX3_init (mPc D I O [.ref h0] ([(h0, .inr (3, [.null, .null, .null, .int 0, .null, .long 0]))]) sz) (va_Qv (fun (u : (Nat × Nat × Nat × Nat) × Mod) => Q u.2) (mB D (va_A ([(h0, .inr (3, [.null, .null, .null, .int 0, .null, .long 0]))]) sz) (fun u => mdlW I (h0, u.1) u.2)) (va_A ([(h0, .inr (3, [.null, .null, .null, .int 0, .null, .long 0]))]) sz)) 4 26500 (va_A ([(h0, .inr (3, [.null, .null, .null, .int 0, .null, .long 0]))]) sz) := by
  refine m_start (by decide) rfl (Nat.le_of_ble_eq_true rfl) (fun p e s m below meth c ls H locs hx hb hr hml hts hown hlocks hnm hK hP hD hA hS hl => ?_)
  have hown : s.vm.findClass RX3 = some m.cls := hown
  have hl : lv_has ls 1 [(0, .ref h0)] := hl
  have hiX3 : ∀ w ∈ wsX30, w ∈ wsX3_init := by decide +kernel
  have f0 := hts (.methodLink RX3 1 objectInit) (by decide +kernel)
  have f1 := hts (.instanceMethod objectInit) (by decide +kernel)
  have f2 := hts (.code objectInit ⟨#[0xb1]⟩ 1 none) (by decide +kernel)
  have f3 := hts (.arrayClass .int) (by decide +kernel)
  have f4 := hts (.fieldLink RX3 7 "WellControlModel" "now" "[I") (by decide +kernel)
  have f5 := hts (.fieldLink RX3 13 "WellControlModel" "aside" "[I") (by decide +kernel)
  have f6 := hts (.fieldLink RX3 16 "WellControlModel" "past" "[I") (by decide +kernel)
  have f7 := hts (.fieldLink RX3 19 "WellControlModel" "errors" "[I") (by decide +kernel)
  unfold qX3_init at hw
  refine lv_aload_n hx hb dX3_init_0 rfl (lv_at hl 0 rfl) ?_
  refine W.objInit hx hb hown f0 f1 f2 rfl (by rw [hml]; exact hl.1) rfl dX3_init_1 (Nat.le_of_ble_eq_true rfl) (Nat.le_of_ble_eq_true rfl) ?_
  refine W.eq (g2 := F0 m 4 ls []) rfl ?_
  refine lv_aload_n hx hb dX3_init_4 rfl (lv_at hl 0 rfl) ?_
  refine lv_sipush (v := 4416) hx hb dX3_init_5 (by decide) ?_
  refine m_newI (n := 4416) (N := 4416) hx hb f3 hK hP hD hS hA (by decide) (by decide) (Nat.le_of_ble_eq_true rfl) (Nat.le_of_ble_eq_true rfl) (Nat.le_of_ble_eq_true rfl) dX3_init_8 (fun q1 H hP hD hS => ?_)
  have hP : va_P D vwCl ([(h0, .inr (3, [.null, .null, .null, .int 0, .null, .long 0]))] ++ [(q1, .inl (I, 4416, .inl (fun _ => 0)))]) H := hP
  have hD : va_D (va_A ([(h0, .inr (3, [.null, .null, .null, .int 0, .null, .long 0]))]) sz) ([(h0, .inr (3, [.null, .null, .null, .int 0, .null, .long 0]))] ++ [(q1, .inl (I, 4416, .inl (fun _ => 0)))]) := hD
  refine va_putF (ci := 3) (v := .ref q1) (ty := .array .int) (C := RX3) (T := TX3) (N := 6) hx hb hts hiX3 tyX3 tyX3_ok nmX3 hown hK.1 hP hD hS 0 rfl rfl 0 (by decide) f4 (fun _ h9 => h9) rfl hnm rfl (by decide +kernel) rfl rfl (Nat.le_of_ble_eq_true rfl) dX3_init_10 (fun H locs hP hD hS => ?_)
  have hP : va_P D vwCl ([(h0, .inr (3, [.ref q1, .null, .null, .int 0, .null, .long 0]))] ++ [(q1, .inl (I, 4416, .inl (fun _ => 0)))]) H := hP
  have hD : va_D (va_A ([(h0, .inr (3, [.null, .null, .null, .int 0, .null, .long 0]))]) sz) ([(h0, .inr (3, [.ref q1, .null, .null, .int 0, .null, .long 0]))] ++ [(q1, .inl (I, 4416, .inl (fun _ => 0)))]) := hD
  refine lv_aload_n hx hb dX3_init_13 rfl (lv_at hl 0 rfl) ?_
  refine lv_sipush (v := 4416) hx hb dX3_init_14 (by decide) ?_
  refine m_newI (n := 4416) (N := 4416) hx hb f3 hK hP hD hS hA (by decide) (by decide) (Nat.le_of_ble_eq_true rfl) (Nat.le_of_ble_eq_true rfl) (Nat.le_of_ble_eq_true rfl) dX3_init_17 (fun q2 H hP hD hS => ?_)
  have hP : va_P D vwCl ([(h0, .inr (3, [.ref q1, .null, .null, .int 0, .null, .long 0]))] ++ ([(q1, .inl (I, 4416, .inl (fun _ => 0)))] ++ [(q2, .inl (I, 4416, .inl (fun _ => 0)))])) H := hP
  have hD : va_D (va_A ([(h0, .inr (3, [.null, .null, .null, .int 0, .null, .long 0]))]) sz) ([(h0, .inr (3, [.ref q1, .null, .null, .int 0, .null, .long 0]))] ++ ([(q1, .inl (I, 4416, .inl (fun _ => 0)))] ++ [(q2, .inl (I, 4416, .inl (fun _ => 0)))])) := hD
  refine va_putF (ci := 3) (v := .ref q2) (ty := .array .int) (C := RX3) (T := TX3) (N := 6) hx hb hts hiX3 tyX3 tyX3_ok nmX3 hown hK.1 hP hD hS 0 rfl rfl 1 (by decide) f5 (fun _ h9 => h9) rfl hnm rfl (by decide +kernel) rfl rfl (Nat.le_of_ble_eq_true rfl) dX3_init_19 (fun H locs hP hD hS => ?_)
  have hP : va_P D vwCl ([(h0, .inr (3, [.ref q1, .ref q2, .null, .int 0, .null, .long 0]))] ++ ([(q1, .inl (I, 4416, .inl (fun _ => 0)))] ++ [(q2, .inl (I, 4416, .inl (fun _ => 0)))])) H := hP
  have hD : va_D (va_A ([(h0, .inr (3, [.null, .null, .null, .int 0, .null, .long 0]))]) sz) ([(h0, .inr (3, [.ref q1, .ref q2, .null, .int 0, .null, .long 0]))] ++ ([(q1, .inl (I, 4416, .inl (fun _ => 0)))] ++ [(q2, .inl (I, 4416, .inl (fun _ => 0)))])) := hD
  refine lv_aload_n hx hb dX3_init_22 rfl (lv_at hl 0 rfl) ?_
  refine lv_sipush (v := 17664) hx hb dX3_init_23 (by decide) ?_
  refine m_newI (n := 17664) (N := 17664) hx hb f3 hK hP hD hS hA (by decide) (by decide) (Nat.le_of_ble_eq_true rfl) (Nat.le_of_ble_eq_true rfl) (Nat.le_of_ble_eq_true rfl) dX3_init_26 (fun q3 H hP hD hS => ?_)
  have hP : va_P D vwCl ([(h0, .inr (3, [.ref q1, .ref q2, .null, .int 0, .null, .long 0]))] ++ ([(q1, .inl (I, 4416, .inl (fun _ => 0)))] ++ ([(q2, .inl (I, 4416, .inl (fun _ => 0)))] ++ [(q3, .inl (I, 17664, .inl (fun _ => 0)))]))) H := hP
  have hD : va_D (va_A ([(h0, .inr (3, [.null, .null, .null, .int 0, .null, .long 0]))]) sz) ([(h0, .inr (3, [.ref q1, .ref q2, .null, .int 0, .null, .long 0]))] ++ ([(q1, .inl (I, 4416, .inl (fun _ => 0)))] ++ ([(q2, .inl (I, 4416, .inl (fun _ => 0)))] ++ [(q3, .inl (I, 17664, .inl (fun _ => 0)))]))) := hD
  refine va_putF (ci := 3) (v := .ref q3) (ty := .array .int) (C := RX3) (T := TX3) (N := 6) hx hb hts hiX3 tyX3 tyX3_ok nmX3 hown hK.1 hP hD hS 0 rfl rfl 2 (by decide) f6 (fun _ h9 => h9) rfl hnm rfl (by decide +kernel) rfl rfl (Nat.le_of_ble_eq_true rfl) dX3_init_28 (fun H locs hP hD hS => ?_)
  have hP : va_P D vwCl ([(h0, .inr (3, [.ref q1, .ref q2, .ref q3, .int 0, .null, .long 0]))] ++ ([(q1, .inl (I, 4416, .inl (fun _ => 0)))] ++ ([(q2, .inl (I, 4416, .inl (fun _ => 0)))] ++ [(q3, .inl (I, 17664, .inl (fun _ => 0)))]))) H := hP
  have hD : va_D (va_A ([(h0, .inr (3, [.null, .null, .null, .int 0, .null, .long 0]))]) sz) ([(h0, .inr (3, [.ref q1, .ref q2, .ref q3, .int 0, .null, .long 0]))] ++ ([(q1, .inl (I, 4416, .inl (fun _ => 0)))] ++ ([(q2, .inl (I, 4416, .inl (fun _ => 0)))] ++ [(q3, .inl (I, 17664, .inl (fun _ => 0)))]))) := hD
  refine lv_aload_n hx hb dX3_init_31 rfl (lv_at hl 0 rfl) ?_
  refine lv_iconst (v := 4) hx hb dX3_init_32 (by decide) ?_
  refine m_newI (n := 4) (N := 4) hx hb f3 hK hP hD hS hA (by decide) (by decide) (Nat.le_of_ble_eq_true rfl) (Nat.le_of_ble_eq_true rfl) (Nat.le_of_ble_eq_true rfl) dX3_init_33 (fun q4 H hP hD hS => ?_)
  have hP : va_P D vwCl ([(h0, .inr (3, [.ref q1, .ref q2, .ref q3, .int 0, .null, .long 0]))] ++ ([(q1, .inl (I, 4416, .inl (fun _ => 0)))] ++ ([(q2, .inl (I, 4416, .inl (fun _ => 0)))] ++ ([(q3, .inl (I, 17664, .inl (fun _ => 0)))] ++ [(q4, .inl (I, 4, .inl (fun _ => 0)))])))) H := hP
  have hD : va_D (va_A ([(h0, .inr (3, [.null, .null, .null, .int 0, .null, .long 0]))]) sz) ([(h0, .inr (3, [.ref q1, .ref q2, .ref q3, .int 0, .null, .long 0]))] ++ ([(q1, .inl (I, 4416, .inl (fun _ => 0)))] ++ ([(q2, .inl (I, 4416, .inl (fun _ => 0)))] ++ ([(q3, .inl (I, 17664, .inl (fun _ => 0)))] ++ [(q4, .inl (I, 4, .inl (fun _ => 0)))])))) := hD
  refine va_putF (ci := 3) (v := .ref q4) (ty := .array .int) (C := RX3) (T := TX3) (N := 6) hx hb hts hiX3 tyX3 tyX3_ok nmX3 hown hK.1 hP hD hS 0 rfl rfl 4 (by decide) f7 (fun _ h9 => h9) rfl hnm rfl (by decide +kernel) rfl rfl (Nat.le_of_ble_eq_true rfl) dX3_init_35 (fun H locs hP hD hS => ?_)
  have hP : va_P D vwCl ([(h0, .inr (3, [.ref q1, .ref q2, .ref q3, .int 0, .ref q4, .long 0]))] ++ ([(q1, .inl (I, 4416, .inl (fun _ => 0)))] ++ ([(q2, .inl (I, 4416, .inl (fun _ => 0)))] ++ ([(q3, .inl (I, 17664, .inl (fun _ => 0)))] ++ [(q4, .inl (I, 4, .inl (fun _ => 0)))])))) H := hP
  have hD : va_D (va_A ([(h0, .inr (3, [.null, .null, .null, .int 0, .null, .long 0]))]) sz) ([(h0, .inr (3, [.ref q1, .ref q2, .ref q3, .int 0, .ref q4, .long 0]))] ++ ([(q1, .inl (I, 4416, .inl (fun _ => 0)))] ++ ([(q2, .inl (I, 4416, .inl (fun _ => 0)))] ++ ([(q3, .inl (I, 17664, .inl (fun _ => 0)))] ++ [(q4, .inl (I, 4, .inl (fun _ => 0)))])))) := hD
  refine lv_aload_n hx hb dX3_init_38 rfl (lv_at hl 0 rfl) ?_
  refine va_get (ci := 3) (v := .ref q1) (C := RX3) (T := TX3) (N := 6) hx hb hts hiX3 hown hK.1 hP 0 rfl rfl 0 (by decide) f4 (fun _ h9 => h9) rfl dX3_init_39 ?_
  refine lv_iconst (v := 0) hx hb dX3_init_42 (by decide) ?_
  refine lv_sipush (v := 1000) hx hb dX3_init_43 (by decide) ?_
  refine va_iast hx hb hK.1 hP hD hS 1 0 rfl rfl (vp_c 0 4416 (by decide)) dX3_init_46 (fun H locs hP hD hS => ?_)
  have hP : va_P D vwCl ([(h0, .inr (3, [.ref q1, .ref q2, .ref q3, .int 0, .ref q4, .long 0]))] ++ ([(q1, .inl (I, 4416, .inl (upd (fun _ => 0) (Int32.toNatClampNeg 0) 1000)))] ++ ([(q2, .inl (I, 4416, .inl (fun _ => 0)))] ++ ([(q3, .inl (I, 17664, .inl (fun _ => 0)))] ++ [(q4, .inl (I, 4, .inl (fun _ => 0)))])))) H := hP
  have hD : va_D (va_A ([(h0, .inr (3, [.null, .null, .null, .int 0, .null, .long 0]))]) sz) ([(h0, .inr (3, [.ref q1, .ref q2, .ref q3, .int 0, .ref q4, .long 0]))] ++ ([(q1, .inl (I, 4416, .inl (upd (fun _ => 0) (Int32.toNatClampNeg 0) 1000)))] ++ ([(q2, .inl (I, 4416, .inl (fun _ => 0)))] ++ ([(q3, .inl (I, 17664, .inl (fun _ => 0)))] ++ [(q4, .inl (I, 4, .inl (fun _ => 0)))])))) := hD
  refine lv_aload_n hx hb dX3_init_47 rfl (lv_at hl 0 rfl) ?_
  refine va_get (ci := 3) (v := .ref q1) (C := RX3) (T := TX3) (N := 6) hx hb hts hiX3 hown hK.1 hP 0 rfl rfl 0 (by decide) f4 (fun _ h9 => h9) rfl dX3_init_48 ?_
  refine lv_iconst (v := 1) hx hb dX3_init_51 (by decide) ?_
  refine lv_bipush (v := 9) hx hb dX3_init_52 (by decide) ?_
  refine va_iast hx hb hK.1 hP hD hS 1 0 rfl rfl (vp_c 1 4416 (by decide)) dX3_init_54 (fun H locs hP hD hS => ?_)
  have hP : va_P D vwCl ([(h0, .inr (3, [.ref q1, .ref q2, .ref q3, .int 0, .ref q4, .long 0]))] ++ ([(q1, .inl (I, 4416, .inl (upd (upd (fun _ => 0) (Int32.toNatClampNeg 0) 1000) (Int32.toNatClampNeg 1) 9)))] ++ ([(q2, .inl (I, 4416, .inl (fun _ => 0)))] ++ ([(q3, .inl (I, 17664, .inl (fun _ => 0)))] ++ [(q4, .inl (I, 4, .inl (fun _ => 0)))])))) H := hP
  have hD : va_D (va_A ([(h0, .inr (3, [.null, .null, .null, .int 0, .null, .long 0]))]) sz) ([(h0, .inr (3, [.ref q1, .ref q2, .ref q3, .int 0, .ref q4, .long 0]))] ++ ([(q1, .inl (I, 4416, .inl (upd (upd (fun _ => 0) (Int32.toNatClampNeg 0) 1000) (Int32.toNatClampNeg 1) 9)))] ++ ([(q2, .inl (I, 4416, .inl (fun _ => 0)))] ++ ([(q3, .inl (I, 17664, .inl (fun _ => 0)))] ++ [(q4, .inl (I, 4, .inl (fun _ => 0)))])))) := hD
  refine lv_aload_n hx hb dX3_init_55 rfl (lv_at hl 0 rfl) ?_
  refine va_get (ci := 3) (v := .ref q1) (C := RX3) (T := TX3) (N := 6) hx hb hts hiX3 hown hK.1 hP 0 rfl rfl 0 (by decide) f4 (fun _ h9 => h9) rfl dX3_init_56 ?_
  refine lv_iconst (v := 2) hx hb dX3_init_59 (by decide) ?_
  refine lv_bipush (v := 25) hx hb dX3_init_60 (by decide) ?_
  refine va_iast hx hb hK.1 hP hD hS 1 0 rfl rfl (vp_c 2 4416 (by decide)) dX3_init_62 (fun H locs hP hD hS => ?_)
  have hP : va_P D vwCl ([(h0, .inr (3, [.ref q1, .ref q2, .ref q3, .int 0, .ref q4, .long 0]))] ++ ([(q1, .inl (I, 4416, .inl (upd (upd (upd (fun _ => 0) (Int32.toNatClampNeg 0) 1000) (Int32.toNatClampNeg 1) 9) (Int32.toNatClampNeg 2) 25)))] ++ ([(q2, .inl (I, 4416, .inl (fun _ => 0)))] ++ ([(q3, .inl (I, 17664, .inl (fun _ => 0)))] ++ [(q4, .inl (I, 4, .inl (fun _ => 0)))])))) H := hP
  have hD : va_D (va_A ([(h0, .inr (3, [.null, .null, .null, .int 0, .null, .long 0]))]) sz) ([(h0, .inr (3, [.ref q1, .ref q2, .ref q3, .int 0, .ref q4, .long 0]))] ++ ([(q1, .inl (I, 4416, .inl (upd (upd (upd (fun _ => 0) (Int32.toNatClampNeg 0) 1000) (Int32.toNatClampNeg 1) 9) (Int32.toNatClampNeg 2) 25)))] ++ ([(q2, .inl (I, 4416, .inl (fun _ => 0)))] ++ ([(q3, .inl (I, 17664, .inl (fun _ => 0)))] ++ [(q4, .inl (I, 4, .inl (fun _ => 0)))])))) := hD
  refine lv_aload_n hx hb dX3_init_63 rfl (lv_at hl 0 rfl) ?_
  refine va_get (ci := 3) (v := .ref q1) (C := RX3) (T := TX3) (N := 6) hx hb hts hiX3 hown hK.1 hP 0 rfl rfl 0 (by decide) f4 (fun _ h9 => h9) rfl dX3_init_64 ?_
  refine lv_iconst (v := 3) hx hb dX3_init_67 (by decide) ?_
  refine lv_sipush (v := 400) hx hb dX3_init_68 (by decide) ?_
  refine va_iast hx hb hK.1 hP hD hS 1 0 rfl rfl (vp_c 3 4416 (by decide)) dX3_init_71 (fun H locs hP hD hS => ?_)
  have hP : va_P D vwCl ([(h0, .inr (3, [.ref q1, .ref q2, .ref q3, .int 0, .ref q4, .long 0]))] ++ ([(q1, .inl (I, 4416, .inl (upd (upd (upd (upd (fun _ => 0) (Int32.toNatClampNeg 0) 1000) (Int32.toNatClampNeg 1) 9) (Int32.toNatClampNeg 2) 25) (Int32.toNatClampNeg 3) 400)))] ++ ([(q2, .inl (I, 4416, .inl (fun _ => 0)))] ++ ([(q3, .inl (I, 17664, .inl (fun _ => 0)))] ++ [(q4, .inl (I, 4, .inl (fun _ => 0)))])))) H := hP
  have hD : va_D (va_A ([(h0, .inr (3, [.null, .null, .null, .int 0, .null, .long 0]))]) sz) ([(h0, .inr (3, [.ref q1, .ref q2, .ref q3, .int 0, .ref q4, .long 0]))] ++ ([(q1, .inl (I, 4416, .inl (upd (upd (upd (upd (fun _ => 0) (Int32.toNatClampNeg 0) 1000) (Int32.toNatClampNeg 1) 9) (Int32.toNatClampNeg 2) 25) (Int32.toNatClampNeg 3) 400)))] ++ ([(q2, .inl (I, 4416, .inl (fun _ => 0)))] ++ ([(q3, .inl (I, 17664, .inl (fun _ => 0)))] ++ [(q4, .inl (I, 4, .inl (fun _ => 0)))])))) := hD
  refine lv_aload_n hx hb dX3_init_72 rfl (lv_at hl 0 rfl) ?_
  refine va_get (ci := 3) (v := .ref q1) (C := RX3) (T := TX3) (N := 6) hx hb hts hiX3 hown hK.1 hP 0 rfl rfl 0 (by decide) f4 (fun _ h9 => h9) rfl dX3_init_73 ?_
  refine lv_iconst (v := 4) hx hb dX3_init_76 (by decide) ?_
  refine lv_sipush (v := 1200) hx hb dX3_init_77 (by decide) ?_
  refine va_iast hx hb hK.1 hP hD hS 1 0 rfl rfl (vp_c 4 4416 (by decide)) dX3_init_80 (fun H locs hP hD hS => ?_)
  have hP : va_P D vwCl ([(h0, .inr (3, [.ref q1, .ref q2, .ref q3, .int 0, .ref q4, .long 0]))] ++ ([(q1, .inl (I, 4416, .inl (upd (upd (upd (upd (upd (fun _ => 0) (Int32.toNatClampNeg 0) 1000) (Int32.toNatClampNeg 1) 9) (Int32.toNatClampNeg 2) 25) (Int32.toNatClampNeg 3) 400) (Int32.toNatClampNeg 4) 1200)))] ++ ([(q2, .inl (I, 4416, .inl (fun _ => 0)))] ++ ([(q3, .inl (I, 17664, .inl (fun _ => 0)))] ++ [(q4, .inl (I, 4, .inl (fun _ => 0)))])))) H := hP
  have hD : va_D (va_A ([(h0, .inr (3, [.null, .null, .null, .int 0, .null, .long 0]))]) sz) ([(h0, .inr (3, [.ref q1, .ref q2, .ref q3, .int 0, .ref q4, .long 0]))] ++ ([(q1, .inl (I, 4416, .inl (upd (upd (upd (upd (upd (fun _ => 0) (Int32.toNatClampNeg 0) 1000) (Int32.toNatClampNeg 1) 9) (Int32.toNatClampNeg 2) 25) (Int32.toNatClampNeg 3) 400) (Int32.toNatClampNeg 4) 1200)))] ++ ([(q2, .inl (I, 4416, .inl (fun _ => 0)))] ++ ([(q3, .inl (I, 17664, .inl (fun _ => 0)))] ++ [(q4, .inl (I, 4, .inl (fun _ => 0)))])))) := hD
  refine lv_aload_n hx hb dX3_init_81 rfl (lv_at hl 0 rfl) ?_
  refine va_get (ci := 3) (v := .ref q1) (C := RX3) (T := TX3) (N := 6) hx hb hts hiX3 hown hK.1 hP 0 rfl rfl 0 (by decide) f4 (fun _ h9 => h9) rfl dX3_init_82 ?_
  refine lv_bipush (v := 6) hx hb dX3_init_85 (by decide) ?_
  refine lv_sipush (v := 2000) hx hb dX3_init_87 (by decide) ?_
  refine va_iast hx hb hK.1 hP hD hS 1 0 rfl rfl (vp_c 6 4416 (by decide)) dX3_init_90 (fun H locs hP hD hS => ?_)
  have hP : va_P D vwCl ([(h0, .inr (3, [.ref q1, .ref q2, .ref q3, .int 0, .ref q4, .long 0]))] ++ ([(q1, .inl (I, 4416, .inl (upd (upd (upd (upd (upd (upd (fun _ => 0) (Int32.toNatClampNeg 0) 1000) (Int32.toNatClampNeg 1) 9) (Int32.toNatClampNeg 2) 25) (Int32.toNatClampNeg 3) 400) (Int32.toNatClampNeg 4) 1200) (Int32.toNatClampNeg 6) 2000)))] ++ ([(q2, .inl (I, 4416, .inl (fun _ => 0)))] ++ ([(q3, .inl (I, 17664, .inl (fun _ => 0)))] ++ [(q4, .inl (I, 4, .inl (fun _ => 0)))])))) H := hP
  have hD : va_D (va_A ([(h0, .inr (3, [.null, .null, .null, .int 0, .null, .long 0]))]) sz) ([(h0, .inr (3, [.ref q1, .ref q2, .ref q3, .int 0, .ref q4, .long 0]))] ++ ([(q1, .inl (I, 4416, .inl (upd (upd (upd (upd (upd (upd (fun _ => 0) (Int32.toNatClampNeg 0) 1000) (Int32.toNatClampNeg 1) 9) (Int32.toNatClampNeg 2) 25) (Int32.toNatClampNeg 3) 400) (Int32.toNatClampNeg 4) 1200) (Int32.toNatClampNeg 6) 2000)))] ++ ([(q2, .inl (I, 4416, .inl (fun _ => 0)))] ++ ([(q3, .inl (I, 17664, .inl (fun _ => 0)))] ++ [(q4, .inl (I, 4, .inl (fun _ => 0)))])))) := hD
  refine lv_aload_n hx hb dX3_init_91 rfl (lv_at hl 0 rfl) ?_
  refine va_get (ci := 3) (v := .ref q1) (C := RX3) (T := TX3) (N := 6) hx hb hts hiX3 hown hK.1 hP 0 rfl rfl 0 (by decide) f4 (fun _ h9 => h9) rfl dX3_init_92 ?_
  refine lv_bipush (v := 7) hx hb dX3_init_95 (by decide) ?_
  refine lv_sipush (v := 8000) hx hb dX3_init_97 (by decide) ?_
  refine va_iast hx hb hK.1 hP hD hS 1 0 rfl rfl (vp_c 7 4416 (by decide)) dX3_init_100 (fun H locs hP hD hS => ?_)
  have hP : va_P D vwCl ([(h0, .inr (3, [.ref q1, .ref q2, .ref q3, .int 0, .ref q4, .long 0]))] ++ ([(q1, .inl (I, 4416, .inl (upd (upd (upd (upd (upd (upd (upd (fun _ => 0) (Int32.toNatClampNeg 0) 1000) (Int32.toNatClampNeg 1) 9) (Int32.toNatClampNeg 2) 25) (Int32.toNatClampNeg 3) 400) (Int32.toNatClampNeg 4) 1200) (Int32.toNatClampNeg 6) 2000) (Int32.toNatClampNeg 7) 8000)))] ++ ([(q2, .inl (I, 4416, .inl (fun _ => 0)))] ++ ([(q3, .inl (I, 17664, .inl (fun _ => 0)))] ++ [(q4, .inl (I, 4, .inl (fun _ => 0)))])))) H := hP
  have hD : va_D (va_A ([(h0, .inr (3, [.null, .null, .null, .int 0, .null, .long 0]))]) sz) ([(h0, .inr (3, [.ref q1, .ref q2, .ref q3, .int 0, .ref q4, .long 0]))] ++ ([(q1, .inl (I, 4416, .inl (upd (upd (upd (upd (upd (upd (upd (fun _ => 0) (Int32.toNatClampNeg 0) 1000) (Int32.toNatClampNeg 1) 9) (Int32.toNatClampNeg 2) 25) (Int32.toNatClampNeg 3) 400) (Int32.toNatClampNeg 4) 1200) (Int32.toNatClampNeg 6) 2000) (Int32.toNatClampNeg 7) 8000)))] ++ ([(q2, .inl (I, 4416, .inl (fun _ => 0)))] ++ ([(q3, .inl (I, 17664, .inl (fun _ => 0)))] ++ [(q4, .inl (I, 4, .inl (fun _ => 0)))])))) := hD
  refine lv_aload_n hx hb dX3_init_101 rfl (lv_at hl 0 rfl) ?_
  have hP := hP.sub (ws' := mdlW I (h0, q1, q2, q3, q4) (upd (upd (upd (upd (upd (upd (upd (fun _ => 0) (Int32.toNatClampNeg 0) 1000) (Int32.toNatClampNeg 1) 9) (Int32.toNatClampNeg 2) 25) (Int32.toNatClampNeg 3) 400) (Int32.toNatClampNeg 4) 1200) (Int32.toNatClampNeg 6) 2000) (Int32.toNatClampNeg 7) 8000, fun _ => 0, fun _ => 0, 0, fun _ => 0, 0)) [0, 4, 2, 1, 3] rfl
  have hD := hD.sub (ws' := mdlW I (h0, q1, q2, q3, q4) (upd (upd (upd (upd (upd (upd (upd (fun _ => 0) (Int32.toNatClampNeg 0) 1000) (Int32.toNatClampNeg 1) 9) (Int32.toNatClampNeg 2) 25) (Int32.toNatClampNeg 3) 400) (Int32.toNatClampNeg 4) 1200) (Int32.toNatClampNeg 6) 2000) (Int32.toNatClampNeg 7) 8000, fun _ => 0, fun _ => 0, 0, fun _ => 0, 0)) [0, 4, 2, 1, 3] (by decide) rfl
  have hP : va_P D vwCl (mdlW I (h0, q1, q2, q3, q4) (upd (upd (upd (upd (upd (upd (upd (fun _ => 0) (Int32.toNatClampNeg 0) 1000) (Int32.toNatClampNeg 1) 9) (Int32.toNatClampNeg 2) 25) (Int32.toNatClampNeg 3) 400) (Int32.toNatClampNeg 4) 1200) (Int32.toNatClampNeg 6) 2000) (Int32.toNatClampNeg 7) 8000, fun _ => 0, fun _ => 0, 0, fun _ => 0, 0)) H := hP
  have hD : va_D (va_A ([(h0, .inr (3, [.null, .null, .null, .int 0, .null, .long 0]))]) sz) (mdlW I (h0, q1, q2, q3, q4) (upd (upd (upd (upd (upd (upd (upd (fun _ => 0) (Int32.toNatClampNeg 0) 1000) (Int32.toNatClampNeg 1) 9) (Int32.toNatClampNeg 2) 25) (Int32.toNatClampNeg 3) 400) (Int32.toNatClampNeg 4) 1200) (Int32.toNatClampNeg 6) 2000) (Int32.toNatClampNeg 7) 8000, fun _ => 0, fun _ => 0, 0, fun _ => 0, 0)) := hD
  refine mw_v (mv_V (As := []) (rest := []) ⟨hx, hb, hml, hown, hts⟩ (kX3_fill l D I O (h0, q1, q2, q3, q4) H.size (upd (upd (upd (upd (upd (upd (upd (fun _ => 0) (Int32.toNatClampNeg 0) 1000) (Int32.toNatClampNeg 1) 9) (Int32.toNatClampNeg 2) 25) (Int32.toNatClampNeg 3) 400) (Int32.toNatClampNeg 4) 1200) (Int32.toNatClampNeg 6) 2000) (Int32.toNatClampNeg 7) 8000, fun _ => 0, fun _ => 0, 0, fun _ => 0, 0) _ hw) (cwV 0 hts gX3_init_X3_fill rfl rfl rfl hdVX3_fill ⟨(Nat.le_of_ble_eq_true rfl), (Nat.le_of_ble_eq_true rfl)⟩) hK hP hD 0 3 rfl rfl rfl rfl hl.1 rfl (Nat.le_of_ble_eq_true rfl) dX3_init_102 ⟨(Nat.le_of_ble_eq_true rfl), (Nat.le_of_ble_eq_true rfl)⟩) hP hD hS hA (fun u5 H locs hw hP hD hS => ?_)
  have hP : va_P D vwCl (mdlW I (h0, q1, q2, q3, q4) u5) H := hP
  have hD : va_D (va_A ([(h0, .inr (3, [.null, .null, .null, .int 0, .null, .long 0]))]) sz) (mdlW I (h0, q1, q2, q3, q4) u5) := hD
  exact m_vret (u := ((q1, q2, q3, q4), u5)) hx hb hr hlocks hS hP hD dX3_init_105 hw
