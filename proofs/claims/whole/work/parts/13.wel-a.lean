def qX1_pipeVolume (x : Wel) (Q : Int32 → Prop) : Prop := Q ((y0 x) * (y1 x))
set_option maxHeartbeats 4000000 in
set_option maxRecDepth 100000 in
theorem kX1_pipeVolume (l : Launch) (D : va_G) (I O : ClassId) (a : WA) (sz : Nat) (x : Wel) (Q : Int32 → Prop) (hw : qX1_pipeVolume x Q) : Met l yX1_pipeVolume wsX1_pipeVolume rX1_pipeVolume (mPc D I O [.ref a.1] (welB I a x) sz) (va_Qi (fun r (_ : Unit) => Q r) (mB D (va_A (welB I a x) sz) (fun _ => welB I a x)) (va_A (welB I a x) sz)) 0 0 (va_A (welB I a x) sz) := by
  refine m_start (by decide) rfl (Nat.le_of_ble_eq_true rfl) (fun p e s m below meth c ls H locs hx hb hr hml hts hown hlocks hnm hK hP hD hA hS hl => ?_)
  have hown : s.vm.findClass RX1 = some m.cls := hown
  have hl : lv_has ls 1 [(0, .ref a.1)] := hl
  have hiX1 : ∀ w ∈ wsX10, w ∈ wsX1_pipeVolume := by decide +kernel
  have f0 := hts (.fieldLink RX1 9 "WellControl$Well" "depth" "I") (by decide +kernel)
  have f1 := hts (.fieldLink RX1 15 "WellControl$Well" "pipeCapacity" "I") (by decide +kernel)
  unfold qX1_pipeVolume at hw
  refine lv_aload_n hx hb dX1_pipeVolume_0 rfl (lv_at hl 0 rfl) ?_
  refine va_get (ci := 1) (v := .int (y0 x)) (C := RX1) (T := TX1) (N := 13) hx hb hts hiX1 hown hK.1 hP 0 rfl rfl 0 (by decide) f0 (fun _ h9 => h9) rfl dX1_pipeVolume_1 ?_
  refine lv_aload_n hx hb dX1_pipeVolume_4 rfl (lv_at hl 0 rfl) ?_
  refine va_get (ci := 1) (v := .int (y1 x)) (C := RX1) (T := TX1) (N := 13) hx hb hts hiX1 hown hK.1 hP 0 rfl rfl 1 (by decide) f1 (fun _ h9 => h9) rfl dX1_pipeVolume_5 ?_
  refine lv_imul hx hb dX1_pipeVolume_8 ?_
  exact m_iret (u := ()) hx hb hr hlocks hS hP hD dX1_pipeVolume_9 hw
def qX1_annulusVolume (x : Wel) (Q : Int32 → Prop) : Prop := Q ((y0 x) * (y2 x))
set_option maxHeartbeats 4000000 in
set_option maxRecDepth 100000 in
theorem kX1_annulusVolume (l : Launch) (D : va_G) (I O : ClassId) (a : WA) (sz : Nat) (x : Wel) (Q : Int32 → Prop) (hw : qX1_annulusVolume x Q) : Met l yX1_annulusVolume wsX1_annulusVolume rX1_annulusVolume (mPc D I O [.ref a.1] (welB I a x) sz) (va_Qi (fun r (_ : Unit) => Q r) (mB D (va_A (welB I a x) sz) (fun _ => welB I a x)) (va_A (welB I a x) sz)) 0 0 (va_A (welB I a x) sz) := by
  refine m_start (by decide) rfl (Nat.le_of_ble_eq_true rfl) (fun p e s m below meth c ls H locs hx hb hr hml hts hown hlocks hnm hK hP hD hA hS hl => ?_)
  have hown : s.vm.findClass RX1 = some m.cls := hown
  have hl : lv_has ls 1 [(0, .ref a.1)] := hl
  have hiX1 : ∀ w ∈ wsX10, w ∈ wsX1_annulusVolume := by decide +kernel
  have f0 := hts (.fieldLink RX1 9 "WellControl$Well" "depth" "I") (by decide +kernel)
  have f1 := hts (.fieldLink RX1 18 "WellControl$Well" "annulusCapacity" "I") (by decide +kernel)
  unfold qX1_annulusVolume at hw
  refine lv_aload_n hx hb dX1_annulusVolume_0 rfl (lv_at hl 0 rfl) ?_
  refine va_get (ci := 1) (v := .int (y0 x)) (C := RX1) (T := TX1) (N := 13) hx hb hts hiX1 hown hK.1 hP 0 rfl rfl 0 (by decide) f0 (fun _ h9 => h9) rfl dX1_annulusVolume_1 ?_
  refine lv_aload_n hx hb dX1_annulusVolume_4 rfl (lv_at hl 0 rfl) ?_
  refine va_get (ci := 1) (v := .int (y2 x)) (C := RX1) (T := TX1) (N := 13) hx hb hts hiX1 hown hK.1 hP 0 rfl rfl 2 (by decide) f1 (fun _ h9 => h9) rfl dX1_annulusVolume_5 ?_
  refine lv_imul hx hb dX1_annulusVolume_8 ?_
  exact m_iret (u := ()) hx hb hr hlocks hS hP hD dX1_annulusVolume_9 hw
set_option maxHeartbeats 4000000 in
set_option maxRecDepth 100000 in
theorem kX1_column_p (l : Launch) (D : va_G) (I O : ClassId) (a : WA) (sz : Nat) (x : Wel) (p1 : Int32) (Q : Prop) (hc : p1 = 0) (hw : Q) : Met l yX1_column wsX1_column rX1_column (mPc D I O [.ref a.1, .int p1] (welB I a x) sz) (va_Qr (fun (_ : Unit) => Q) (fun u v t => v = a.2.1.1 ∧ mB D (va_A (welB I a x) sz) (fun _ => welB I a x) u t) (va_A (welB I a x) sz)) 0 0 (va_A (welB I a x) sz) := by
  refine m_start (by decide) rfl (Nat.le_of_ble_eq_true rfl) (fun p e s m below meth c ls H locs hx hb hr hml hts hown hlocks hnm hK hP hD hA hS hl => ?_)
  have hown : s.vm.findClass RX1 = some m.cls := hown
  have hl : lv_has ls 2 [(0, .ref a.1), (1, .int p1)] := hl
  have hiX1 : ∀ w ∈ wsX10, w ∈ wsX1_column := by decide +kernel
  have f0 := hts (.fieldLink RX1 45 "WellControl$Well" "annulus" "LWellControl$Column;") (by decide +kernel)
  have f1 := hts (.fieldLink RX1 41 "WellControl$Well" "pipe" "LWellControl$Column;") (by decide +kernel)
  refine lv_iload_n hx hb dX1_column_0 rfl (lv_at hl 1 rfl) ?_
  refine lv_if_ne (tgt := 11) hx hb dX1_column_1 (by decide) (fun c1 => ?_) (fun c1 => ?_)
  · exact absurd hc c1
  · have hw := hw
    refine lv_aload_n hx hb dX1_column_4 rfl (lv_at hl 0 rfl) ?_
    refine va_get (ci := 1) (v := .ref a.2.1.1) (C := RX1) (T := TX1) (N := 13) hx hb hts hiX1 hown hK.1 hP 0 rfl rfl 11 (by decide) f1 (fun _ h9 => h9) rfl dX1_column_5 ?_
    refine lv_goto (tgt := 15) hx hb dX1_column_8 (by decide) ?_
    exact m_aret (u := ()) hx hb hr hlocks hS hP hD dX1_column_15 hw

set_option maxHeartbeats 4000000 in
set_option maxRecDepth 100000 in
theorem kX1_column_n (l : Launch) (D : va_G) (I O : ClassId) (a : WA) (sz : Nat) (x : Wel) (p1 : Int32) (Q : Prop) (hc : ¬ p1 = 0) (hw : Q) : Met l yX1_column wsX1_column rX1_column (mPc D I O [.ref a.1, .int p1] (welB I a x) sz) (va_Qr (fun (_ : Unit) => Q) (fun u v t => v = a.2.2.1 ∧ mB D (va_A (welB I a x) sz) (fun _ => welB I a x) u t) (va_A (welB I a x) sz)) 0 0 (va_A (welB I a x) sz) := by
  refine m_start (by decide) rfl (Nat.le_of_ble_eq_true rfl) (fun p e s m below meth c ls H locs hx hb hr hml hts hown hlocks hnm hK hP hD hA hS hl => ?_)
  have hown : s.vm.findClass RX1 = some m.cls := hown
  have hl : lv_has ls 2 [(0, .ref a.1), (1, .int p1)] := hl
  have hiX1 : ∀ w ∈ wsX10, w ∈ wsX1_column := by decide +kernel
  have f0 := hts (.fieldLink RX1 45 "WellControl$Well" "annulus" "LWellControl$Column;") (by decide +kernel)
  have f1 := hts (.fieldLink RX1 41 "WellControl$Well" "pipe" "LWellControl$Column;") (by decide +kernel)
  refine lv_iload_n hx hb dX1_column_0 rfl (lv_at hl 1 rfl) ?_
  refine lv_if_ne (tgt := 11) hx hb dX1_column_1 (by decide) (fun c1 => ?_) (fun c1 => ?_)
  · have hw := hw
    refine lv_aload_n hx hb dX1_column_11 rfl (lv_at hl 0 rfl) ?_
    refine va_get (ci := 1) (v := .ref a.2.2.1) (C := RX1) (T := TX1) (N := 13) hx hb hts hiX1 hown hK.1 hP 0 rfl rfl 12 (by decide) f0 (fun _ h9 => h9) rfl dX1_column_12 ?_
    exact m_aret (u := ()) hx hb hr hlocks hS hP hD dX1_column_15 hw
  · exact absurd c1 hc
def qX1_capacity (x : Wel) (p1 : Int32) (Q : Int32 → Prop) : Prop := ((¬ p1 = 0 → Q (y2 x)) ∧ (p1 = 0 → Q (y1 x)))
set_option maxHeartbeats 4000000 in
set_option maxRecDepth 100000 in
theorem kX1_capacity (l : Launch) (D : va_G) (I O : ClassId) (a : WA) (sz : Nat) (x : Wel) (p1 : Int32) (Q : Int32 → Prop) (hw : qX1_capacity x p1 Q) : Met l yX1_capacity wsX1_capacity rX1_capacity (mPc D I O [.ref a.1, .int p1] (welB I a x) sz) (va_Qi (fun r (_ : Unit) => Q r) (mB D (va_A (welB I a x) sz) (fun _ => welB I a x)) (va_A (welB I a x) sz)) 0 0 (va_A (welB I a x) sz) := by
  refine m_start (by decide) rfl (Nat.le_of_ble_eq_true rfl) (fun p e s m below meth c ls H locs hx hb hr hml hts hown hlocks hnm hK hP hD hA hS hl => ?_)
  have hown : s.vm.findClass RX1 = some m.cls := hown
  have hl : lv_has ls 2 [(0, .ref a.1), (1, .int p1)] := hl
  have hiX1 : ∀ w ∈ wsX10, w ∈ wsX1_capacity := by decide +kernel
  have f0 := hts (.fieldLink RX1 18 "WellControl$Well" "annulusCapacity" "I") (by decide +kernel)
  have f1 := hts (.fieldLink RX1 15 "WellControl$Well" "pipeCapacity" "I") (by decide +kernel)
  unfold qX1_capacity at hw
  refine lv_iload_n hx hb dX1_capacity_0 rfl (lv_at hl 1 rfl) ?_
  refine lv_if_ne (tgt := 11) hx hb dX1_capacity_1 (by decide) (fun c1 => ?_) (fun c1 => ?_)
  · have hw := hw.1 c1
    refine lv_aload_n hx hb dX1_capacity_11 rfl (lv_at hl 0 rfl) ?_
    refine va_get (ci := 1) (v := .int (y2 x)) (C := RX1) (T := TX1) (N := 13) hx hb hts hiX1 hown hK.1 hP 0 rfl rfl 2 (by decide) f0 (fun _ h9 => h9) rfl dX1_capacity_12 ?_
    exact m_iret (u := ()) hx hb hr hlocks hS hP hD dX1_capacity_15 hw
  · have hw := hw.2 c1
    refine lv_aload_n hx hb dX1_capacity_4 rfl (lv_at hl 0 rfl) ?_
    refine va_get (ci := 1) (v := .int (y1 x)) (C := RX1) (T := TX1) (N := 13) hx hb hts hiX1 hown hK.1 hP 0 rfl rfl 1 (by decide) f1 (fun _ h9 => h9) rfl dX1_capacity_5 ?_
    refine lv_goto (tgt := 15) hx hb dX1_capacity_8 (by decide) ?_
    exact m_iret (u := ()) hx hb hr hlocks hS hP hD dX1_capacity_15 hw
def qX1_canCirculate (x : Wel) (p1 : Int32) (Q : Int32 → Prop) : Prop := (qX1_pipeVolume x (fun r1 => ((r1 < p1 → Q 0) ∧ (¬ r1 < p1 → (qX1_annulusVolume x (fun r3 => ((r3 < p1 → Q 0) ∧ (¬ r3 < p1 → Q 1))))))))
set_option maxHeartbeats 4000000 in
set_option maxRecDepth 100000 in
theorem kX1_canCirculate (l : Launch) (D : va_G) (I O : ClassId) (a : WA) (sz : Nat) (x : Wel) (p1 : Int32) (Q : Int32 → Prop) (hw : qX1_canCirculate x p1 Q) : Met l yX1_canCirculate wsX1_canCirculate rX1_canCirculate (mPc D I O [.ref a.1, .int p1] (welB I a x) sz) (va_Qi (fun r (_ : Unit) => Q r) (mB D (va_A (welB I a x) sz) (fun _ => welB I a x)) (va_A (welB I a x) sz)) 0 0 (va_A (welB I a x) sz) := by
  refine m_start (by decide) rfl (Nat.le_of_ble_eq_true rfl) (fun p e s m below meth c ls H locs hx hb hr hml hts hown hlocks hnm hK hP hD hA hS hl => ?_)
  have hown : s.vm.findClass RX1 = some m.cls := hown
  have hl : lv_has ls 2 [(0, .ref a.1), (1, .int p1)] := hl
  unfold qX1_canCirculate at hw
  refine lv_iload_n hx hb dX1_canCirculate_0 rfl (lv_at hl 1 rfl) ?_
  refine lv_aload_n hx hb dX1_canCirculate_1 rfl (lv_at hl 0 rfl) ?_
  refine mw_i (mv_V (As := []) (rest := [.int p1]) ⟨hx, hb, hml, hown, hts⟩ (kX1_pipeVolume l D I O a H.size x _ hw) (cwV 0 hts gX1_canCirculate_X1_pipeVolume rfl rfl rfl hdVX1_pipeVolume ⟨(Nat.le_of_ble_eq_true rfl), (Nat.le_of_ble_eq_true rfl)⟩) hK hP hD 0 1 rfl rfl rfl rfl hl.1 rfl (Nat.le_of_ble_eq_true rfl) dX1_canCirculate_2 ⟨(Nat.le_of_ble_eq_true rfl), (Nat.le_of_ble_eq_true rfl)⟩) hP hD hS hA (fun r1 _ H locs hw hP hD hS => ?_)
  have hP : va_P D vwCl (welB I a x) H := hP
  have hD : va_D (va_A (welB I a x) sz) (welB I a x) := hD
  refine lv_icmp_gt (tgt := 20) hx hb dX1_canCirculate_5 (by decide) (fun c2 => ?_) (fun c2 => ?_)
  · have hw := hw.1 c2
    refine lv_iconst (v := 0) hx hb dX1_canCirculate_20 (by decide) ?_
    exact m_zret (u := ()) hx hb hr hlocks (by decide) hS hP hD dX1_canCirculate_21 hw
  · have hw := hw.2 c2
    refine lv_iload_n hx hb dX1_canCirculate_8 rfl (lv_at hl 1 rfl) ?_
    refine lv_aload_n hx hb dX1_canCirculate_9 rfl (lv_at hl 0 rfl) ?_
    refine mw_i (mv_V (As := []) (rest := [.int p1]) ⟨hx, hb, hml, hown, hts⟩ (kX1_annulusVolume l D I O a H.size x _ hw) (cwV 0 hts gX1_canCirculate_X1_annulusVolume rfl rfl rfl hdVX1_annulusVolume ⟨(Nat.le_of_ble_eq_true rfl), (Nat.le_of_ble_eq_true rfl)⟩) hK hP hD 0 1 rfl rfl rfl rfl hl.1 rfl (Nat.le_of_ble_eq_true rfl) dX1_canCirculate_10 ⟨(Nat.le_of_ble_eq_true rfl), (Nat.le_of_ble_eq_true rfl)⟩) hP hD hS hA (fun r3 _ H locs hw hP hD hS => ?_)
    have hP : va_P D vwCl (welB I a x) H := hP
    have hD : va_D (va_A (welB I a x) sz) (welB I a x) := hD
    refine lv_icmp_gt (tgt := 20) hx hb dX1_canCirculate_13 (by decide) (fun c4 => ?_) (fun c4 => ?_)
    · have hw := hw.1 c4
      refine lv_iconst (v := 0) hx hb dX1_canCirculate_20 (by decide) ?_
      exact m_zret (u := ()) hx hb hr hlocks (by decide) hS hP hD dX1_canCirculate_21 hw
    · have hw := hw.2 c4
      refine lv_iconst (v := 1) hx hb dX1_canCirculate_16 (by decide) ?_
      refine lv_goto (tgt := 21) hx hb dX1_canCirculate_17 (by decide) ?_
      exact m_zret (u := ()) hx hb hr hlocks (by decide) hS hP hD dX1_canCirculate_21 hw
def qX1_startAnew (x : Wel) (Q : Wel → Prop) : Prop := (qX0_clear (yP x) (fun u1 => (qX1_pipeVolume (y0 x, y1 x, y2 x, y3 x, y4 x, y5 x, y6 x, y7 x, y8 x, y9 x, y10 x, u1, yA x) (fun r2 => (qX0_enter u1 r2 (y4 x) (fun u3 => (qX0_clear (yA x) (fun u4 => (qX1_annulusVolume (y0 x, y1 x, y2 x, y3 x, y4 x, y5 x, y6 x, y7 x, y8 x, y9 x, y10 x, u3, u4) (fun r5 => (qX0_enter u4 r5 (y4 x) (fun u6 => Q (y0 x, y1 x, y2 x, y3 x, y4 x, y5 x, y6 x, y7 x, 0, 0, 0, u3, u6)))))))))))))
set_option maxHeartbeats 4000000 in
set_option maxRecDepth 100000 in
theorem kX1_startAnew (l : Launch) (D : va_G) (I O : ClassId) (a : WA) (sz : Nat) (x : Wel) (Q : Wel → Prop) (hw : qX1_startAnew x Q) : Met l yX1_startAnew wsX1_startAnew rX1_startAnew (mPc D I O [.ref a.1] (welB I a x) sz) (va_Qv (fun (u : Wel) => Q u) (mB D (va_A (welB I a x) sz) (fun u => welB I a u)) (va_A (welB I a x) sz)) 0 0 (va_A (welB I a x) sz) := by
  refine m_start (by decide) rfl (Nat.le_of_ble_eq_true rfl) (fun p e s m below meth c ls H locs hx hb hr hml hts hown hlocks hnm hK hP hD hA hS hl => ?_)
  have hown : s.vm.findClass RX1 = some m.cls := hown
  have hl : lv_has ls 1 [(0, .ref a.1)] := hl
  have hiX1 : ∀ w ∈ wsX10, w ∈ wsX1_startAnew := by decide +kernel
  have f0 := hts (.fieldLink RX1 41 "WellControl$Well" "pipe" "LWellControl$Column;") (by decide +kernel)
  have f1 := hts (.fieldLink RX1 24 "WellControl$Well" "mud" "I") (by decide +kernel)
  have f2 := hts (.fieldLink RX1 45 "WellControl$Well" "annulus" "LWellControl$Column;") (by decide +kernel)
  have f3 := hts (.fieldLink RX1 65 "WellControl$Well" "gained" "I") (by decide +kernel)
  have f4 := hts (.fieldLink RX1 68 "WellControl$Well" "timesBroken" "I") (by decide +kernel)
  have f5 := hts (.fieldLink RX1 71 "WellControl$Well" "greatestAtShoe" "I") (by decide +kernel)
  unfold qX1_startAnew at hw
  refine lv_aload_n hx hb dX1_startAnew_0 rfl (lv_at hl 0 rfl) ?_
  refine va_get (ci := 1) (v := .ref a.2.1.1) (C := RX1) (T := TX1) (N := 13) hx hb hts hiX1 hown hK.1 hP 0 rfl rfl 11 (by decide) f0 (fun _ h9 => h9) rfl dX1_startAnew_1 ?_
  have hPc := va_P.mid (X := [welO a x]) (wc := colB I a.2.1 (yP x)) (Y := colB I a.2.2 (yA x)) hP
  have hDc := va_D.mid (X := [welO a x]) (wc := colB I a.2.1 (yP x)) (Y := colB I a.2.2 (yA x)) hD
  refine mc_v ([welO a x]) (colB I a.2.2 (yA x)) (mv_V (As := []) (rest := []) ⟨hx, hb, hml, hown, hts⟩ (kX0_clear l D I O a.2.1 H.size (yP x) _ hw) (cwV 0 hts gX1_startAnew_X0_clear rfl rfl rfl hdVX0_clear ⟨(Nat.le_of_ble_eq_true rfl), (Nat.le_of_ble_eq_true rfl)⟩) hK hPc hDc 0 0 rfl rfl rfl rfl hl.1 rfl (Nat.le_of_ble_eq_true rfl) dX1_startAnew_4 ⟨(Nat.le_of_ble_eq_true rfl), (Nat.le_of_ble_eq_true rfl)⟩) hP hD hS hA (fun u1 H locs hw hP hD hS => ?_)
  have hP : va_P D vwCl (welB I a (y0 x, y1 x, y2 x, y3 x, y4 x, y5 x, y6 x, y7 x, y8 x, y9 x, y10 x, u1, yA x)) H := hP
  have hD : va_D (va_A (welB I a x) sz) (welB I a (y0 x, y1 x, y2 x, y3 x, y4 x, y5 x, y6 x, y7 x, y8 x, y9 x, y10 x, u1, yA x)) := hD
  refine lv_aload_n hx hb dX1_startAnew_7 rfl (lv_at hl 0 rfl) ?_
  refine va_get (ci := 1) (v := .ref a.2.1.1) (C := RX1) (T := TX1) (N := 13) hx hb hts hiX1 hown hK.1 hP 0 rfl rfl 11 (by decide) f0 (fun _ h9 => h9) rfl dX1_startAnew_8 ?_
  refine lv_aload_n hx hb dX1_startAnew_11 rfl (lv_at hl 0 rfl) ?_
  refine mw_i (mv_V (As := []) (rest := [.ref a.2.1.1]) ⟨hx, hb, hml, hown, hts⟩ (kX1_pipeVolume l D I O a H.size (y0 x, y1 x, y2 x, y3 x, y4 x, y5 x, y6 x, y7 x, y8 x, y9 x, y10 x, u1, yA x) _ hw) (cwV 0 hts gX1_startAnew_X1_pipeVolume rfl rfl rfl hdVX1_pipeVolume ⟨(Nat.le_of_ble_eq_true rfl), (Nat.le_of_ble_eq_true rfl)⟩) hK hP hD 0 1 rfl rfl rfl rfl hl.1 rfl (Nat.le_of_ble_eq_true rfl) dX1_startAnew_12 ⟨(Nat.le_of_ble_eq_true rfl), (Nat.le_of_ble_eq_true rfl)⟩) hP hD hS hA (fun r2 _ H locs hw hP hD hS => ?_)
  have hP : va_P D vwCl (welB I a (y0 x, y1 x, y2 x, y3 x, y4 x, y5 x, y6 x, y7 x, y8 x, y9 x, y10 x, u1, yA x)) H := hP
  have hD : va_D (va_A (welB I a x) sz) (welB I a (y0 x, y1 x, y2 x, y3 x, y4 x, y5 x, y6 x, y7 x, y8 x, y9 x, y10 x, u1, yA x)) := hD
  refine lv_aload_n hx hb dX1_startAnew_15 rfl (lv_at hl 0 rfl) ?_
  refine va_get (ci := 1) (v := .int (y4 x)) (C := RX1) (T := TX1) (N := 13) hx hb hts hiX1 hown hK.1 hP 0 rfl rfl 4 (by decide) f1 (fun _ h9 => h9) rfl dX1_startAnew_16 ?_
  have hPc := va_P.mid (X := [welO a (y0 x, y1 x, y2 x, y3 x, y4 x, y5 x, y6 x, y7 x, y8 x, y9 x, y10 x, u1, yA x)]) (wc := colB I a.2.1 u1) (Y := colB I a.2.2 (yA x)) hP
  have hDc := va_D.mid (X := [welO a (y0 x, y1 x, y2 x, y3 x, y4 x, y5 x, y6 x, y7 x, y8 x, y9 x, y10 x, u1, yA x)]) (wc := colB I a.2.1 u1) (Y := colB I a.2.2 (yA x)) hD
  refine mc_v ([welO a (y0 x, y1 x, y2 x, y3 x, y4 x, y5 x, y6 x, y7 x, y8 x, y9 x, y10 x, u1, yA x)]) (colB I a.2.2 (yA x)) (mv_V (As := [.int r2, .int (y4 x)]) (rest := []) ⟨hx, hb, hml, hown, hts⟩ (kX0_enter l D I O a.2.1 H.size u1 r2 (y4 x) _ hw) (cwV 2 hts gX1_startAnew_X0_enter rfl rfl rfl hdVX0_enter ⟨(Nat.le_of_ble_eq_true rfl), (Nat.le_of_ble_eq_true rfl)⟩) hK hPc hDc 0 0 rfl rfl rfl rfl hl.1 rfl (Nat.le_of_ble_eq_true rfl) dX1_startAnew_19 ⟨(Nat.le_of_ble_eq_true rfl), (Nat.le_of_ble_eq_true rfl)⟩) hP hD hS hA (fun u3 H locs hw hP hD hS => ?_)
  have hP : va_P D vwCl (welB I a (y0 x, y1 x, y2 x, y3 x, y4 x, y5 x, y6 x, y7 x, y8 x, y9 x, y10 x, u3, yA x)) H := hP
  have hD : va_D (va_A (welB I a x) sz) (welB I a (y0 x, y1 x, y2 x, y3 x, y4 x, y5 x, y6 x, y7 x, y8 x, y9 x, y10 x, u3, yA x)) := hD
  refine lv_aload_n hx hb dX1_startAnew_22 rfl (lv_at hl 0 rfl) ?_
  refine va_get (ci := 1) (v := .ref a.2.2.1) (C := RX1) (T := TX1) (N := 13) hx hb hts hiX1 hown hK.1 hP 0 rfl rfl 12 (by decide) f2 (fun _ h9 => h9) rfl dX1_startAnew_23 ?_
  have hPc := va_P.mid (X := welO a (y0 x, y1 x, y2 x, y3 x, y4 x, y5 x, y6 x, y7 x, y8 x, y9 x, y10 x, u3, yA x) :: colB I a.2.1 u3) (wc := colB I a.2.2 (yA x)) (Y := []) hP
  have hDc := va_D.mid (X := welO a (y0 x, y1 x, y2 x, y3 x, y4 x, y5 x, y6 x, y7 x, y8 x, y9 x, y10 x, u3, yA x) :: colB I a.2.1 u3) (wc := colB I a.2.2 (yA x)) (Y := []) hD
  refine mc_v (welO a (y0 x, y1 x, y2 x, y3 x, y4 x, y5 x, y6 x, y7 x, y8 x, y9 x, y10 x, u3, yA x) :: colB I a.2.1 u3) ([]) (mv_V (As := []) (rest := []) ⟨hx, hb, hml, hown, hts⟩ (kX0_clear l D I O a.2.2 H.size (yA x) _ hw) (cwV 0 hts gX1_startAnew_X0_clear rfl rfl rfl hdVX0_clear ⟨(Nat.le_of_ble_eq_true rfl), (Nat.le_of_ble_eq_true rfl)⟩) hK hPc hDc 0 0 rfl rfl rfl rfl hl.1 rfl (Nat.le_of_ble_eq_true rfl) dX1_startAnew_26 ⟨(Nat.le_of_ble_eq_true rfl), (Nat.le_of_ble_eq_true rfl)⟩) hP hD hS hA (fun u4 H locs hw hP hD hS => ?_)
  have hP : va_P D vwCl (welB I a (y0 x, y1 x, y2 x, y3 x, y4 x, y5 x, y6 x, y7 x, y8 x, y9 x, y10 x, u3, u4)) H := hP
  have hD : va_D (va_A (welB I a x) sz) (welB I a (y0 x, y1 x, y2 x, y3 x, y4 x, y5 x, y6 x, y7 x, y8 x, y9 x, y10 x, u3, u4)) := hD
  refine lv_aload_n hx hb dX1_startAnew_29 rfl (lv_at hl 0 rfl) ?_
  refine va_get (ci := 1) (v := .ref a.2.2.1) (C := RX1) (T := TX1) (N := 13) hx hb hts hiX1 hown hK.1 hP 0 rfl rfl 12 (by decide) f2 (fun _ h9 => h9) rfl dX1_startAnew_30 ?_
  refine lv_aload_n hx hb dX1_startAnew_33 rfl (lv_at hl 0 rfl) ?_
  refine mw_i (mv_V (As := []) (rest := [.ref a.2.2.1]) ⟨hx, hb, hml, hown, hts⟩ (kX1_annulusVolume l D I O a H.size (y0 x, y1 x, y2 x, y3 x, y4 x, y5 x, y6 x, y7 x, y8 x, y9 x, y10 x, u3, u4) _ hw) (cwV 0 hts gX1_startAnew_X1_annulusVolume rfl rfl rfl hdVX1_annulusVolume ⟨(Nat.le_of_ble_eq_true rfl), (Nat.le_of_ble_eq_true rfl)⟩) hK hP hD 0 1 rfl rfl rfl rfl hl.1 rfl (Nat.le_of_ble_eq_true rfl) dX1_startAnew_34 ⟨(Nat.le_of_ble_eq_true rfl), (Nat.le_of_ble_eq_true rfl)⟩) hP hD hS hA (fun r5 _ H locs hw hP hD hS => ?_)
  have hP : va_P D vwCl (welB I a (y0 x, y1 x, y2 x, y3 x, y4 x, y5 x, y6 x, y7 x, y8 x, y9 x, y10 x, u3, u4)) H := hP
  have hD : va_D (va_A (welB I a x) sz) (welB I a (y0 x, y1 x, y2 x, y3 x, y4 x, y5 x, y6 x, y7 x, y8 x, y9 x, y10 x, u3, u4)) := hD
  refine lv_aload_n hx hb dX1_startAnew_37 rfl (lv_at hl 0 rfl) ?_
  refine va_get (ci := 1) (v := .int (y4 x)) (C := RX1) (T := TX1) (N := 13) hx hb hts hiX1 hown hK.1 hP 0 rfl rfl 4 (by decide) f1 (fun _ h9 => h9) rfl dX1_startAnew_38 ?_
  have hPc := va_P.mid (X := welO a (y0 x, y1 x, y2 x, y3 x, y4 x, y5 x, y6 x, y7 x, y8 x, y9 x, y10 x, u3, u4) :: colB I a.2.1 u3) (wc := colB I a.2.2 u4) (Y := []) hP
  have hDc := va_D.mid (X := welO a (y0 x, y1 x, y2 x, y3 x, y4 x, y5 x, y6 x, y7 x, y8 x, y9 x, y10 x, u3, u4) :: colB I a.2.1 u3) (wc := colB I a.2.2 u4) (Y := []) hD
  refine mc_v (welO a (y0 x, y1 x, y2 x, y3 x, y4 x, y5 x, y6 x, y7 x, y8 x, y9 x, y10 x, u3, u4) :: colB I a.2.1 u3) ([]) (mv_V (As := [.int r5, .int (y4 x)]) (rest := []) ⟨hx, hb, hml, hown, hts⟩ (kX0_enter l D I O a.2.2 H.size u4 r5 (y4 x) _ hw) (cwV 2 hts gX1_startAnew_X0_enter rfl rfl rfl hdVX0_enter ⟨(Nat.le_of_ble_eq_true rfl), (Nat.le_of_ble_eq_true rfl)⟩) hK hPc hDc 0 0 rfl rfl rfl rfl hl.1 rfl (Nat.le_of_ble_eq_true rfl) dX1_startAnew_41 ⟨(Nat.le_of_ble_eq_true rfl), (Nat.le_of_ble_eq_true rfl)⟩) hP hD hS hA (fun u6 H locs hw hP hD hS => ?_)
  have hP : va_P D vwCl (welB I a (y0 x, y1 x, y2 x, y3 x, y4 x, y5 x, y6 x, y7 x, y8 x, y9 x, y10 x, u3, u6)) H := hP
  have hD : va_D (va_A (welB I a x) sz) (welB I a (y0 x, y1 x, y2 x, y3 x, y4 x, y5 x, y6 x, y7 x, y8 x, y9 x, y10 x, u3, u6)) := hD
  refine lv_aload_n hx hb dX1_startAnew_44 rfl (lv_at hl 0 rfl) ?_
  refine lv_iconst (v := 0) hx hb dX1_startAnew_45 (by decide) ?_
  refine va_put (ci := 1) (v := .int 0) (ty := .int) (C := RX1) (T := TX1) (N := 13) hx hb hts hiX1 tyX1 tyX1_ok nmX1 hown hK.1 hP hD hS 0 rfl rfl 8 (by decide) f3 (fun _ h9 => h9) rfl (by decide +kernel) rfl rfl (Nat.le_of_ble_eq_true rfl) dX1_startAnew_46 (fun H locs hP hD hS => ?_)
  have hP : va_P D vwCl (welB I a (y0 x, y1 x, y2 x, y3 x, y4 x, y5 x, y6 x, y7 x, 0, y9 x, y10 x, u3, u6)) H := hP
  have hD : va_D (va_A (welB I a x) sz) (welB I a (y0 x, y1 x, y2 x, y3 x, y4 x, y5 x, y6 x, y7 x, 0, y9 x, y10 x, u3, u6)) := hD
  refine lv_aload_n hx hb dX1_startAnew_49 rfl (lv_at hl 0 rfl) ?_
  refine lv_iconst (v := 0) hx hb dX1_startAnew_50 (by decide) ?_
  refine va_put (ci := 1) (v := .int 0) (ty := .int) (C := RX1) (T := TX1) (N := 13) hx hb hts hiX1 tyX1 tyX1_ok nmX1 hown hK.1 hP hD hS 0 rfl rfl 9 (by decide) f4 (fun _ h9 => h9) rfl (by decide +kernel) rfl rfl (Nat.le_of_ble_eq_true rfl) dX1_startAnew_51 (fun H locs hP hD hS => ?_)
  have hP : va_P D vwCl (welB I a (y0 x, y1 x, y2 x, y3 x, y4 x, y5 x, y6 x, y7 x, 0, 0, y10 x, u3, u6)) H := hP
  have hD : va_D (va_A (welB I a x) sz) (welB I a (y0 x, y1 x, y2 x, y3 x, y4 x, y5 x, y6 x, y7 x, 0, 0, y10 x, u3, u6)) := hD
  refine lv_aload_n hx hb dX1_startAnew_54 rfl (lv_at hl 0 rfl) ?_
  refine lv_iconst (v := 0) hx hb dX1_startAnew_55 (by decide) ?_
  refine va_put (ci := 1) (v := .int 0) (ty := .int) (C := RX1) (T := TX1) (N := 13) hx hb hts hiX1 tyX1 tyX1_ok nmX1 hown hK.1 hP hD hS 0 rfl rfl 10 (by decide) f5 (fun _ h9 => h9) rfl (by decide +kernel) rfl rfl (Nat.le_of_ble_eq_true rfl) dX1_startAnew_56 (fun H locs hP hD hS => ?_)
  have hP : va_P D vwCl (welB I a (y0 x, y1 x, y2 x, y3 x, y4 x, y5 x, y6 x, y7 x, 0, 0, 0, u3, u6)) H := hP
  have hD : va_D (va_A (welB I a x) sz) (welB I a (y0 x, y1 x, y2 x, y3 x, y4 x, y5 x, y6 x, y7 x, 0, 0, 0, u3, u6)) := hD
  exact m_vret (u := (y0 x, y1 x, y2 x, y3 x, y4 x, y5 x, y6 x, y7 x, 0, 0, 0, u3, u6)) hx hb hr hlocks hS hP hD dX1_startAnew_59 hw
def qX1_circulate (x : Wel) (p1 : Int32) (p2 : Int32) (Q : Wel → Prop) : Prop := (qX0_release (yA x) p1 (fun u1 => (qX0_releaseInto (yP x) u1 p1 (fun u2 => (qX0_enter u2.1 p1 p2 (fun u3 => Q (y0 x, y1 x, y2 x, y3 x, y4 x, y5 x, y6 x, y7 x, y8 x, y9 x, y10 x, u3, u2.2)))))))
set_option maxHeartbeats 4000000 in
set_option maxRecDepth 100000 in
theorem kX1_circulate (l : Launch) (D : va_G) (I O : ClassId) (a : WA) (sz : Nat) (x : Wel) (p1 : Int32) (p2 : Int32) (Q : Wel → Prop) (hw : qX1_circulate x p1 p2 Q) : Met l yX1_circulate wsX1_circulate rX1_circulate (mPc D I O [.ref a.1, .int p1, .int p2] (welB I a x) sz) (va_Qv (fun (u : Wel) => Q u) (mB D (va_A (welB I a x) sz) (fun u => welB I a u)) (va_A (welB I a x) sz)) 0 0 (va_A (welB I a x) sz) := by
  refine m_start (by decide) rfl (Nat.le_of_ble_eq_true rfl) (fun p e s m below meth c ls H locs hx hb hr hml hts hown hlocks hnm hK hP hD hA hS hl => ?_)
  have hown : s.vm.findClass RX1 = some m.cls := hown
  have hl : lv_has ls 3 [(0, .ref a.1), (1, .int p1), (2, .int p2)] := hl
  have hiX1 : ∀ w ∈ wsX10, w ∈ wsX1_circulate := by decide +kernel
  have f0 := hts (.fieldLink RX1 45 "WellControl$Well" "annulus" "LWellControl$Column;") (by decide +kernel)
  have f1 := hts (.fieldLink RX1 41 "WellControl$Well" "pipe" "LWellControl$Column;") (by decide +kernel)
  unfold qX1_circulate at hw
  refine lv_aload_n hx hb dX1_circulate_0 rfl (lv_at hl 0 rfl) ?_
  refine va_get (ci := 1) (v := .ref a.2.2.1) (C := RX1) (T := TX1) (N := 13) hx hb hts hiX1 hown hK.1 hP 0 rfl rfl 12 (by decide) f0 (fun _ h9 => h9) rfl dX1_circulate_1 ?_
  refine lv_iload_n hx hb dX1_circulate_4 rfl (lv_at hl 1 rfl) ?_
  have hPc := va_P.mid (X := welO a x :: colB I a.2.1 (yP x)) (wc := colB I a.2.2 (yA x)) (Y := []) hP
  have hDc := va_D.mid (X := welO a x :: colB I a.2.1 (yP x)) (wc := colB I a.2.2 (yA x)) (Y := []) hD
  refine mc_v (welO a x :: colB I a.2.1 (yP x)) ([]) (mv_V (As := [.int p1]) (rest := []) ⟨hx, hb, hml, hown, hts⟩ (kX0_release l D I O a.2.2 H.size (yA x) p1 _ hw) (cwV 1 hts gX1_circulate_X0_release rfl rfl rfl hdVX0_release ⟨(Nat.le_of_ble_eq_true rfl), (Nat.le_of_ble_eq_true rfl)⟩) hK hPc hDc 0 0 rfl rfl rfl rfl hl.1 rfl (Nat.le_of_ble_eq_true rfl) dX1_circulate_5 ⟨(Nat.le_of_ble_eq_true rfl), (Nat.le_of_ble_eq_true rfl)⟩) hP hD hS hA (fun u1 H locs hw hP hD hS => ?_)
  have hP : va_P D vwCl (welB I a (y0 x, y1 x, y2 x, y3 x, y4 x, y5 x, y6 x, y7 x, y8 x, y9 x, y10 x, yP x, u1)) H := hP
  have hD : va_D (va_A (welB I a x) sz) (welB I a (y0 x, y1 x, y2 x, y3 x, y4 x, y5 x, y6 x, y7 x, y8 x, y9 x, y10 x, yP x, u1)) := hD
  refine lv_aload_n hx hb dX1_circulate_8 rfl (lv_at hl 0 rfl) ?_
  refine va_get (ci := 1) (v := .ref a.2.1.1) (C := RX1) (T := TX1) (N := 13) hx hb hts hiX1 hown hK.1 hP 0 rfl rfl 11 (by decide) f1 (fun _ h9 => h9) rfl dX1_circulate_9 ?_
  refine lv_aload_n hx hb dX1_circulate_12 rfl (lv_at hl 0 rfl) ?_
  refine va_get (ci := 1) (v := .ref a.2.2.1) (C := RX1) (T := TX1) (N := 13) hx hb hts hiX1 hown hK.1 hP 0 rfl rfl 12 (by decide) f0 (fun _ h9 => h9) rfl dX1_circulate_13 ?_
  refine lv_iload_n hx hb dX1_circulate_16 rfl (lv_at hl 1 rfl) ?_
  have hPc := va_P.mid (X := [welO a (y0 x, y1 x, y2 x, y3 x, y4 x, y5 x, y6 x, y7 x, y8 x, y9 x, y10 x, yP x, u1)]) (wc := colB I a.2.1 (yP x) ++ colB I a.2.2 u1) (Y := []) hP
  have hDc := va_D.mid (X := [welO a (y0 x, y1 x, y2 x, y3 x, y4 x, y5 x, y6 x, y7 x, y8 x, y9 x, y10 x, yP x, u1)]) (wc := colB I a.2.1 (yP x) ++ colB I a.2.2 u1) (Y := []) hD
  refine mc_v ([welO a (y0 x, y1 x, y2 x, y3 x, y4 x, y5 x, y6 x, y7 x, y8 x, y9 x, y10 x, yP x, u1)]) ([]) (mv_V (As := [.ref a.2.2.1, .int p1]) (rest := []) ⟨hx, hb, hml, hown, hts⟩ (kX0_releaseInto l D I O a.2.1 a.2.2 H.size (yP x) u1 p1 _ hw) (cwV 2 hts gX1_circulate_X0_releaseInto rfl rfl rfl hdVX0_releaseInto ⟨(Nat.le_of_ble_eq_true rfl), (Nat.le_of_ble_eq_true rfl)⟩) hK hPc hDc 0 0 rfl rfl rfl rfl hl.1 rfl (Nat.le_of_ble_eq_true rfl) dX1_circulate_17 ⟨(Nat.le_of_ble_eq_true rfl), (Nat.le_of_ble_eq_true rfl)⟩) hP hD hS hA (fun u2 H locs hw hP hD hS => ?_)
  have hP : va_P D vwCl (welB I a (y0 x, y1 x, y2 x, y3 x, y4 x, y5 x, y6 x, y7 x, y8 x, y9 x, y10 x, u2.1, u2.2)) H := hP
  have hD : va_D (va_A (welB I a x) sz) (welB I a (y0 x, y1 x, y2 x, y3 x, y4 x, y5 x, y6 x, y7 x, y8 x, y9 x, y10 x, u2.1, u2.2)) := hD
  refine lv_aload_n hx hb dX1_circulate_20 rfl (lv_at hl 0 rfl) ?_
  refine va_get (ci := 1) (v := .ref a.2.1.1) (C := RX1) (T := TX1) (N := 13) hx hb hts hiX1 hown hK.1 hP 0 rfl rfl 11 (by decide) f1 (fun _ h9 => h9) rfl dX1_circulate_21 ?_
  refine lv_iload_n hx hb dX1_circulate_24 rfl (lv_at hl 1 rfl) ?_
  refine lv_iload_n hx hb dX1_circulate_25 rfl (lv_at hl 2 rfl) ?_
  have hPc := va_P.mid (X := [welO a (y0 x, y1 x, y2 x, y3 x, y4 x, y5 x, y6 x, y7 x, y8 x, y9 x, y10 x, u2.1, u2.2)]) (wc := colB I a.2.1 u2.1) (Y := colB I a.2.2 u2.2) hP
  have hDc := va_D.mid (X := [welO a (y0 x, y1 x, y2 x, y3 x, y4 x, y5 x, y6 x, y7 x, y8 x, y9 x, y10 x, u2.1, u2.2)]) (wc := colB I a.2.1 u2.1) (Y := colB I a.2.2 u2.2) hD
  refine mc_v ([welO a (y0 x, y1 x, y2 x, y3 x, y4 x, y5 x, y6 x, y7 x, y8 x, y9 x, y10 x, u2.1, u2.2)]) (colB I a.2.2 u2.2) (mv_V (As := [.int p1, .int p2]) (rest := []) ⟨hx, hb, hml, hown, hts⟩ (kX0_enter l D I O a.2.1 H.size u2.1 p1 p2 _ hw) (cwV 2 hts gX1_circulate_X0_enter rfl rfl rfl hdVX0_enter ⟨(Nat.le_of_ble_eq_true rfl), (Nat.le_of_ble_eq_true rfl)⟩) hK hPc hDc 0 0 rfl rfl rfl rfl hl.1 rfl (Nat.le_of_ble_eq_true rfl) dX1_circulate_26 ⟨(Nat.le_of_ble_eq_true rfl), (Nat.le_of_ble_eq_true rfl)⟩) hP hD hS hA (fun u3 H locs hw hP hD hS => ?_)
  have hP : va_P D vwCl (welB I a (y0 x, y1 x, y2 x, y3 x, y4 x, y5 x, y6 x, y7 x, y8 x, y9 x, y10 x, u3, u2.2)) H := hP
  have hD : va_D (va_A (welB I a x) sz) (welB I a (y0 x, y1 x, y2 x, y3 x, y4 x, y5 x, y6 x, y7 x, y8 x, y9 x, y10 x, u3, u2.2)) := hD
  exact m_vret (u := (y0 x, y1 x, y2 x, y3 x, y4 x, y5 x, y6 x, y7 x, y8 x, y9 x, y10 x, u3, u2.2)) hx hb hr hlocks hS hP hD dX1_circulate_29 hw
def qX1_pressureOf (p1 : Int64) (p2 : Int32) (Q : Int32 → Prop) : Prop := (¬ (100000 * (Int32.toInt64 (if (1 : Int32) < p2 then p2 else 1))) = 0 ∧ Q (Int64.toInt32 ((981 * p1) / (100000 * (Int32.toInt64 (if (1 : Int32) < p2 then p2 else 1))))))
set_option maxHeartbeats 4000000 in
set_option maxRecDepth 100000 in
theorem kX1_pressureOf (l : Launch) (D : va_G) (I O : ClassId) (sz : Nat) (p1 : Int64) (p2 : Int32) (Q : Int32 → Prop) (hw : qX1_pressureOf p1 p2 Q) : Met l yX1_pressureOf wsX1_pressureOf rX1_pressureOf (mPc D I O [.long p1, .int p2] ([]) sz) (va_Qi (fun r (_ : Unit) => Q r) (mB D (va_A ([]) sz) (fun _ => [])) (va_A ([]) sz)) 0 0 (va_A ([]) sz) := by
  refine m_start (by decide) rfl (Nat.le_of_ble_eq_true rfl) (fun p e s m below meth c ls H locs hx hb hr hml hts hown hlocks hnm hK hP hD hA hS hl => ?_)
  have hown : s.vm.findClass RX1 = some m.cls := hown
  have hl : lv_has ls 3 [(0, .long p1), (2, .int p2)] := hl
  have f0 := hts (.constantLong RX1 124 (981)) (by decide +kernel)
  have f1 := hts (.constantLong RX1 126 (100000)) (by decide +kernel)
  have f2 := hts (.methodLink RX1 99 Lib.Math.max.name) (by decide +kernel)
  have f3 := hts (.static Lib.Math.max.name) (by decide +kernel)
  have f4 := hts (.initialized "java/lang/Math") (by decide +kernel)
  have f5 := hts (.code Lib.Math.max.name Lib.Math.max.code 2 (some .int)) (by decide +kernel)
  unfold qX1_pressureOf at hw
  refine lv_ldc2 (v := 981) hx hb hown f0 dX1_pressureOf_0 ?_
  refine lv_lload_n hx hb dX1_pressureOf_3 rfl (lv_at hl 0 rfl) ?_
  refine lv_lmul hx hb dX1_pressureOf_4 ?_
  refine lv_ldc2 (v := 100000) hx hb hown f1 dX1_pressureOf_5 ?_
  refine lv_iconst (v := 1) hx hb dX1_pressureOf_8 (by decide) ?_
  refine lv_iload_n hx hb dX1_pressureOf_9 rfl (lv_at hl 1 rfl) ?_
  refine va_mmax hx hb (hml.trans hl.1.symm) hown f2 f3 f4 f5 (Nat.le_of_ble_eq_true rfl) (Nat.le_of_ble_eq_true rfl) (Nat.le_of_ble_eq_true rfl) (Nat.le_of_ble_eq_true rfl) dX1_pressureOf_10 ?_
  refine lv_i2l (v := Int32.toInt64 (if (1 : Int32) < p2 then p2 else 1)) hx hb dX1_pressureOf_13 rfl ?_
  refine lv_lmul hx hb dX1_pressureOf_14 ?_
  obtain ⟨h1, hw⟩ := hw
  refine lv_ldiv hx hb dX1_pressureOf_15 h1 ?_
  refine lv_l2i (v := Int64.toInt32 ((981 * p1) / (100000 * (Int32.toInt64 (if (1 : Int32) < p2 then p2 else 1))))) hx hb dX1_pressureOf_16 rfl ?_
  exact m_iret (u := ()) hx hb hr hlocks hS hP hD dX1_pressureOf_17 hw
def qX1_pressureOfWhole (x : Wel) (p1 : Int32) (Q : Int32 → Prop) : Prop := ((p1 = 0 → (qX1_capacity x p1 (fun r2 => (qX1_pressureOf (zL (yP x)) r2 (fun r3 => Q r3))))) ∧ (¬ p1 = 0 → (qX1_capacity x p1 (fun r4 => (qX1_pressureOf (zL (yA x)) r4 (fun r5 => Q r5))))))
set_option maxHeartbeats 4000000 in
set_option maxRecDepth 100000 in
theorem kX1_pressureOfWhole (l : Launch) (D : va_G) (I O : ClassId) (a : WA) (sz : Nat) (x : Wel) (p1 : Int32) (Q : Int32 → Prop) (hw : qX1_pressureOfWhole x p1 Q) : Met l yX1_pressureOfWhole wsX1_pressureOfWhole rX1_pressureOfWhole (mPc D I O [.ref a.1, .int p1] (welB I a x) sz) (va_Qi (fun r (_ : Unit) => Q r) (mB D (va_A (welB I a x) sz) (fun _ => welB I a x)) (va_A (welB I a x) sz)) 0 0 (va_A (welB I a x) sz) := by
  refine m_start (by decide) rfl (Nat.le_of_ble_eq_true rfl) (fun p e s m below meth c ls H locs hx hb hr hml hts hown hlocks hnm hK hP hD hA hS hl => ?_)
  have hown : s.vm.findClass RX1 = some m.cls := hown
  have hl : lv_has ls 2 [(0, .ref a.1), (1, .int p1)] := hl
  have hiX0 : ∀ w ∈ wsX00, w ∈ wsX1_pressureOfWhole := by decide +kernel
  have f0 := hts (.fieldLink RX1 108 "WellControl$Column" "load" "J") (by decide +kernel)
  unfold qX1_pressureOfWhole at hw
  refine lv_aload_n hx hb dX1_pressureOfWhole_0 rfl (lv_at hl 0 rfl) ?_
  refine lv_iload_n hx hb dX1_pressureOfWhole_1 rfl (lv_at hl 1 rfl) ?_
  by_cases c1 : p1 = 0
  · have hw := hw.1 c1
    refine mw_r (mv_V (As := [.int p1]) (rest := []) ⟨hx, hb, hml, hown, hts⟩ (kX1_column_p l D I O a H.size x p1 _ c1 hw) (cwV 1 hts gX1_pressureOfWhole_X1_column rfl rfl rfl hdVX1_column ⟨(Nat.le_of_ble_eq_true rfl), (Nat.le_of_ble_eq_true rfl)⟩) hK hP hD 0 1 rfl rfl rfl rfl hl.1 rfl (Nat.le_of_ble_eq_true rfl) dX1_pressureOfWhole_2 ⟨(Nat.le_of_ble_eq_true rfl), (Nat.le_of_ble_eq_true rfl)⟩) hP hD hS hA (fun _ H locs hw hP hD hS => ?_)
    have hP : va_P D vwCl (welB I a x) H := hP
    have hD : va_D (va_A (welB I a x) sz) (welB I a x) := hD
    refine va_get (ci := 0) (v := .long (zL (yP x))) (C := RX0) (T := TX0) (N := 6) hx hb hts hiX0 hown hK.1 hP 1 rfl rfl 5 (by decide) f0 (fun _ h9 => h9) rfl dX1_pressureOfWhole_5 ?_
    refine lv_aload_n hx hb dX1_pressureOfWhole_8 rfl (lv_at hl 0 rfl) ?_
    refine lv_iload_n hx hb dX1_pressureOfWhole_9 rfl (lv_at hl 1 rfl) ?_
    refine mw_i (mv_V (As := [.int p1]) (rest := [.long (zL (yP x))]) ⟨hx, hb, hml, hown, hts⟩ (kX1_capacity l D I O a H.size x p1 _ hw) (cwV 1 hts gX1_pressureOfWhole_X1_capacity rfl rfl rfl hdVX1_capacity ⟨(Nat.le_of_ble_eq_true rfl), (Nat.le_of_ble_eq_true rfl)⟩) hK hP hD 0 1 rfl rfl rfl rfl hl.1 rfl (Nat.le_of_ble_eq_true rfl) dX1_pressureOfWhole_10 ⟨(Nat.le_of_ble_eq_true rfl), (Nat.le_of_ble_eq_true rfl)⟩) hP hD hS hA (fun r2 _ H locs hw hP hD hS => ?_)
    have hP : va_P D vwCl (welB I a x) H := hP
    have hD : va_D (va_A (welB I a x) sz) (welB I a x) := hD
    refine m0_i (mv_S (As := [.long (zL (yP x)), .int r2]) (rest := []) ⟨hx, hb, hml, hown, hts⟩ (kX1_pressureOf l D I O H.size (zL (yP x)) r2 _ hw) (va_cwS 2 hts gX1_pressureOfWhole_X1_pressureOf rfl rfl rfl hdSX1_pressureOf ⟨(Nat.le_of_ble_eq_true rfl), (Nat.le_of_ble_eq_true rfl)⟩) hK (nil_P (D := D) (H := H)) (nil_D (A := va_A (welB I a x) sz)) rfl hl.1 rfl (Nat.le_of_ble_eq_true rfl) dX1_pressureOfWhole_13 ⟨(Nat.le_of_ble_eq_true rfl), (Nat.le_of_ble_eq_true rfl)⟩) hP hD hS hA (fun r3 _ H locs hw hP hD hS => ?_)
    exact m_iret (u := ()) hx hb hr hlocks hS hP hD dX1_pressureOfWhole_16 hw
  · have hw := hw.2 c1
    refine mw_r (mv_V (As := [.int p1]) (rest := []) ⟨hx, hb, hml, hown, hts⟩ (kX1_column_n l D I O a H.size x p1 _ c1 hw) (cwV 1 hts gX1_pressureOfWhole_X1_column rfl rfl rfl hdVX1_column ⟨(Nat.le_of_ble_eq_true rfl), (Nat.le_of_ble_eq_true rfl)⟩) hK hP hD 0 1 rfl rfl rfl rfl hl.1 rfl (Nat.le_of_ble_eq_true rfl) dX1_pressureOfWhole_2 ⟨(Nat.le_of_ble_eq_true rfl), (Nat.le_of_ble_eq_true rfl)⟩) hP hD hS hA (fun _ H locs hw hP hD hS => ?_)
    have hP : va_P D vwCl (welB I a x) H := hP
    have hD : va_D (va_A (welB I a x) sz) (welB I a x) := hD
    refine va_get (ci := 0) (v := .long (zL (yA x))) (C := RX0) (T := TX0) (N := 6) hx hb hts hiX0 hown hK.1 hP 4 rfl rfl 5 (by decide) f0 (fun _ h9 => h9) rfl dX1_pressureOfWhole_5 ?_
    refine lv_aload_n hx hb dX1_pressureOfWhole_8 rfl (lv_at hl 0 rfl) ?_
    refine lv_iload_n hx hb dX1_pressureOfWhole_9 rfl (lv_at hl 1 rfl) ?_
    refine mw_i (mv_V (As := [.int p1]) (rest := [.long (zL (yA x))]) ⟨hx, hb, hml, hown, hts⟩ (kX1_capacity l D I O a H.size x p1 _ hw) (cwV 1 hts gX1_pressureOfWhole_X1_capacity rfl rfl rfl hdVX1_capacity ⟨(Nat.le_of_ble_eq_true rfl), (Nat.le_of_ble_eq_true rfl)⟩) hK hP hD 0 1 rfl rfl rfl rfl hl.1 rfl (Nat.le_of_ble_eq_true rfl) dX1_pressureOfWhole_10 ⟨(Nat.le_of_ble_eq_true rfl), (Nat.le_of_ble_eq_true rfl)⟩) hP hD hS hA (fun r4 _ H locs hw hP hD hS => ?_)
    have hP : va_P D vwCl (welB I a x) H := hP
    have hD : va_D (va_A (welB I a x) sz) (welB I a x) := hD
    refine m0_i (mv_S (As := [.long (zL (yA x)), .int r4]) (rest := []) ⟨hx, hb, hml, hown, hts⟩ (kX1_pressureOf l D I O H.size (zL (yA x)) r4 _ hw) (va_cwS 2 hts gX1_pressureOfWhole_X1_pressureOf rfl rfl rfl hdSX1_pressureOf ⟨(Nat.le_of_ble_eq_true rfl), (Nat.le_of_ble_eq_true rfl)⟩) hK (nil_P (D := D) (H := H)) (nil_D (A := va_A (welB I a x) sz)) rfl hl.1 rfl (Nat.le_of_ble_eq_true rfl) dX1_pressureOfWhole_13 ⟨(Nat.le_of_ble_eq_true rfl), (Nat.le_of_ble_eq_true rfl)⟩) hP hD hS hA (fun r5 _ H locs hw hP hD hS => ?_)
    exact m_iret (u := ()) hx hb hr hlocks hS hP hD dX1_pressureOfWhole_16 hw
def qX1_pressureOfPart (x : Wel) (p1 : Int32) (p2 : Int32) (Q : Int32 → Prop) : Prop := (qX1_capacity x p1 (fun r1 => ((p1 = 0 → (qX0_loadAbove (yP x) (p2 * r1) (fun r3 => (qX1_pressureOf r3 r1 (fun r4 => Q r4))))) ∧ (¬ p1 = 0 → (qX0_loadAbove (yA x) (p2 * r1) (fun r5 => (qX1_pressureOf r5 r1 (fun r6 => Q r6))))))))
set_option maxHeartbeats 4000000 in
set_option maxRecDepth 100000 in
theorem kX1_pressureOfPart (l : Launch) (D : va_G) (I O : ClassId) (a : WA) (sz : Nat) (x : Wel) (p1 : Int32) (p2 : Int32) (Q : Int32 → Prop) (hw : qX1_pressureOfPart x p1 p2 Q) : Met l yX1_pressureOfPart wsX1_pressureOfPart rX1_pressureOfPart (mPc D I O [.ref a.1, .int p1, .int p2] (welB I a x) sz) (va_Qi (fun r (_ : Unit) => Q r) (mB D (va_A (welB I a x) sz) (fun _ => welB I a x)) (va_A (welB I a x) sz)) 0 0 (va_A (welB I a x) sz) := by
  refine m_start (by decide) rfl (Nat.le_of_ble_eq_true rfl) (fun p e s m below meth c ls H locs hx hb hr hml hts hown hlocks hnm hK hP hD hA hS hl => ?_)
  have hown : s.vm.findClass RX1 = some m.cls := hown
  have hl : lv_has ls 4 [(0, .ref a.1), (1, .int p1), (2, .int p2)] := hl
  unfold qX1_pressureOfPart at hw
  refine lv_aload_n hx hb dX1_pressureOfPart_0 rfl (lv_at hl 0 rfl) ?_
  refine lv_iload_n hx hb dX1_pressureOfPart_1 rfl (lv_at hl 1 rfl) ?_
  refine mw_i (mv_V (As := [.int p1]) (rest := []) ⟨hx, hb, hml, hown, hts⟩ (kX1_capacity l D I O a H.size x p1 _ hw) (cwV 1 hts gX1_pressureOfPart_X1_capacity rfl rfl rfl hdVX1_capacity ⟨(Nat.le_of_ble_eq_true rfl), (Nat.le_of_ble_eq_true rfl)⟩) hK hP hD 0 1 rfl rfl rfl rfl hl.1 rfl (Nat.le_of_ble_eq_true rfl) dX1_pressureOfPart_2 ⟨(Nat.le_of_ble_eq_true rfl), (Nat.le_of_ble_eq_true rfl)⟩) hP hD hS hA (fun r1 _ H locs hw hP hD hS => ?_)
  have hP : va_P D vwCl (welB I a x) H := hP
  have hD : va_D (va_A (welB I a x) sz) (welB I a x) := hD
  refine lv_istore_n (lv' := [(3, .int r1), (0, .ref a.1), (1, .int p1), (2, .int p2)]) hx hb dX1_pressureOfPart_5 rfl hl (by decide) rfl (fun ls hl => ?_)
  refine lv_aload_n hx hb dX1_pressureOfPart_6 rfl (lv_at hl 1 rfl) ?_
  refine lv_iload_n hx hb dX1_pressureOfPart_7 rfl (lv_at hl 2 rfl) ?_
  by_cases c2 : p1 = 0
  · have hw := hw.1 c2
    refine mw_r (mv_V (As := [.int p1]) (rest := []) ⟨hx, hb, hml, hown, hts⟩ (kX1_column_p l D I O a H.size x p1 _ c2 hw) (cwV 1 hts gX1_pressureOfPart_X1_column rfl rfl rfl hdVX1_column ⟨(Nat.le_of_ble_eq_true rfl), (Nat.le_of_ble_eq_true rfl)⟩) hK hP hD 0 1 rfl rfl rfl rfl hl.1 rfl (Nat.le_of_ble_eq_true rfl) dX1_pressureOfPart_8 ⟨(Nat.le_of_ble_eq_true rfl), (Nat.le_of_ble_eq_true rfl)⟩) hP hD hS hA (fun _ H locs hw hP hD hS => ?_)
    have hP : va_P D vwCl (welB I a x) H := hP
    have hD : va_D (va_A (welB I a x) sz) (welB I a x) := hD
    refine lv_iload_n hx hb dX1_pressureOfPart_11 rfl (lv_at hl 3 rfl) ?_
    refine lv_iload_n hx hb dX1_pressureOfPart_12 rfl (lv_at hl 0 rfl) ?_
    refine lv_imul hx hb dX1_pressureOfPart_13 ?_
    have hPc := va_P.mid (X := [welO a x]) (wc := colB I a.2.1 (yP x)) (Y := colB I a.2.2 (yA x)) hP
    have hDc := va_D.mid (X := [welO a x]) (wc := colB I a.2.1 (yP x)) (Y := colB I a.2.2 (yA x)) hD
    refine mc_l ([welO a x]) (colB I a.2.2 (yA x)) (mv_V (As := [.int (p2 * r1)]) (rest := []) ⟨hx, hb, hml, hown, hts⟩ (kX0_loadAbove l D I O a.2.1 H.size (yP x) (p2 * r1) _ hw) (cwV 1 hts gX1_pressureOfPart_X0_loadAbove rfl rfl rfl hdVX0_loadAbove ⟨(Nat.le_of_ble_eq_true rfl), (Nat.le_of_ble_eq_true rfl)⟩) hK hPc hDc 0 0 rfl rfl rfl rfl hl.1 rfl (Nat.le_of_ble_eq_true rfl) dX1_pressureOfPart_14 ⟨(Nat.le_of_ble_eq_true rfl), (Nat.le_of_ble_eq_true rfl)⟩) hP hD hS hA (fun r3 _ H locs hw hP hD hS => ?_)
    have hP : va_P D vwCl (welB I a x) H := hP
    have hD : va_D (va_A (welB I a x) sz) (welB I a x) := hD
    refine lv_iload_n hx hb dX1_pressureOfPart_17 rfl (lv_at hl 0 rfl) ?_
    refine m0_i (mv_S (As := [.long r3, .int r1]) (rest := []) ⟨hx, hb, hml, hown, hts⟩ (kX1_pressureOf l D I O H.size r3 r1 _ hw) (va_cwS 2 hts gX1_pressureOfPart_X1_pressureOf rfl rfl rfl hdSX1_pressureOf ⟨(Nat.le_of_ble_eq_true rfl), (Nat.le_of_ble_eq_true rfl)⟩) hK (nil_P (D := D) (H := H)) (nil_D (A := va_A (welB I a x) sz)) rfl hl.1 rfl (Nat.le_of_ble_eq_true rfl) dX1_pressureOfPart_18 ⟨(Nat.le_of_ble_eq_true rfl), (Nat.le_of_ble_eq_true rfl)⟩) hP hD hS hA (fun r4 _ H locs hw hP hD hS => ?_)
    exact m_iret (u := ()) hx hb hr hlocks hS hP hD dX1_pressureOfPart_21 hw
  · have hw := hw.2 c2
    refine mw_r (mv_V (As := [.int p1]) (rest := []) ⟨hx, hb, hml, hown, hts⟩ (kX1_column_n l D I O a H.size x p1 _ c2 hw) (cwV 1 hts gX1_pressureOfPart_X1_column rfl rfl rfl hdVX1_column ⟨(Nat.le_of_ble_eq_true rfl), (Nat.le_of_ble_eq_true rfl)⟩) hK hP hD 0 1 rfl rfl rfl rfl hl.1 rfl (Nat.le_of_ble_eq_true rfl) dX1_pressureOfPart_8 ⟨(Nat.le_of_ble_eq_true rfl), (Nat.le_of_ble_eq_true rfl)⟩) hP hD hS hA (fun _ H locs hw hP hD hS => ?_)
    have hP : va_P D vwCl (welB I a x) H := hP
    have hD : va_D (va_A (welB I a x) sz) (welB I a x) := hD
    refine lv_iload_n hx hb dX1_pressureOfPart_11 rfl (lv_at hl 3 rfl) ?_
    refine lv_iload_n hx hb dX1_pressureOfPart_12 rfl (lv_at hl 0 rfl) ?_
    refine lv_imul hx hb dX1_pressureOfPart_13 ?_
    have hPc := va_P.mid (X := welO a x :: colB I a.2.1 (yP x)) (wc := colB I a.2.2 (yA x)) (Y := []) hP
    have hDc := va_D.mid (X := welO a x :: colB I a.2.1 (yP x)) (wc := colB I a.2.2 (yA x)) (Y := []) hD
    refine mc_l (welO a x :: colB I a.2.1 (yP x)) ([]) (mv_V (As := [.int (p2 * r1)]) (rest := []) ⟨hx, hb, hml, hown, hts⟩ (kX0_loadAbove l D I O a.2.2 H.size (yA x) (p2 * r1) _ hw) (cwV 1 hts gX1_pressureOfPart_X0_loadAbove rfl rfl rfl hdVX0_loadAbove ⟨(Nat.le_of_ble_eq_true rfl), (Nat.le_of_ble_eq_true rfl)⟩) hK hPc hDc 0 0 rfl rfl rfl rfl hl.1 rfl (Nat.le_of_ble_eq_true rfl) dX1_pressureOfPart_14 ⟨(Nat.le_of_ble_eq_true rfl), (Nat.le_of_ble_eq_true rfl)⟩) hP hD hS hA (fun r5 _ H locs hw hP hD hS => ?_)
    have hP : va_P D vwCl (welB I a x) H := hP
    have hD : va_D (va_A (welB I a x) sz) (welB I a x) := hD
    refine lv_iload_n hx hb dX1_pressureOfPart_17 rfl (lv_at hl 0 rfl) ?_
    refine m0_i (mv_S (As := [.long r5, .int r1]) (rest := []) ⟨hx, hb, hml, hown, hts⟩ (kX1_pressureOf l D I O H.size r5 r1 _ hw) (va_cwS 2 hts gX1_pressureOfPart_X1_pressureOf rfl rfl rfl hdSX1_pressureOf ⟨(Nat.le_of_ble_eq_true rfl), (Nat.le_of_ble_eq_true rfl)⟩) hK (nil_P (D := D) (H := H)) (nil_D (A := va_A (welB I a x) sz)) rfl hl.1 rfl (Nat.le_of_ble_eq_true rfl) dX1_pressureOfPart_18 ⟨(Nat.le_of_ble_eq_true rfl), (Nat.le_of_ble_eq_true rfl)⟩) hP hD hS hA (fun r6 _ H locs hw hP hD hS => ?_)
    exact m_iret (u := ()) hx hb hr hlocks hS hP hD dX1_pressureOfPart_21 hw
def qX1_pressureAtPipe (x : Wel) (Q : Int32 → Prop) : Prop := (qX1_pressureOfWhole x 0 (fun r1 => Q (if (0 : Int32) < ((y5 x) - r1) then ((y5 x) - r1) else 0)))
set_option maxHeartbeats 4000000 in
set_option maxRecDepth 100000 in
theorem kX1_pressureAtPipe (l : Launch) (D : va_G) (I O : ClassId) (a : WA) (sz : Nat) (x : Wel) (Q : Int32 → Prop) (hw : qX1_pressureAtPipe x Q) : Met l yX1_pressureAtPipe wsX1_pressureAtPipe rX1_pressureAtPipe (mPc D I O [.ref a.1] (welB I a x) sz) (va_Qi (fun r (_ : Unit) => Q r) (mB D (va_A (welB I a x) sz) (fun _ => welB I a x)) (va_A (welB I a x) sz)) 0 0 (va_A (welB I a x) sz) := by
  refine m_start (by decide) rfl (Nat.le_of_ble_eq_true rfl) (fun p e s m below meth c ls H locs hx hb hr hml hts hown hlocks hnm hK hP hD hA hS hl => ?_)
  have hown : s.vm.findClass RX1 = some m.cls := hown
  have hl : lv_has ls 1 [(0, .ref a.1)] := hl
  have hiX1 : ∀ w ∈ wsX10, w ∈ wsX1_pressureAtPipe := by decide +kernel
  have f0 := hts (.fieldLink RX1 27 "WellControl$Well" "formation" "I") (by decide +kernel)
  have f1 := hts (.methodLink RX1 99 Lib.Math.max.name) (by decide +kernel)
  have f2 := hts (.static Lib.Math.max.name) (by decide +kernel)
  have f3 := hts (.initialized "java/lang/Math") (by decide +kernel)
  have f4 := hts (.code Lib.Math.max.name Lib.Math.max.code 2 (some .int)) (by decide +kernel)
  unfold qX1_pressureAtPipe at hw
  refine lv_iconst (v := 0) hx hb dX1_pressureAtPipe_0 (by decide) ?_
  refine lv_aload_n hx hb dX1_pressureAtPipe_1 rfl (lv_at hl 0 rfl) ?_
  refine va_get (ci := 1) (v := .int (y5 x)) (C := RX1) (T := TX1) (N := 13) hx hb hts hiX1 hown hK.1 hP 0 rfl rfl 5 (by decide) f0 (fun _ h9 => h9) rfl dX1_pressureAtPipe_2 ?_
  refine lv_aload_n hx hb dX1_pressureAtPipe_5 rfl (lv_at hl 0 rfl) ?_
  refine lv_iconst (v := 0) hx hb dX1_pressureAtPipe_6 (by decide) ?_
  refine mw_i (mv_V (As := [.int 0]) (rest := [.int (y5 x), .int 0]) ⟨hx, hb, hml, hown, hts⟩ (kX1_pressureOfWhole l D I O a H.size x 0 _ hw) (cwV 1 hts gX1_pressureAtPipe_X1_pressureOfWhole rfl rfl rfl hdVX1_pressureOfWhole ⟨(Nat.le_of_ble_eq_true rfl), (Nat.le_of_ble_eq_true rfl)⟩) hK hP hD 0 1 rfl rfl rfl rfl hl.1 rfl (Nat.le_of_ble_eq_true rfl) dX1_pressureAtPipe_7 ⟨(Nat.le_of_ble_eq_true rfl), (Nat.le_of_ble_eq_true rfl)⟩) hP hD hS hA (fun r1 _ H locs hw hP hD hS => ?_)
  have hP : va_P D vwCl (welB I a x) H := hP
  have hD : va_D (va_A (welB I a x) sz) (welB I a x) := hD
  refine lv_isub hx hb dX1_pressureAtPipe_10 ?_
  refine va_mmax hx hb (hml.trans hl.1.symm) hown f1 f2 f3 f4 (Nat.le_of_ble_eq_true rfl) (Nat.le_of_ble_eq_true rfl) (Nat.le_of_ble_eq_true rfl) (Nat.le_of_ble_eq_true rfl) dX1_pressureAtPipe_11 ?_
  exact m_iret (u := ()) hx hb hr hlocks hS hP hD dX1_pressureAtPipe_14 hw
def qX1_pressureAtCasing (x : Wel) (Q : Int32 → Prop) : Prop := (qX1_pressureOfWhole x 1 (fun r1 => Q (if (0 : Int32) < ((y5 x) - r1) then ((y5 x) - r1) else 0)))
set_option maxHeartbeats 4000000 in
set_option maxRecDepth 100000 in
theorem kX1_pressureAtCasing (l : Launch) (D : va_G) (I O : ClassId) (a : WA) (sz : Nat) (x : Wel) (Q : Int32 → Prop) (hw : qX1_pressureAtCasing x Q) : Met l yX1_pressureAtCasing wsX1_pressureAtCasing rX1_pressureAtCasing (mPc D I O [.ref a.1] (welB I a x) sz) (va_Qi (fun r (_ : Unit) => Q r) (mB D (va_A (welB I a x) sz) (fun _ => welB I a x)) (va_A (welB I a x) sz)) 0 0 (va_A (welB I a x) sz) := by
  refine m_start (by decide) rfl (Nat.le_of_ble_eq_true rfl) (fun p e s m below meth c ls H locs hx hb hr hml hts hown hlocks hnm hK hP hD hA hS hl => ?_)
  have hown : s.vm.findClass RX1 = some m.cls := hown
  have hl : lv_has ls 1 [(0, .ref a.1)] := hl
  have hiX1 : ∀ w ∈ wsX10, w ∈ wsX1_pressureAtCasing := by decide +kernel
  have f0 := hts (.fieldLink RX1 27 "WellControl$Well" "formation" "I") (by decide +kernel)
  have f1 := hts (.methodLink RX1 99 Lib.Math.max.name) (by decide +kernel)
  have f2 := hts (.static Lib.Math.max.name) (by decide +kernel)
  have f3 := hts (.initialized "java/lang/Math") (by decide +kernel)
  have f4 := hts (.code Lib.Math.max.name Lib.Math.max.code 2 (some .int)) (by decide +kernel)
  unfold qX1_pressureAtCasing at hw
  refine lv_iconst (v := 0) hx hb dX1_pressureAtCasing_0 (by decide) ?_
  refine lv_aload_n hx hb dX1_pressureAtCasing_1 rfl (lv_at hl 0 rfl) ?_
  refine va_get (ci := 1) (v := .int (y5 x)) (C := RX1) (T := TX1) (N := 13) hx hb hts hiX1 hown hK.1 hP 0 rfl rfl 5 (by decide) f0 (fun _ h9 => h9) rfl dX1_pressureAtCasing_2 ?_
  refine lv_aload_n hx hb dX1_pressureAtCasing_5 rfl (lv_at hl 0 rfl) ?_
  refine lv_iconst (v := 1) hx hb dX1_pressureAtCasing_6 (by decide) ?_
  refine mw_i (mv_V (As := [.int 1]) (rest := [.int (y5 x), .int 0]) ⟨hx, hb, hml, hown, hts⟩ (kX1_pressureOfWhole l D I O a H.size x 1 _ hw) (cwV 1 hts gX1_pressureAtCasing_X1_pressureOfWhole rfl rfl rfl hdVX1_pressureOfWhole ⟨(Nat.le_of_ble_eq_true rfl), (Nat.le_of_ble_eq_true rfl)⟩) hK hP hD 0 1 rfl rfl rfl rfl hl.1 rfl (Nat.le_of_ble_eq_true rfl) dX1_pressureAtCasing_7 ⟨(Nat.le_of_ble_eq_true rfl), (Nat.le_of_ble_eq_true rfl)⟩) hP hD hS hA (fun r1 _ H locs hw hP hD hS => ?_)
  have hP : va_P D vwCl (welB I a x) H := hP
  have hD : va_D (va_A (welB I a x) sz) (welB I a x) := hD
  refine lv_isub hx hb dX1_pressureAtCasing_10 ?_
  refine va_mmax hx hb (hml.trans hl.1.symm) hown f1 f2 f3 f4 (Nat.le_of_ble_eq_true rfl) (Nat.le_of_ble_eq_true rfl) (Nat.le_of_ble_eq_true rfl) (Nat.le_of_ble_eq_true rfl) dX1_pressureAtCasing_11 ?_
  exact m_iret (u := ()) hx hb hr hlocks hS hP hD dX1_pressureAtCasing_14 hw
def qX1_pressureAtStandpipe (x : Wel) (Q : Int32 → Prop) : Prop := (qX1_pressureAtPipe x (fun r1 => Q ((y6 x) + r1)))
set_option maxHeartbeats 4000000 in
set_option maxRecDepth 100000 in
theorem kX1_pressureAtStandpipe (l : Launch) (D : va_G) (I O : ClassId) (a : WA) (sz : Nat) (x : Wel) (Q : Int32 → Prop) (hw : qX1_pressureAtStandpipe x Q) : Met l yX1_pressureAtStandpipe wsX1_pressureAtStandpipe rX1_pressureAtStandpipe (mPc D I O [.ref a.1] (welB I a x) sz) (va_Qi (fun r (_ : Unit) => Q r) (mB D (va_A (welB I a x) sz) (fun _ => welB I a x)) (va_A (welB I a x) sz)) 0 0 (va_A (welB I a x) sz) := by
  refine m_start (by decide) rfl (Nat.le_of_ble_eq_true rfl) (fun p e s m below meth c ls H locs hx hb hr hml hts hown hlocks hnm hK hP hD hA hS hl => ?_)
  have hown : s.vm.findClass RX1 = some m.cls := hown
  have hl : lv_has ls 1 [(0, .ref a.1)] := hl
  have hiX1 : ∀ w ∈ wsX10, w ∈ wsX1_pressureAtStandpipe := by decide +kernel
  have f0 := hts (.fieldLink RX1 30 "WellControl$Well" "slowPump" "I") (by decide +kernel)
  unfold qX1_pressureAtStandpipe at hw
  refine lv_aload_n hx hb dX1_pressureAtStandpipe_0 rfl (lv_at hl 0 rfl) ?_
  refine va_get (ci := 1) (v := .int (y6 x)) (C := RX1) (T := TX1) (N := 13) hx hb hts hiX1 hown hK.1 hP 0 rfl rfl 6 (by decide) f0 (fun _ h9 => h9) rfl dX1_pressureAtStandpipe_1 ?_
  refine lv_aload_n hx hb dX1_pressureAtStandpipe_4 rfl (lv_at hl 0 rfl) ?_
  refine mw_i (mv_V (As := []) (rest := [.int (y6 x)]) ⟨hx, hb, hml, hown, hts⟩ (kX1_pressureAtPipe l D I O a H.size x _ hw) (cwV 0 hts gX1_pressureAtStandpipe_X1_pressureAtPipe rfl rfl rfl hdVX1_pressureAtPipe ⟨(Nat.le_of_ble_eq_true rfl), (Nat.le_of_ble_eq_true rfl)⟩) hK hP hD 0 1 rfl rfl rfl rfl hl.1 rfl (Nat.le_of_ble_eq_true rfl) dX1_pressureAtStandpipe_5 ⟨(Nat.le_of_ble_eq_true rfl), (Nat.le_of_ble_eq_true rfl)⟩) hP hD hS hA (fun r1 _ H locs hw hP hD hS => ?_)
  have hP : va_P D vwCl (welB I a x) H := hP
  have hD : va_D (va_A (welB I a x) sz) (welB I a x) := hD
  refine lv_iadd hx hb dX1_pressureAtStandpipe_8 ?_
  exact m_iret (u := ()) hx hb hr hlocks hS hP hD dX1_pressureAtStandpipe_9 hw
def qX1_pressureAtShoe (x : Wel) (Q : Int32 → Prop) : Prop := (qX1_pressureAtCasing x (fun r1 => (qX1_pressureOfPart x 1 (y3 x) (fun r2 => Q (r1 + r2)))))
set_option maxHeartbeats 4000000 in
set_option maxRecDepth 100000 in
theorem kX1_pressureAtShoe (l : Launch) (D : va_G) (I O : ClassId) (a : WA) (sz : Nat) (x : Wel) (Q : Int32 → Prop) (hw : qX1_pressureAtShoe x Q) : Met l yX1_pressureAtShoe wsX1_pressureAtShoe rX1_pressureAtShoe (mPc D I O [.ref a.1] (welB I a x) sz) (va_Qi (fun r (_ : Unit) => Q r) (mB D (va_A (welB I a x) sz) (fun _ => welB I a x)) (va_A (welB I a x) sz)) 0 0 (va_A (welB I a x) sz) := by
  refine m_start (by decide) rfl (Nat.le_of_ble_eq_true rfl) (fun p e s m below meth c ls H locs hx hb hr hml hts hown hlocks hnm hK hP hD hA hS hl => ?_)
  have hown : s.vm.findClass RX1 = some m.cls := hown
  have hl : lv_has ls 1 [(0, .ref a.1)] := hl
  have hiX1 : ∀ w ∈ wsX10, w ∈ wsX1_pressureAtShoe := by decide +kernel
  have f0 := hts (.fieldLink RX1 21 "WellControl$Well" "shoe" "I") (by decide +kernel)
  unfold qX1_pressureAtShoe at hw
  refine lv_aload_n hx hb dX1_pressureAtShoe_0 rfl (lv_at hl 0 rfl) ?_
  refine mw_i (mv_V (As := []) (rest := []) ⟨hx, hb, hml, hown, hts⟩ (kX1_pressureAtCasing l D I O a H.size x _ hw) (cwV 0 hts gX1_pressureAtShoe_X1_pressureAtCasing rfl rfl rfl hdVX1_pressureAtCasing ⟨(Nat.le_of_ble_eq_true rfl), (Nat.le_of_ble_eq_true rfl)⟩) hK hP hD 0 1 rfl rfl rfl rfl hl.1 rfl (Nat.le_of_ble_eq_true rfl) dX1_pressureAtShoe_1 ⟨(Nat.le_of_ble_eq_true rfl), (Nat.le_of_ble_eq_true rfl)⟩) hP hD hS hA (fun r1 _ H locs hw hP hD hS => ?_)
  have hP : va_P D vwCl (welB I a x) H := hP
  have hD : va_D (va_A (welB I a x) sz) (welB I a x) := hD
  refine lv_aload_n hx hb dX1_pressureAtShoe_4 rfl (lv_at hl 0 rfl) ?_
  refine lv_iconst (v := 1) hx hb dX1_pressureAtShoe_5 (by decide) ?_
  refine lv_aload_n hx hb dX1_pressureAtShoe_6 rfl (lv_at hl 0 rfl) ?_
  refine va_get (ci := 1) (v := .int (y3 x)) (C := RX1) (T := TX1) (N := 13) hx hb hts hiX1 hown hK.1 hP 0 rfl rfl 3 (by decide) f0 (fun _ h9 => h9) rfl dX1_pressureAtShoe_7 ?_
  refine mw_i (mv_V (As := [.int 1, .int (y3 x)]) (rest := [.int r1]) ⟨hx, hb, hml, hown, hts⟩ (kX1_pressureOfPart l D I O a H.size x 1 (y3 x) _ hw) (cwV 2 hts gX1_pressureAtShoe_X1_pressureOfPart rfl rfl rfl hdVX1_pressureOfPart ⟨(Nat.le_of_ble_eq_true rfl), (Nat.le_of_ble_eq_true rfl)⟩) hK hP hD 0 1 rfl rfl rfl rfl hl.1 rfl (Nat.le_of_ble_eq_true rfl) dX1_pressureAtShoe_10 ⟨(Nat.le_of_ble_eq_true rfl), (Nat.le_of_ble_eq_true rfl)⟩) hP hD hS hA (fun r2 _ H locs hw hP hD hS => ?_)
  have hP : va_P D vwCl (welB I a x) H := hP
  have hD : va_D (va_A (welB I a x) sz) (welB I a x) := hD
  refine lv_iadd hx hb dX1_pressureAtShoe_13 ?_
  exact m_iret (u := ()) hx hb hr hlocks hS hP hD dX1_pressureAtShoe_14 hw
def qX1_checkShoe (x : Wel) (Q : Wel → Prop) : Prop := (qX1_pressureAtShoe x (fun r1 => ((r1 ≤ (y7 x) → Q (y0 x, y1 x, y2 x, y3 x, y4 x, y5 x, y6 x, y7 x, y8 x, y9 x, (if (y10 x) < r1 then r1 else (y10 x)), yP x, yA x)) ∧ (¬ r1 ≤ (y7 x) → Q (y0 x, y1 x, y2 x, y3 x, y4 x, y5 x, y6 x, y7 x, y8 x, (y9 x) + 1, (if (y10 x) < r1 then r1 else (y10 x)), yP x, yA x)))))
set_option maxHeartbeats 4000000 in
set_option maxRecDepth 100000 in
theorem kX1_checkShoe (l : Launch) (D : va_G) (I O : ClassId) (a : WA) (sz : Nat) (x : Wel) (Q : Wel → Prop) (hw : qX1_checkShoe x Q) : Met l yX1_checkShoe wsX1_checkShoe rX1_checkShoe (mPc D I O [.ref a.1] (welB I a x) sz) (va_Qv (fun (u : Wel) => Q u) (mB D (va_A (welB I a x) sz) (fun u => welB I a u)) (va_A (welB I a x) sz)) 0 0 (va_A (welB I a x) sz) := by
  refine m_start (by decide) rfl (Nat.le_of_ble_eq_true rfl) (fun p e s m below meth c ls H locs hx hb hr hml hts hown hlocks hnm hK hP hD hA hS hl => ?_)
  have hown : s.vm.findClass RX1 = some m.cls := hown
  have hl : lv_has ls 2 [(0, .ref a.1)] := hl
  have hiX1 : ∀ w ∈ wsX10, w ∈ wsX1_checkShoe := by decide +kernel
  have f0 := hts (.fieldLink RX1 33 "WellControl$Well" "fracture" "I") (by decide +kernel)
  have f1 := hts (.fieldLink RX1 71 "WellControl$Well" "greatestAtShoe" "I") (by decide +kernel)
  have f2 := hts (.methodLink RX1 99 Lib.Math.max.name) (by decide +kernel)
  have f3 := hts (.static Lib.Math.max.name) (by decide +kernel)
  have f4 := hts (.initialized "java/lang/Math") (by decide +kernel)
  have f5 := hts (.code Lib.Math.max.name Lib.Math.max.code 2 (some .int)) (by decide +kernel)
  have f6 := hts (.fieldLink RX1 68 "WellControl$Well" "timesBroken" "I") (by decide +kernel)
  unfold qX1_checkShoe at hw
  refine lv_aload_n hx hb dX1_checkShoe_0 rfl (lv_at hl 0 rfl) ?_
  refine mw_i (mv_V (As := []) (rest := []) ⟨hx, hb, hml, hown, hts⟩ (kX1_pressureAtShoe l D I O a H.size x _ hw) (cwV 0 hts gX1_checkShoe_X1_pressureAtShoe rfl rfl rfl hdVX1_pressureAtShoe ⟨(Nat.le_of_ble_eq_true rfl), (Nat.le_of_ble_eq_true rfl)⟩) hK hP hD 0 1 rfl rfl rfl rfl hl.1 rfl (Nat.le_of_ble_eq_true rfl) dX1_checkShoe_1 ⟨(Nat.le_of_ble_eq_true rfl), (Nat.le_of_ble_eq_true rfl)⟩) hP hD hS hA (fun r1 _ H locs hw hP hD hS => ?_)
  have hP : va_P D vwCl (welB I a x) H := hP
  have hD : va_D (va_A (welB I a x) sz) (welB I a x) := hD
  refine lv_istore_n (lv' := [(1, .int r1), (0, .ref a.1)]) hx hb dX1_checkShoe_4 rfl hl (by decide) rfl (fun ls hl => ?_)
  refine lv_iload_n hx hb dX1_checkShoe_5 rfl (lv_at hl 0 rfl) ?_
  refine lv_aload_n hx hb dX1_checkShoe_6 rfl (lv_at hl 1 rfl) ?_
  refine va_get (ci := 1) (v := .int (y7 x)) (C := RX1) (T := TX1) (N := 13) hx hb hts hiX1 hown hK.1 hP 0 rfl rfl 7 (by decide) f0 (fun _ h9 => h9) rfl dX1_checkShoe_7 ?_
  refine lv_icmp_le (tgt := 23) hx hb dX1_checkShoe_10 (by decide) (fun c2 => ?_) (fun c2 => ?_)
  · have hw := hw.1 c2
    refine lv_aload_n hx hb dX1_checkShoe_23 rfl (lv_at hl 1 rfl) ?_
    refine lv_aload_n hx hb dX1_checkShoe_24 rfl (lv_at hl 1 rfl) ?_
    refine va_get (ci := 1) (v := .int (y10 x)) (C := RX1) (T := TX1) (N := 13) hx hb hts hiX1 hown hK.1 hP 0 rfl rfl 10 (by decide) f1 (fun _ h9 => h9) rfl dX1_checkShoe_25 ?_
    refine lv_iload_n hx hb dX1_checkShoe_28 rfl (lv_at hl 0 rfl) ?_
    refine va_mmax hx hb (hml.trans hl.1.symm) hown f2 f3 f4 f5 (Nat.le_of_ble_eq_true rfl) (Nat.le_of_ble_eq_true rfl) (Nat.le_of_ble_eq_true rfl) (Nat.le_of_ble_eq_true rfl) dX1_checkShoe_29 ?_
    refine va_put (ci := 1) (v := .int (if (y10 x) < r1 then r1 else (y10 x))) (ty := .int) (C := RX1) (T := TX1) (N := 13) hx hb hts hiX1 tyX1 tyX1_ok nmX1 hown hK.1 hP hD hS 0 rfl rfl 10 (by decide) f1 (fun _ h9 => h9) rfl (by decide +kernel) rfl rfl (Nat.le_of_ble_eq_true rfl) dX1_checkShoe_32 (fun H locs hP hD hS => ?_)
    have hP : va_P D vwCl (welB I a (y0 x, y1 x, y2 x, y3 x, y4 x, y5 x, y6 x, y7 x, y8 x, y9 x, (if (y10 x) < r1 then r1 else (y10 x)), yP x, yA x)) H := hP
    have hD : va_D (va_A (welB I a x) sz) (welB I a (y0 x, y1 x, y2 x, y3 x, y4 x, y5 x, y6 x, y7 x, y8 x, y9 x, (if (y10 x) < r1 then r1 else (y10 x)), yP x, yA x)) := hD
    exact m_vret (u := (y0 x, y1 x, y2 x, y3 x, y4 x, y5 x, y6 x, y7 x, y8 x, y9 x, (if (y10 x) < r1 then r1 else (y10 x)), yP x, yA x)) hx hb hr hlocks hS hP hD dX1_checkShoe_35 hw
  · have hw := hw.2 c2
    refine lv_aload_n hx hb dX1_checkShoe_13 rfl (lv_at hl 1 rfl) ?_
    refine lv_dup hx hb dX1_checkShoe_14 rfl ?_
    refine va_get (ci := 1) (v := .int (y9 x)) (C := RX1) (T := TX1) (N := 13) hx hb hts hiX1 hown hK.1 hP 0 rfl rfl 9 (by decide) f6 (fun _ h9 => h9) rfl dX1_checkShoe_15 ?_
    refine lv_iconst (v := 1) hx hb dX1_checkShoe_18 (by decide) ?_
    refine lv_iadd hx hb dX1_checkShoe_19 ?_
    refine va_put (ci := 1) (v := .int ((y9 x) + 1)) (ty := .int) (C := RX1) (T := TX1) (N := 13) hx hb hts hiX1 tyX1 tyX1_ok nmX1 hown hK.1 hP hD hS 0 rfl rfl 9 (by decide) f6 (fun _ h9 => h9) rfl (by decide +kernel) rfl rfl (Nat.le_of_ble_eq_true rfl) dX1_checkShoe_20 (fun H locs hP hD hS => ?_)
    have hP : va_P D vwCl (welB I a (y0 x, y1 x, y2 x, y3 x, y4 x, y5 x, y6 x, y7 x, y8 x, (y9 x) + 1, y10 x, yP x, yA x)) H := hP
    have hD : va_D (va_A (welB I a x) sz) (welB I a (y0 x, y1 x, y2 x, y3 x, y4 x, y5 x, y6 x, y7 x, y8 x, (y9 x) + 1, y10 x, yP x, yA x)) := hD
    refine lv_aload_n hx hb dX1_checkShoe_23 rfl (lv_at hl 1 rfl) ?_
    refine lv_aload_n hx hb dX1_checkShoe_24 rfl (lv_at hl 1 rfl) ?_
    refine va_get (ci := 1) (v := .int (y10 x)) (C := RX1) (T := TX1) (N := 13) hx hb hts hiX1 hown hK.1 hP 0 rfl rfl 10 (by decide) f1 (fun _ h9 => h9) rfl dX1_checkShoe_25 ?_
    refine lv_iload_n hx hb dX1_checkShoe_28 rfl (lv_at hl 0 rfl) ?_
    refine va_mmax hx hb (hml.trans hl.1.symm) hown f2 f3 f4 f5 (Nat.le_of_ble_eq_true rfl) (Nat.le_of_ble_eq_true rfl) (Nat.le_of_ble_eq_true rfl) (Nat.le_of_ble_eq_true rfl) dX1_checkShoe_29 ?_
    refine va_put (ci := 1) (v := .int (if (y10 x) < r1 then r1 else (y10 x))) (ty := .int) (C := RX1) (T := TX1) (N := 13) hx hb hts hiX1 tyX1 tyX1_ok nmX1 hown hK.1 hP hD hS 0 rfl rfl 10 (by decide) f1 (fun _ h9 => h9) rfl (by decide +kernel) rfl rfl (Nat.le_of_ble_eq_true rfl) dX1_checkShoe_32 (fun H locs hP hD hS => ?_)
    have hP : va_P D vwCl (welB I a (y0 x, y1 x, y2 x, y3 x, y4 x, y5 x, y6 x, y7 x, y8 x, (y9 x) + 1, (if (y10 x) < r1 then r1 else (y10 x)), yP x, yA x)) H := hP
    have hD : va_D (va_A (welB I a x) sz) (welB I a (y0 x, y1 x, y2 x, y3 x, y4 x, y5 x, y6 x, y7 x, y8 x, (y9 x) + 1, (if (y10 x) < r1 then r1 else (y10 x)), yP x, yA x)) := hD
    exact m_vret (u := (y0 x, y1 x, y2 x, y3 x, y4 x, y5 x, y6 x, y7 x, y8 x, (y9 x) + 1, (if (y10 x) < r1 then r1 else (y10 x)), yP x, yA x)) hx hb hr hlocks hS hP hD dX1_checkShoe_35 hw
