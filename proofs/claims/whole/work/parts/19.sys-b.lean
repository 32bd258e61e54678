def qX2_hydrostatic (x : Sys) (p1 : Int32) (Q : Int32 → Sys → Prop) : Prop := (qX2_within p1 0 1 (fun r1 => ((¬ r1 = 0 → (qX1_pressureOfWhole (sW x) p1 (fun r3 => Q r3 x))) ∧ (r1 = 0 → (qX2_refuse x (-2) (fun r4 u5 => Q r4 u5))))))
set_option maxHeartbeats 4000000 in
set_option maxRecDepth 100000 in
theorem kX2_hydrostatic (l : Launch) (D : va_G) (I O : ClassId) (a : SA) (sz : Nat) (x : Sys) (p1 : Int32) (Q : Int32 → Sys → Prop) (hw : qX2_hydrostatic x p1 Q) : Met l yX2_hydrostatic wsX2_hydrostatic rX2_hydrostatic (mPc D I O [.ref a.1, .int p1] (sysW I O a x) sz) (va_Qi (fun r (u : Sys) => Q r u) (mB D (va_A (sysW I O a x) sz) (fun u => sysW I O a u)) (va_A (sysW I O a x) sz)) 0 0 (va_A (sysW I O a x) sz) := by
  refine m_start (by decide) rfl (Nat.le_of_ble_eq_true rfl) (fun p e s m below meth c ls H locs hx hb hr hml hts hown hlocks hnm hK hP hD hA hS hl => ?_)
  have hown : s.vm.findClass RX2 = some m.cls := hown
  have hl : lv_has ls 2 [(0, .ref a.1), (1, .int p1)] := hl
  have hiX2 : ∀ w ∈ wsX20, w ∈ wsX2_hydrostatic := by decide +kernel
  have f0 := hts (.fieldLink RX2 10 "WellControl" "well" "LWellControl$Well;") (by decide +kernel)
  unfold qX2_hydrostatic at hw
  refine lv_iload_n hx hb dX2_hydrostatic_0 rfl (lv_at hl 1 rfl) ?_
  refine lv_iconst (v := 0) hx hb dX2_hydrostatic_1 (by decide) ?_
  refine lv_iconst (v := 1) hx hb dX2_hydrostatic_2 (by decide) ?_
  refine m0_i (mv_S (As := [.int p1, .int 0, .int 1]) (rest := []) ⟨hx, hb, hml, hown, hts⟩ (kX2_within l D I O H.size p1 0 1 _ hw) (va_cwS 3 hts gX2_hydrostatic_X2_within rfl rfl rfl hdSX2_within ⟨(Nat.le_of_ble_eq_true rfl), (Nat.le_of_ble_eq_true rfl)⟩) hK (nil_P (D := D) (H := H)) (nil_D (A := va_A (sysW I O a x) sz)) rfl hl.1 rfl (Nat.le_of_ble_eq_true rfl) dX2_hydrostatic_3 ⟨(Nat.le_of_ble_eq_true rfl), (Nat.le_of_ble_eq_true rfl)⟩) hP hD hS hA (fun r1 _ H locs hw hP hD hS => ?_)
  refine lv_if_ne (tgt := 16) hx hb dX2_hydrostatic_6 (by decide) (fun c2 => ?_) (fun c2 => ?_)
  · have hw := hw.1 c2
    refine lv_aload_n hx hb dX2_hydrostatic_16 rfl (lv_at hl 0 rfl) ?_
    refine va_get (ci := 2) (v := .ref a.2.2.2.1.1) (C := RX2) (T := TX2) (N := 5) hx hb hts hiX2 hown hK.1 hP 0 rfl rfl 0 (by decide) f0 (fun _ h9 => h9) rfl dX2_hydrostatic_17 ?_
    refine lv_iload_n hx hb dX2_hydrostatic_20 rfl (lv_at hl 1 rfl) ?_
    have hPc := va_P.mid (X := sysH I O a x) (wc := welB I a.2.2.2.1 (sW x)) (Y := welB I a.2.2.2.2.1 (sT x) ++ (welB I a.2.2.2.2.2.1 (s0 x) ++ (welB I a.2.2.2.2.2.2.1 (s1 x) ++ (welB I a.2.2.2.2.2.2.2.1 (s2 x) ++ welB I a.2.2.2.2.2.2.2.2 (s3 x))))) hP
    have hDc := va_D.mid (X := sysH I O a x) (wc := welB I a.2.2.2.1 (sW x)) (Y := welB I a.2.2.2.2.1 (sT x) ++ (welB I a.2.2.2.2.2.1 (s0 x) ++ (welB I a.2.2.2.2.2.2.1 (s1 x) ++ (welB I a.2.2.2.2.2.2.2.1 (s2 x) ++ welB I a.2.2.2.2.2.2.2.2 (s3 x))))) hD
    refine mc_i (sysH I O a x) (welB I a.2.2.2.2.1 (sT x) ++ (welB I a.2.2.2.2.2.1 (s0 x) ++ (welB I a.2.2.2.2.2.2.1 (s1 x) ++ (welB I a.2.2.2.2.2.2.2.1 (s2 x) ++ welB I a.2.2.2.2.2.2.2.2 (s3 x))))) (mv_V (As := [.int p1]) (rest := []) ⟨hx, hb, hml, hown, hts⟩ (kX1_pressureOfWhole l D I O a.2.2.2.1 H.size (sW x) p1 _ hw) (cwV 1 hts gX2_hydrostatic_X1_pressureOfWhole rfl rfl rfl hdVX1_pressureOfWhole ⟨(Nat.le_of_ble_eq_true rfl), (Nat.le_of_ble_eq_true rfl)⟩) hK hPc hDc 0 1 rfl rfl rfl rfl hl.1 rfl (Nat.le_of_ble_eq_true rfl) dX2_hydrostatic_21 ⟨(Nat.le_of_ble_eq_true rfl), (Nat.le_of_ble_eq_true rfl)⟩) hP hD hS hA (fun r3 _ H locs hw hP hD hS => ?_)
    have hP : va_P D vwCl (sysW I O a x) H := hP
    have hD : va_D (va_A (sysW I O a x) sz) (sysW I O a x) := hD
    exact m_iret (u := x) hx hb hr hlocks hS hP hD dX2_hydrostatic_24 hw
  · have hw := hw.2 c2
    refine lv_aload_n hx hb dX2_hydrostatic_9 rfl (lv_at hl 0 rfl) ?_
    refine lv_bipush (v := (-2)) hx hb dX2_hydrostatic_10 (by decide) ?_
    refine mw_i (mv_V (As := [.int (-2)]) (rest := []) ⟨hx, hb, hml, hown, hts⟩ (kX2_refuse l D I O a H.size x (-2) _ hw) (cwV 1 hts gX2_hydrostatic_X2_refuse rfl rfl rfl hdVX2_refuse ⟨(Nat.le_of_ble_eq_true rfl), (Nat.le_of_ble_eq_true rfl)⟩) hK hP hD 0 2 rfl rfl rfl rfl hl.1 rfl (Nat.le_of_ble_eq_true rfl) dX2_hydrostatic_12 ⟨(Nat.le_of_ble_eq_true rfl), (Nat.le_of_ble_eq_true rfl)⟩) hP hD hS hA (fun r4 u5 H locs hw hP hD hS => ?_)
    have hP : va_P D vwCl (sysW I O a u5) H := hP
    have hD : va_D (va_A (sysW I O a x) sz) (sysW I O a u5) := hD
    exact m_iret (u := u5) hx hb hr hlocks hS hP hD dX2_hydrostatic_15 hw
def qX2_hydrostaticAbove (x : Sys) (p1 : Int32) (p2 : Int32) (Q : Int32 → Sys → Prop) : Prop := (qX2_within p1 0 1 (fun r1 => ((r1 = 0 → (qX2_refuse x (-2) (fun r3 u4 => Q r3 u4))) ∧ (¬ r1 = 0 → (qX2_within p2 0 (y0 (sW x)) (fun r5 => ((¬ r5 = 0 → (qX1_pressureOfPart (sW x) p1 p2 (fun r7 => Q r7 x))) ∧ (r5 = 0 → (qX2_refuse x (-2) (fun r8 u9 => Q r8 u9))))))))))
set_option maxHeartbeats 4000000 in
set_option maxRecDepth 100000 in
theorem kX2_hydrostaticAbove (l : Launch) (D : va_G) (I O : ClassId) (a : SA) (sz : Nat) (x : Sys) (p1 : Int32) (p2 : Int32) (Q : Int32 → Sys → Prop) (hw : qX2_hydrostaticAbove x p1 p2 Q) : Met l yX2_hydrostaticAbove wsX2_hydrostaticAbove rX2_hydrostaticAbove (mPc D I O [.ref a.1, .int p1, .int p2] (sysW I O a x) sz) (va_Qi (fun r (u : Sys) => Q r u) (mB D (va_A (sysW I O a x) sz) (fun u => sysW I O a u)) (va_A (sysW I O a x) sz)) 0 0 (va_A (sysW I O a x) sz) := by
  refine m_start (by decide) rfl (Nat.le_of_ble_eq_true rfl) (fun p e s m below meth c ls H locs hx hb hr hml hts hown hlocks hnm hK hP hD hA hS hl => ?_)
  have hown : s.vm.findClass RX2 = some m.cls := hown
  have hl : lv_has ls 3 [(0, .ref a.1), (1, .int p1), (2, .int p2)] := hl
  have hiX1 : ∀ w ∈ wsX10, w ∈ wsX2_hydrostaticAbove := by decide +kernel
  have hiX2 : ∀ w ∈ wsX20, w ∈ wsX2_hydrostaticAbove := by decide +kernel
  have f0 := hts (.fieldLink RX2 10 "WellControl" "well" "LWellControl$Well;") (by decide +kernel)
  have f1 := hts (.fieldLink RX2 42 "WellControl$Well" "depth" "I") (by decide +kernel)
  unfold qX2_hydrostaticAbove at hw
  refine lv_iload_n hx hb dX2_hydrostaticAbove_0 rfl (lv_at hl 1 rfl) ?_
  refine lv_iconst (v := 0) hx hb dX2_hydrostaticAbove_1 (by decide) ?_
  refine lv_iconst (v := 1) hx hb dX2_hydrostaticAbove_2 (by decide) ?_
  refine m0_i (mv_S (As := [.int p1, .int 0, .int 1]) (rest := []) ⟨hx, hb, hml, hown, hts⟩ (kX2_within l D I O H.size p1 0 1 _ hw) (va_cwS 3 hts gX2_hydrostaticAbove_X2_within rfl rfl rfl hdSX2_within ⟨(Nat.le_of_ble_eq_true rfl), (Nat.le_of_ble_eq_true rfl)⟩) hK (nil_P (D := D) (H := H)) (nil_D (A := va_A (sysW I O a x) sz)) rfl hl.1 rfl (Nat.le_of_ble_eq_true rfl) dX2_hydrostaticAbove_3 ⟨(Nat.le_of_ble_eq_true rfl), (Nat.le_of_ble_eq_true rfl)⟩) hP hD hS hA (fun r1 _ H locs hw hP hD hS => ?_)
  refine lv_if_eq (tgt := 24) hx hb dX2_hydrostaticAbove_6 (by decide) (fun c2 => ?_) (fun c2 => ?_)
  · have hw := hw.1 c2
    refine lv_aload_n hx hb dX2_hydrostaticAbove_24 rfl (lv_at hl 0 rfl) ?_
    refine lv_bipush (v := (-2)) hx hb dX2_hydrostaticAbove_25 (by decide) ?_
    refine mw_i (mv_V (As := [.int (-2)]) (rest := []) ⟨hx, hb, hml, hown, hts⟩ (kX2_refuse l D I O a H.size x (-2) _ hw) (cwV 1 hts gX2_hydrostaticAbove_X2_refuse rfl rfl rfl hdVX2_refuse ⟨(Nat.le_of_ble_eq_true rfl), (Nat.le_of_ble_eq_true rfl)⟩) hK hP hD 0 2 rfl rfl rfl rfl hl.1 rfl (Nat.le_of_ble_eq_true rfl) dX2_hydrostaticAbove_27 ⟨(Nat.le_of_ble_eq_true rfl), (Nat.le_of_ble_eq_true rfl)⟩) hP hD hS hA (fun r3 u4 H locs hw hP hD hS => ?_)
    have hP : va_P D vwCl (sysW I O a u4) H := hP
    have hD : va_D (va_A (sysW I O a x) sz) (sysW I O a u4) := hD
    exact m_iret (u := u4) hx hb hr hlocks hS hP hD dX2_hydrostaticAbove_30 hw
  · have hw := hw.2 c2
    refine lv_iload_n hx hb dX2_hydrostaticAbove_9 rfl (lv_at hl 2 rfl) ?_
    refine lv_iconst (v := 0) hx hb dX2_hydrostaticAbove_10 (by decide) ?_
    refine lv_aload_n hx hb dX2_hydrostaticAbove_11 rfl (lv_at hl 0 rfl) ?_
    refine va_get (ci := 2) (v := .ref a.2.2.2.1.1) (C := RX2) (T := TX2) (N := 5) hx hb hts hiX2 hown hK.1 hP 0 rfl rfl 0 (by decide) f0 (fun _ h9 => h9) rfl dX2_hydrostaticAbove_12 ?_
    refine va_get (ci := 1) (v := .int (y0 (sW x))) (C := RX1) (T := TX1) (N := 13) hx hb hts hiX1 hown hK.1 hP 3 rfl rfl 0 (by decide) f1 (fun _ h9 => h9) rfl dX2_hydrostaticAbove_15 ?_
    refine m0_i (mv_S (As := [.int p2, .int 0, .int (y0 (sW x))]) (rest := []) ⟨hx, hb, hml, hown, hts⟩ (kX2_within l D I O H.size p2 0 (y0 (sW x)) _ hw) (va_cwS 3 hts gX2_hydrostaticAbove_X2_within rfl rfl rfl hdSX2_within ⟨(Nat.le_of_ble_eq_true rfl), (Nat.le_of_ble_eq_true rfl)⟩) hK (nil_P (D := D) (H := H)) (nil_D (A := va_A (sysW I O a x) sz)) rfl hl.1 rfl (Nat.le_of_ble_eq_true rfl) dX2_hydrostaticAbove_18 ⟨(Nat.le_of_ble_eq_true rfl), (Nat.le_of_ble_eq_true rfl)⟩) hP hD hS hA (fun r5 _ H locs hw hP hD hS => ?_)
    refine lv_if_ne (tgt := 31) hx hb dX2_hydrostaticAbove_21 (by decide) (fun c6 => ?_) (fun c6 => ?_)
    · have hw := hw.1 c6
      refine lv_aload_n hx hb dX2_hydrostaticAbove_31 rfl (lv_at hl 0 rfl) ?_
      refine va_get (ci := 2) (v := .ref a.2.2.2.1.1) (C := RX2) (T := TX2) (N := 5) hx hb hts hiX2 hown hK.1 hP 0 rfl rfl 0 (by decide) f0 (fun _ h9 => h9) rfl dX2_hydrostaticAbove_32 ?_
      refine lv_iload_n hx hb dX2_hydrostaticAbove_35 rfl (lv_at hl 1 rfl) ?_
      refine lv_iload_n hx hb dX2_hydrostaticAbove_36 rfl (lv_at hl 2 rfl) ?_
      have hPc := va_P.mid (X := sysH I O a x) (wc := welB I a.2.2.2.1 (sW x)) (Y := welB I a.2.2.2.2.1 (sT x) ++ (welB I a.2.2.2.2.2.1 (s0 x) ++ (welB I a.2.2.2.2.2.2.1 (s1 x) ++ (welB I a.2.2.2.2.2.2.2.1 (s2 x) ++ welB I a.2.2.2.2.2.2.2.2 (s3 x))))) hP
      have hDc := va_D.mid (X := sysH I O a x) (wc := welB I a.2.2.2.1 (sW x)) (Y := welB I a.2.2.2.2.1 (sT x) ++ (welB I a.2.2.2.2.2.1 (s0 x) ++ (welB I a.2.2.2.2.2.2.1 (s1 x) ++ (welB I a.2.2.2.2.2.2.2.1 (s2 x) ++ welB I a.2.2.2.2.2.2.2.2 (s3 x))))) hD
      refine mc_i (sysH I O a x) (welB I a.2.2.2.2.1 (sT x) ++ (welB I a.2.2.2.2.2.1 (s0 x) ++ (welB I a.2.2.2.2.2.2.1 (s1 x) ++ (welB I a.2.2.2.2.2.2.2.1 (s2 x) ++ welB I a.2.2.2.2.2.2.2.2 (s3 x))))) (mv_V (As := [.int p1, .int p2]) (rest := []) ⟨hx, hb, hml, hown, hts⟩ (kX1_pressureOfPart l D I O a.2.2.2.1 H.size (sW x) p1 p2 _ hw) (cwV 2 hts gX2_hydrostaticAbove_X1_pressureOfPart rfl rfl rfl hdVX1_pressureOfPart ⟨(Nat.le_of_ble_eq_true rfl), (Nat.le_of_ble_eq_true rfl)⟩) hK hPc hDc 0 1 rfl rfl rfl rfl hl.1 rfl (Nat.le_of_ble_eq_true rfl) dX2_hydrostaticAbove_37 ⟨(Nat.le_of_ble_eq_true rfl), (Nat.le_of_ble_eq_true rfl)⟩) hP hD hS hA (fun r7 _ H locs hw hP hD hS => ?_)
      have hP : va_P D vwCl (sysW I O a x) H := hP
      have hD : va_D (va_A (sysW I O a x) sz) (sysW I O a x) := hD
      exact m_iret (u := x) hx hb hr hlocks hS hP hD dX2_hydrostaticAbove_40 hw
    · have hw := hw.2 c6
      refine lv_aload_n hx hb dX2_hydrostaticAbove_24 rfl (lv_at hl 0 rfl) ?_
      refine lv_bipush (v := (-2)) hx hb dX2_hydrostaticAbove_25 (by decide) ?_
      refine mw_i (mv_V (As := [.int (-2)]) (rest := []) ⟨hx, hb, hml, hown, hts⟩ (kX2_refuse l D I O a H.size x (-2) _ hw) (cwV 1 hts gX2_hydrostaticAbove_X2_refuse rfl rfl rfl hdVX2_refuse ⟨(Nat.le_of_ble_eq_true rfl), (Nat.le_of_ble_eq_true rfl)⟩) hK hP hD 0 2 rfl rfl rfl rfl hl.1 rfl (Nat.le_of_ble_eq_true rfl) dX2_hydrostaticAbove_27 ⟨(Nat.le_of_ble_eq_true rfl), (Nat.le_of_ble_eq_true rfl)⟩) hP hD hS hA (fun r8 u9 H locs hw hP hD hS => ?_)
      have hP : va_P D vwCl (sysW I O a u9) H := hP
      have hD : va_D (va_A (sysW I O a x) sz) (sysW I O a u9) := hD
      exact m_iret (u := u9) hx hb hr hlocks hS hP hD dX2_hydrostaticAbove_30 hw
def qX2_drillPipePressure (x : Sys) (Q : Int32 → Prop) : Prop := (qX1_pressureAtPipe (sW x) (fun r1 => Q r1))
set_option maxHeartbeats 4000000 in
set_option maxRecDepth 100000 in
theorem kX2_drillPipePressure (l : Launch) (D : va_G) (I O : ClassId) (a : SA) (sz : Nat) (x : Sys) (Q : Int32 → Prop) (hw : qX2_drillPipePressure x Q) : Met l yX2_drillPipePressure wsX2_drillPipePressure rX2_drillPipePressure (mPc D I O [.ref a.1] (sysW I O a x) sz) (va_Qi (fun r (_ : Unit) => Q r) (mB D (va_A (sysW I O a x) sz) (fun _ => sysW I O a x)) (va_A (sysW I O a x) sz)) 0 0 (va_A (sysW I O a x) sz) := by
  refine m_start (by decide) rfl (Nat.le_of_ble_eq_true rfl) (fun p e s m below meth c ls H locs hx hb hr hml hts hown hlocks hnm hK hP hD hA hS hl => ?_)
  have hown : s.vm.findClass RX2 = some m.cls := hown
  have hl : lv_has ls 1 [(0, .ref a.1)] := hl
  have hiX2 : ∀ w ∈ wsX20, w ∈ wsX2_drillPipePressure := by decide +kernel
  have f0 := hts (.fieldLink RX2 10 "WellControl" "well" "LWellControl$Well;") (by decide +kernel)
  unfold qX2_drillPipePressure at hw
  refine lv_aload_n hx hb dX2_drillPipePressure_0 rfl (lv_at hl 0 rfl) ?_
  refine va_get (ci := 2) (v := .ref a.2.2.2.1.1) (C := RX2) (T := TX2) (N := 5) hx hb hts hiX2 hown hK.1 hP 0 rfl rfl 0 (by decide) f0 (fun _ h9 => h9) rfl dX2_drillPipePressure_1 ?_
  have hPc := va_P.mid (X := sysH I O a x) (wc := welB I a.2.2.2.1 (sW x)) (Y := welB I a.2.2.2.2.1 (sT x) ++ (welB I a.2.2.2.2.2.1 (s0 x) ++ (welB I a.2.2.2.2.2.2.1 (s1 x) ++ (welB I a.2.2.2.2.2.2.2.1 (s2 x) ++ welB I a.2.2.2.2.2.2.2.2 (s3 x))))) hP
  have hDc := va_D.mid (X := sysH I O a x) (wc := welB I a.2.2.2.1 (sW x)) (Y := welB I a.2.2.2.2.1 (sT x) ++ (welB I a.2.2.2.2.2.1 (s0 x) ++ (welB I a.2.2.2.2.2.2.1 (s1 x) ++ (welB I a.2.2.2.2.2.2.2.1 (s2 x) ++ welB I a.2.2.2.2.2.2.2.2 (s3 x))))) hD
  refine mc_i (sysH I O a x) (welB I a.2.2.2.2.1 (sT x) ++ (welB I a.2.2.2.2.2.1 (s0 x) ++ (welB I a.2.2.2.2.2.2.1 (s1 x) ++ (welB I a.2.2.2.2.2.2.2.1 (s2 x) ++ welB I a.2.2.2.2.2.2.2.2 (s3 x))))) (mv_V (As := []) (rest := []) ⟨hx, hb, hml, hown, hts⟩ (kX1_pressureAtPipe l D I O a.2.2.2.1 H.size (sW x) _ hw) (cwV 0 hts gX2_drillPipePressure_X1_pressureAtPipe rfl rfl rfl hdVX1_pressureAtPipe ⟨(Nat.le_of_ble_eq_true rfl), (Nat.le_of_ble_eq_true rfl)⟩) hK hPc hDc 0 1 rfl rfl rfl rfl hl.1 rfl (Nat.le_of_ble_eq_true rfl) dX2_drillPipePressure_4 ⟨(Nat.le_of_ble_eq_true rfl), (Nat.le_of_ble_eq_true rfl)⟩) hP hD hS hA (fun r1 _ H locs hw hP hD hS => ?_)
  have hP : va_P D vwCl (sysW I O a x) H := hP
  have hD : va_D (va_A (sysW I O a x) sz) (sysW I O a x) := hD
  exact m_iret (u := ()) hx hb hr hlocks hS hP hD dX2_drillPipePressure_7 hw
def qX2_casingPressure (x : Sys) (Q : Int32 → Prop) : Prop := (qX1_pressureAtCasing (sW x) (fun r1 => Q r1))
set_option maxHeartbeats 4000000 in
set_option maxRecDepth 100000 in
theorem kX2_casingPressure (l : Launch) (D : va_G) (I O : ClassId) (a : SA) (sz : Nat) (x : Sys) (Q : Int32 → Prop) (hw : qX2_casingPressure x Q) : Met l yX2_casingPressure wsX2_casingPressure rX2_casingPressure (mPc D I O [.ref a.1] (sysW I O a x) sz) (va_Qi (fun r (_ : Unit) => Q r) (mB D (va_A (sysW I O a x) sz) (fun _ => sysW I O a x)) (va_A (sysW I O a x) sz)) 0 0 (va_A (sysW I O a x) sz) := by
  refine m_start (by decide) rfl (Nat.le_of_ble_eq_true rfl) (fun p e s m below meth c ls H locs hx hb hr hml hts hown hlocks hnm hK hP hD hA hS hl => ?_)
  have hown : s.vm.findClass RX2 = some m.cls := hown
  have hl : lv_has ls 1 [(0, .ref a.1)] := hl
  have hiX2 : ∀ w ∈ wsX20, w ∈ wsX2_casingPressure := by decide +kernel
  have f0 := hts (.fieldLink RX2 10 "WellControl" "well" "LWellControl$Well;") (by decide +kernel)
  unfold qX2_casingPressure at hw
  refine lv_aload_n hx hb dX2_casingPressure_0 rfl (lv_at hl 0 rfl) ?_
  refine va_get (ci := 2) (v := .ref a.2.2.2.1.1) (C := RX2) (T := TX2) (N := 5) hx hb hts hiX2 hown hK.1 hP 0 rfl rfl 0 (by decide) f0 (fun _ h9 => h9) rfl dX2_casingPressure_1 ?_
  have hPc := va_P.mid (X := sysH I O a x) (wc := welB I a.2.2.2.1 (sW x)) (Y := welB I a.2.2.2.2.1 (sT x) ++ (welB I a.2.2.2.2.2.1 (s0 x) ++ (welB I a.2.2.2.2.2.2.1 (s1 x) ++ (welB I a.2.2.2.2.2.2.2.1 (s2 x) ++ welB I a.2.2.2.2.2.2.2.2 (s3 x))))) hP
  have hDc := va_D.mid (X := sysH I O a x) (wc := welB I a.2.2.2.1 (sW x)) (Y := welB I a.2.2.2.2.1 (sT x) ++ (welB I a.2.2.2.2.2.1 (s0 x) ++ (welB I a.2.2.2.2.2.2.1 (s1 x) ++ (welB I a.2.2.2.2.2.2.2.1 (s2 x) ++ welB I a.2.2.2.2.2.2.2.2 (s3 x))))) hD
  refine mc_i (sysH I O a x) (welB I a.2.2.2.2.1 (sT x) ++ (welB I a.2.2.2.2.2.1 (s0 x) ++ (welB I a.2.2.2.2.2.2.1 (s1 x) ++ (welB I a.2.2.2.2.2.2.2.1 (s2 x) ++ welB I a.2.2.2.2.2.2.2.2 (s3 x))))) (mv_V (As := []) (rest := []) ⟨hx, hb, hml, hown, hts⟩ (kX1_pressureAtCasing l D I O a.2.2.2.1 H.size (sW x) _ hw) (cwV 0 hts gX2_casingPressure_X1_pressureAtCasing rfl rfl rfl hdVX1_pressureAtCasing ⟨(Nat.le_of_ble_eq_true rfl), (Nat.le_of_ble_eq_true rfl)⟩) hK hPc hDc 0 1 rfl rfl rfl rfl hl.1 rfl (Nat.le_of_ble_eq_true rfl) dX2_casingPressure_4 ⟨(Nat.le_of_ble_eq_true rfl), (Nat.le_of_ble_eq_true rfl)⟩) hP hD hS hA (fun r1 _ H locs hw hP hD hS => ?_)
  have hP : va_P D vwCl (sysW I O a x) H := hP
  have hD : va_D (va_A (sysW I O a x) sz) (sysW I O a x) := hD
  exact m_iret (u := ()) hx hb hr hlocks hS hP hD dX2_casingPressure_7 hw
def qX2_standpipePressure (x : Sys) (Q : Int32 → Prop) : Prop := (qX1_pressureAtStandpipe (sW x) (fun r1 => Q r1))
set_option maxHeartbeats 4000000 in
set_option maxRecDepth 100000 in
theorem kX2_standpipePressure (l : Launch) (D : va_G) (I O : ClassId) (a : SA) (sz : Nat) (x : Sys) (Q : Int32 → Prop) (hw : qX2_standpipePressure x Q) : Met l yX2_standpipePressure wsX2_standpipePressure rX2_standpipePressure (mPc D I O [.ref a.1] (sysW I O a x) sz) (va_Qi (fun r (_ : Unit) => Q r) (mB D (va_A (sysW I O a x) sz) (fun _ => sysW I O a x)) (va_A (sysW I O a x) sz)) 0 0 (va_A (sysW I O a x) sz) := by
  refine m_start (by decide) rfl (Nat.le_of_ble_eq_true rfl) (fun p e s m below meth c ls H locs hx hb hr hml hts hown hlocks hnm hK hP hD hA hS hl => ?_)
  have hown : s.vm.findClass RX2 = some m.cls := hown
  have hl : lv_has ls 1 [(0, .ref a.1)] := hl
  have hiX2 : ∀ w ∈ wsX20, w ∈ wsX2_standpipePressure := by decide +kernel
  have f0 := hts (.fieldLink RX2 10 "WellControl" "well" "LWellControl$Well;") (by decide +kernel)
  unfold qX2_standpipePressure at hw
  refine lv_aload_n hx hb dX2_standpipePressure_0 rfl (lv_at hl 0 rfl) ?_
  refine va_get (ci := 2) (v := .ref a.2.2.2.1.1) (C := RX2) (T := TX2) (N := 5) hx hb hts hiX2 hown hK.1 hP 0 rfl rfl 0 (by decide) f0 (fun _ h9 => h9) rfl dX2_standpipePressure_1 ?_
  have hPc := va_P.mid (X := sysH I O a x) (wc := welB I a.2.2.2.1 (sW x)) (Y := welB I a.2.2.2.2.1 (sT x) ++ (welB I a.2.2.2.2.2.1 (s0 x) ++ (welB I a.2.2.2.2.2.2.1 (s1 x) ++ (welB I a.2.2.2.2.2.2.2.1 (s2 x) ++ welB I a.2.2.2.2.2.2.2.2 (s3 x))))) hP
  have hDc := va_D.mid (X := sysH I O a x) (wc := welB I a.2.2.2.1 (sW x)) (Y := welB I a.2.2.2.2.1 (sT x) ++ (welB I a.2.2.2.2.2.1 (s0 x) ++ (welB I a.2.2.2.2.2.2.1 (s1 x) ++ (welB I a.2.2.2.2.2.2.2.1 (s2 x) ++ welB I a.2.2.2.2.2.2.2.2 (s3 x))))) hD
  refine mc_i (sysH I O a x) (welB I a.2.2.2.2.1 (sT x) ++ (welB I a.2.2.2.2.2.1 (s0 x) ++ (welB I a.2.2.2.2.2.2.1 (s1 x) ++ (welB I a.2.2.2.2.2.2.2.1 (s2 x) ++ welB I a.2.2.2.2.2.2.2.2 (s3 x))))) (mv_V (As := []) (rest := []) ⟨hx, hb, hml, hown, hts⟩ (kX1_pressureAtStandpipe l D I O a.2.2.2.1 H.size (sW x) _ hw) (cwV 0 hts gX2_standpipePressure_X1_pressureAtStandpipe rfl rfl rfl hdVX1_pressureAtStandpipe ⟨(Nat.le_of_ble_eq_true rfl), (Nat.le_of_ble_eq_true rfl)⟩) hK hPc hDc 0 1 rfl rfl rfl rfl hl.1 rfl (Nat.le_of_ble_eq_true rfl) dX2_standpipePressure_4 ⟨(Nat.le_of_ble_eq_true rfl), (Nat.le_of_ble_eq_true rfl)⟩) hP hD hS hA (fun r1 _ H locs hw hP hD hS => ?_)
  have hP : va_P D vwCl (sysW I O a x) H := hP
  have hD : va_D (va_A (sysW I O a x) sz) (sysW I O a x) := hD
  exact m_iret (u := ()) hx hb hr hlocks hS hP hD dX2_standpipePressure_7 hw
def qX2_shoePressure (x : Sys) (Q : Int32 → Prop) : Prop := (qX1_pressureAtShoe (sW x) (fun r1 => Q r1))
set_option maxHeartbeats 4000000 in
set_option maxRecDepth 100000 in
theorem kX2_shoePressure (l : Launch) (D : va_G) (I O : ClassId) (a : SA) (sz : Nat) (x : Sys) (Q : Int32 → Prop) (hw : qX2_shoePressure x Q) : Met l yX2_shoePressure wsX2_shoePressure rX2_shoePressure (mPc D I O [.ref a.1] (sysW I O a x) sz) (va_Qi (fun r (_ : Unit) => Q r) (mB D (va_A (sysW I O a x) sz) (fun _ => sysW I O a x)) (va_A (sysW I O a x) sz)) 0 0 (va_A (sysW I O a x) sz) := by
  refine m_start (by decide) rfl (Nat.le_of_ble_eq_true rfl) (fun p e s m below meth c ls H locs hx hb hr hml hts hown hlocks hnm hK hP hD hA hS hl => ?_)
  have hown : s.vm.findClass RX2 = some m.cls := hown
  have hl : lv_has ls 1 [(0, .ref a.1)] := hl
  have hiX2 : ∀ w ∈ wsX20, w ∈ wsX2_shoePressure := by decide +kernel
  have f0 := hts (.fieldLink RX2 10 "WellControl" "well" "LWellControl$Well;") (by decide +kernel)
  unfold qX2_shoePressure at hw
  refine lv_aload_n hx hb dX2_shoePressure_0 rfl (lv_at hl 0 rfl) ?_
  refine va_get (ci := 2) (v := .ref a.2.2.2.1.1) (C := RX2) (T := TX2) (N := 5) hx hb hts hiX2 hown hK.1 hP 0 rfl rfl 0 (by decide) f0 (fun _ h9 => h9) rfl dX2_shoePressure_1 ?_
  have hPc := va_P.mid (X := sysH I O a x) (wc := welB I a.2.2.2.1 (sW x)) (Y := welB I a.2.2.2.2.1 (sT x) ++ (welB I a.2.2.2.2.2.1 (s0 x) ++ (welB I a.2.2.2.2.2.2.1 (s1 x) ++ (welB I a.2.2.2.2.2.2.2.1 (s2 x) ++ welB I a.2.2.2.2.2.2.2.2 (s3 x))))) hP
  have hDc := va_D.mid (X := sysH I O a x) (wc := welB I a.2.2.2.1 (sW x)) (Y := welB I a.2.2.2.2.1 (sT x) ++ (welB I a.2.2.2.2.2.1 (s0 x) ++ (welB I a.2.2.2.2.2.2.1 (s1 x) ++ (welB I a.2.2.2.2.2.2.2.1 (s2 x) ++ welB I a.2.2.2.2.2.2.2.2 (s3 x))))) hD
  refine mc_i (sysH I O a x) (welB I a.2.2.2.2.1 (sT x) ++ (welB I a.2.2.2.2.2.1 (s0 x) ++ (welB I a.2.2.2.2.2.2.1 (s1 x) ++ (welB I a.2.2.2.2.2.2.2.1 (s2 x) ++ welB I a.2.2.2.2.2.2.2.2 (s3 x))))) (mv_V (As := []) (rest := []) ⟨hx, hb, hml, hown, hts⟩ (kX1_pressureAtShoe l D I O a.2.2.2.1 H.size (sW x) _ hw) (cwV 0 hts gX2_shoePressure_X1_pressureAtShoe rfl rfl rfl hdVX1_pressureAtShoe ⟨(Nat.le_of_ble_eq_true rfl), (Nat.le_of_ble_eq_true rfl)⟩) hK hPc hDc 0 1 rfl rfl rfl rfl hl.1 rfl (Nat.le_of_ble_eq_true rfl) dX2_shoePressure_4 ⟨(Nat.le_of_ble_eq_true rfl), (Nat.le_of_ble_eq_true rfl)⟩) hP hD hS hA (fun r1 _ H locs hw hP hD hS => ?_)
  have hP : va_P D vwCl (sysW I O a x) H := hP
  have hD : va_D (va_A (sysW I O a x) sz) (sysW I O a x) := hD
  exact m_iret (u := ()) hx hb hr hlocks hS hP hD dX2_shoePressure_7 hw
def qX2_allowedCasingPressure (x : Sys) (Q : Int32 → Prop) : Prop := (qX1_pressureOfPart (sW x) 1 (y3 (sW x)) (fun r1 => Q ((y7 (sW x)) - r1)))
set_option maxHeartbeats 4000000 in
set_option maxRecDepth 100000 in
theorem kX2_allowedCasingPressure (l : Launch) (D : va_G) (I O : ClassId) (a : SA) (sz : Nat) (x : Sys) (Q : Int32 → Prop) (hw : qX2_allowedCasingPressure x Q) : Met l yX2_allowedCasingPressure wsX2_allowedCasingPressure rX2_allowedCasingPressure (mPc D I O [.ref a.1] (sysW I O a x) sz) (va_Qi (fun r (_ : Unit) => Q r) (mB D (va_A (sysW I O a x) sz) (fun _ => sysW I O a x)) (va_A (sysW I O a x) sz)) 0 0 (va_A (sysW I O a x) sz) := by
  refine m_start (by decide) rfl (Nat.le_of_ble_eq_true rfl) (fun p e s m below meth c ls H locs hx hb hr hml hts hown hlocks hnm hK hP hD hA hS hl => ?_)
  have hown : s.vm.findClass RX2 = some m.cls := hown
  have hl : lv_has ls 1 [(0, .ref a.1)] := hl
  have hiX1 : ∀ w ∈ wsX10, w ∈ wsX2_allowedCasingPressure := by decide +kernel
  have hiX2 : ∀ w ∈ wsX20, w ∈ wsX2_allowedCasingPressure := by decide +kernel
  have f0 := hts (.fieldLink RX2 10 "WellControl" "well" "LWellControl$Well;") (by decide +kernel)
  have f1 := hts (.fieldLink RX2 74 "WellControl$Well" "fracture" "I") (by decide +kernel)
  have f2 := hts (.fieldLink RX2 51 "WellControl$Well" "shoe" "I") (by decide +kernel)
  unfold qX2_allowedCasingPressure at hw
  refine lv_aload_n hx hb dX2_allowedCasingPressure_0 rfl (lv_at hl 0 rfl) ?_
  refine va_get (ci := 2) (v := .ref a.2.2.2.1.1) (C := RX2) (T := TX2) (N := 5) hx hb hts hiX2 hown hK.1 hP 0 rfl rfl 0 (by decide) f0 (fun _ h9 => h9) rfl dX2_allowedCasingPressure_1 ?_
  refine va_get (ci := 1) (v := .int (y7 (sW x))) (C := RX1) (T := TX1) (N := 13) hx hb hts hiX1 hown hK.1 hP 3 rfl rfl 7 (by decide) f1 (fun _ h9 => h9) rfl dX2_allowedCasingPressure_4 ?_
  refine lv_aload_n hx hb dX2_allowedCasingPressure_7 rfl (lv_at hl 0 rfl) ?_
  refine va_get (ci := 2) (v := .ref a.2.2.2.1.1) (C := RX2) (T := TX2) (N := 5) hx hb hts hiX2 hown hK.1 hP 0 rfl rfl 0 (by decide) f0 (fun _ h9 => h9) rfl dX2_allowedCasingPressure_8 ?_
  refine lv_iconst (v := 1) hx hb dX2_allowedCasingPressure_11 (by decide) ?_
  refine lv_aload_n hx hb dX2_allowedCasingPressure_12 rfl (lv_at hl 0 rfl) ?_
  refine va_get (ci := 2) (v := .ref a.2.2.2.1.1) (C := RX2) (T := TX2) (N := 5) hx hb hts hiX2 hown hK.1 hP 0 rfl rfl 0 (by decide) f0 (fun _ h9 => h9) rfl dX2_allowedCasingPressure_13 ?_
  refine va_get (ci := 1) (v := .int (y3 (sW x))) (C := RX1) (T := TX1) (N := 13) hx hb hts hiX1 hown hK.1 hP 3 rfl rfl 3 (by decide) f2 (fun _ h9 => h9) rfl dX2_allowedCasingPressure_16 ?_
  have hPc := va_P.mid (X := sysH I O a x) (wc := welB I a.2.2.2.1 (sW x)) (Y := welB I a.2.2.2.2.1 (sT x) ++ (welB I a.2.2.2.2.2.1 (s0 x) ++ (welB I a.2.2.2.2.2.2.1 (s1 x) ++ (welB I a.2.2.2.2.2.2.2.1 (s2 x) ++ welB I a.2.2.2.2.2.2.2.2 (s3 x))))) hP
  have hDc := va_D.mid (X := sysH I O a x) (wc := welB I a.2.2.2.1 (sW x)) (Y := welB I a.2.2.2.2.1 (sT x) ++ (welB I a.2.2.2.2.2.1 (s0 x) ++ (welB I a.2.2.2.2.2.2.1 (s1 x) ++ (welB I a.2.2.2.2.2.2.2.1 (s2 x) ++ welB I a.2.2.2.2.2.2.2.2 (s3 x))))) hD
  refine mc_i (sysH I O a x) (welB I a.2.2.2.2.1 (sT x) ++ (welB I a.2.2.2.2.2.1 (s0 x) ++ (welB I a.2.2.2.2.2.2.1 (s1 x) ++ (welB I a.2.2.2.2.2.2.2.1 (s2 x) ++ welB I a.2.2.2.2.2.2.2.2 (s3 x))))) (mv_V (As := [.int 1, .int (y3 (sW x))]) (rest := [.int (y7 (sW x))]) ⟨hx, hb, hml, hown, hts⟩ (kX1_pressureOfPart l D I O a.2.2.2.1 H.size (sW x) 1 (y3 (sW x)) _ hw) (cwV 2 hts gX2_allowedCasingPressure_X1_pressureOfPart rfl rfl rfl hdVX1_pressureOfPart ⟨(Nat.le_of_ble_eq_true rfl), (Nat.le_of_ble_eq_true rfl)⟩) hK hPc hDc 0 1 rfl rfl rfl rfl hl.1 rfl (Nat.le_of_ble_eq_true rfl) dX2_allowedCasingPressure_19 ⟨(Nat.le_of_ble_eq_true rfl), (Nat.le_of_ble_eq_true rfl)⟩) hP hD hS hA (fun r1 _ H locs hw hP hD hS => ?_)
  have hP : va_P D vwCl (sysW I O a x) H := hP
  have hD : va_D (va_A (sysW I O a x) sz) (sysW I O a x) := hD
  refine lv_isub hx hb dX2_allowedCasingPressure_22 ?_
  exact m_iret (u := ()) hx hb hr hlocks hS hP hD dX2_allowedCasingPressure_23 hw
def qX2_killDensity (x : Sys) (Q : Int32 → Sys → Prop) : Prop := (qX1_densityToKill (sW x) (fun r1 => ((¬ r1 = (-4) → Q r1 x) ∧ (r1 = (-4) → (qX2_refuse x (-4) (fun r3 u4 => Q r3 u4))))))
set_option maxHeartbeats 4000000 in
set_option maxRecDepth 100000 in
theorem kX2_killDensity (l : Launch) (D : va_G) (I O : ClassId) (a : SA) (sz : Nat) (x : Sys) (Q : Int32 → Sys → Prop) (hw : qX2_killDensity x Q) : Met l yX2_killDensity wsX2_killDensity rX2_killDensity (mPc D I O [.ref a.1] (sysW I O a x) sz) (va_Qi (fun r (u : Sys) => Q r u) (mB D (va_A (sysW I O a x) sz) (fun u => sysW I O a u)) (va_A (sysW I O a x) sz)) 0 0 (va_A (sysW I O a x) sz) := by
  refine m_start (by decide) rfl (Nat.le_of_ble_eq_true rfl) (fun p e s m below meth c ls H locs hx hb hr hml hts hown hlocks hnm hK hP hD hA hS hl => ?_)
  have hown : s.vm.findClass RX2 = some m.cls := hown
  have hl : lv_has ls 2 [(0, .ref a.1)] := hl
  have hiX2 : ∀ w ∈ wsX20, w ∈ wsX2_killDensity := by decide +kernel
  have f0 := hts (.fieldLink RX2 10 "WellControl" "well" "LWellControl$Well;") (by decide +kernel)
  unfold qX2_killDensity at hw
  refine lv_aload_n hx hb dX2_killDensity_0 rfl (lv_at hl 0 rfl) ?_
  refine va_get (ci := 2) (v := .ref a.2.2.2.1.1) (C := RX2) (T := TX2) (N := 5) hx hb hts hiX2 hown hK.1 hP 0 rfl rfl 0 (by decide) f0 (fun _ h9 => h9) rfl dX2_killDensity_1 ?_
  have hPc := va_P.mid (X := sysH I O a x) (wc := welB I a.2.2.2.1 (sW x)) (Y := welB I a.2.2.2.2.1 (sT x) ++ (welB I a.2.2.2.2.2.1 (s0 x) ++ (welB I a.2.2.2.2.2.2.1 (s1 x) ++ (welB I a.2.2.2.2.2.2.2.1 (s2 x) ++ welB I a.2.2.2.2.2.2.2.2 (s3 x))))) hP
  have hDc := va_D.mid (X := sysH I O a x) (wc := welB I a.2.2.2.1 (sW x)) (Y := welB I a.2.2.2.2.1 (sT x) ++ (welB I a.2.2.2.2.2.1 (s0 x) ++ (welB I a.2.2.2.2.2.2.1 (s1 x) ++ (welB I a.2.2.2.2.2.2.2.1 (s2 x) ++ welB I a.2.2.2.2.2.2.2.2 (s3 x))))) hD
  refine mc_i (sysH I O a x) (welB I a.2.2.2.2.1 (sT x) ++ (welB I a.2.2.2.2.2.1 (s0 x) ++ (welB I a.2.2.2.2.2.2.1 (s1 x) ++ (welB I a.2.2.2.2.2.2.2.1 (s2 x) ++ welB I a.2.2.2.2.2.2.2.2 (s3 x))))) (mv_V (As := []) (rest := []) ⟨hx, hb, hml, hown, hts⟩ (kX1_densityToKill l D I O a.2.2.2.1 H.size (sW x) _ hw) (cwV 0 hts gX2_killDensity_X1_densityToKill rfl rfl rfl hdVX1_densityToKill ⟨(Nat.le_of_ble_eq_true rfl), (Nat.le_of_ble_eq_true rfl)⟩) hK hPc hDc 0 1 rfl rfl rfl rfl hl.1 rfl (Nat.le_of_ble_eq_true rfl) dX2_killDensity_4 ⟨(Nat.le_of_ble_eq_true rfl), (Nat.le_of_ble_eq_true rfl)⟩) hP hD hS hA (fun r1 _ H locs hw hP hD hS => ?_)
  have hP : va_P D vwCl (sysW I O a x) H := hP
  have hD : va_D (va_A (sysW I O a x) sz) (sysW I O a x) := hD
  refine lv_istore_n (lv' := [(1, .int r1), (0, .ref a.1)]) hx hb dX2_killDensity_7 rfl hl (by decide) rfl (fun ls hl => ?_)
  refine lv_iload_n hx hb dX2_killDensity_8 rfl (lv_at hl 0 rfl) ?_
  refine lv_bipush (v := (-4)) hx hb dX2_killDensity_9 (by decide) ?_
  refine lv_icmp_ne (tgt := 23) hx hb dX2_killDensity_11 (by decide) (fun c2 => ?_) (fun c2 => ?_)
  · have hw := hw.1 c2
    refine lv_iload_n hx hb dX2_killDensity_23 rfl (lv_at hl 0 rfl) ?_
    exact m_iret (u := x) hx hb hr hlocks hS hP hD dX2_killDensity_24 hw
  · have hw := hw.2 c2
    refine lv_aload_n hx hb dX2_killDensity_14 rfl (lv_at hl 1 rfl) ?_
    refine lv_bipush (v := (-4)) hx hb dX2_killDensity_15 (by decide) ?_
    refine mw_i (mv_V (As := [.int (-4)]) (rest := []) ⟨hx, hb, hml, hown, hts⟩ (kX2_refuse l D I O a H.size x (-4) _ hw) (cwV 1 hts gX2_killDensity_X2_refuse rfl rfl rfl hdVX2_refuse ⟨(Nat.le_of_ble_eq_true rfl), (Nat.le_of_ble_eq_true rfl)⟩) hK hP hD 0 2 rfl rfl rfl rfl hl.1 rfl (Nat.le_of_ble_eq_true rfl) dX2_killDensity_17 ⟨(Nat.le_of_ble_eq_true rfl), (Nat.le_of_ble_eq_true rfl)⟩) hP hD hS hA (fun r3 u4 H locs hw hP hD hS => ?_)
    have hP : va_P D vwCl (sysW I O a u4) H := hP
    have hD : va_D (va_A (sysW I O a x) sz) (sysW I O a u4) := hD
    refine lv_goto (tgt := 24) hx hb dX2_killDensity_20 (by decide) ?_
    exact m_iret (u := u4) hx hb hr hlocks hS hP hD dX2_killDensity_24 hw
def qX2_killShoePressure (x : Sys) (p1 : Int32) (p2 : Int32) (Q : Int32 → Sys → Prop) : Prop := (qX2_within p1 0 1 (fun r1 => ((r1 = 0 → (qX2_refuse x (-2) (fun r3 u4 => Q r3 u4))) ∧ (¬ r1 = 0 → (qX2_within p2 100 9000 (fun r5 => ((¬ r5 = 0 → (qX1_canCirculate (sW x) p2 (fun r7 => ((¬ r7 = 0 → (qX1_densityToKill (sW x) (fun r9 => ((¬ r9 = (-4) → (qX1_copyFrom (sW x) (sT x) (fun u11 => ((¬ p1 = 0 → (qX1_pipeVolume (y0 u11, y1 u11, y2 u11, y3 u11, y4 u11, y5 u11, y6 u11, y7 u11, y8 u11, y9 u11, 0, yP u11, yA u11) (fun r13 => (qX1_annulusVolume (y0 u11, y1 u11, y2 u11, y3 u11, y4 u11, y5 u11, y6 u11, y7 u11, y8 u11, y9 u11, 0, yP u11, yA u11) (fun r14 => (qX1_circulateInSteps (y0 u11, y1 u11, y2 u11, y3 u11, y4 u11, y5 u11, y6 u11, y7 u11, y8 u11, y9 u11, 0, yP u11, yA u11) (r13 + r14) p2 r9 (fun u15 => Q (y10 u15) (sW x, u15, s0 x, s1 x, s2 x, s3 x, sC x, sE x)))))))) ∧ (p1 = 0 → (qX1_annulusVolume (y0 u11, y1 u11, y2 u11, y3 u11, y4 u11, y5 u11, y6 u11, y7 u11, y8 u11, y9 u11, 0, yP u11, yA u11) (fun r16 => (qX1_circulateInSteps (y0 u11, y1 u11, y2 u11, y3 u11, y4 u11, y5 u11, y6 u11, y7 u11, y8 u11, y9 u11, 0, yP u11, yA u11) r16 p2 (y4 u11) (fun u17 => (qX1_pipeVolume u17 (fun r18 => (qX1_annulusVolume u17 (fun r19 => (qX1_circulateInSteps u17 (r18 + r19) p2 r9 (fun u20 => Q (y10 u20) (sW x, u20, s0 x, s1 x, s2 x, s3 x, sC x, sE x)))))))))))))))) ∧ (r9 = (-4) → (qX2_refuse x (-4) (fun r21 u22 => Q r21 u22))))))) ∧ (r7 = 0 → (qX2_refuse x (-3) (fun r23 u24 => Q r23 u24))))))) ∧ (r5 = 0 → (qX2_refuse x (-2) (fun r25 u26 => Q r25 u26))))))))))
set_option maxHeartbeats 4000000 in
set_option maxRecDepth 100000 in
theorem kX2_killShoePressure (l : Launch) (D : va_G) (I O : ClassId) (a : SA) (sz : Nat) (x : Sys) (p1 : Int32) (p2 : Int32) (Q : Int32 → Sys → Prop) (hw : qX2_killShoePressure x p1 p2 Q) : Met l yX2_killShoePressure wsX2_killShoePressure rX2_killShoePressure (mPc D I O [.ref a.1, .int p1, .int p2] (sysW I O a x) sz) (va_Qi (fun r (u : Sys) => Q r u) (mB D (va_A (sysW I O a x) sz) (fun u => sysW I O a u)) (va_A (sysW I O a x) sz)) 0 0 (va_A (sysW I O a x) sz) := by
  refine m_start (by decide) rfl (Nat.le_of_ble_eq_true rfl) (fun p e s m below meth c ls H locs hx hb hr hml hts hown hlocks hnm hK hP hD hA hS hl => ?_)
  have hown : s.vm.findClass RX2 = some m.cls := hown
  have hl : lv_has ls 4 [(0, .ref a.1), (1, .int p1), (2, .int p2)] := hl
  have hiX1 : ∀ w ∈ wsX10, w ∈ wsX2_killShoePressure := by decide +kernel
  have hiX2 : ∀ w ∈ wsX20, w ∈ wsX2_killShoePressure := by decide +kernel
  have f0 := hts (.fieldLink RX2 10 "WellControl" "well" "LWellControl$Well;") (by decide +kernel)
  have f1 := hts (.fieldLink RX2 16 "WellControl" "trial" "LWellControl$Well;") (by decide +kernel)
  have f2 := hts (.fieldLink RX2 117 "WellControl$Well" "greatestAtShoe" "I") (by decide +kernel)
  have f3 := hts (.fieldLink RX2 64 "WellControl$Well" "mud" "I") (by decide +kernel)
  unfold qX2_killShoePressure at hw
  refine lv_iload_n hx hb dX2_killShoePressure_0 rfl (lv_at hl 1 rfl) ?_
  refine lv_iconst (v := 0) hx hb dX2_killShoePressure_1 (by decide) ?_
  refine lv_iconst (v := 1) hx hb dX2_killShoePressure_2 (by decide) ?_
  refine m0_i (mv_S (As := [.int p1, .int 0, .int 1]) (rest := []) ⟨hx, hb, hml, hown, hts⟩ (kX2_within l D I O H.size p1 0 1 _ hw) (va_cwS 3 hts gX2_killShoePressure_X2_within rfl rfl rfl hdSX2_within ⟨(Nat.le_of_ble_eq_true rfl), (Nat.le_of_ble_eq_true rfl)⟩) hK (nil_P (D := D) (H := H)) (nil_D (A := va_A (sysW I O a x) sz)) rfl hl.1 rfl (Nat.le_of_ble_eq_true rfl) dX2_killShoePressure_3 ⟨(Nat.le_of_ble_eq_true rfl), (Nat.le_of_ble_eq_true rfl)⟩) hP hD hS hA (fun r1 _ H locs hw hP hD hS => ?_)
  refine lv_if_eq (tgt := 21) hx hb dX2_killShoePressure_6 (by decide) (fun c2 => ?_) (fun c2 => ?_)
  · have hw := hw.1 c2
    refine lv_aload_n hx hb dX2_killShoePressure_21 rfl (lv_at hl 0 rfl) ?_
    refine lv_bipush (v := (-2)) hx hb dX2_killShoePressure_22 (by decide) ?_
    refine mw_i (mv_V (As := [.int (-2)]) (rest := []) ⟨hx, hb, hml, hown, hts⟩ (kX2_refuse l D I O a H.size x (-2) _ hw) (cwV 1 hts gX2_killShoePressure_X2_refuse rfl rfl rfl hdVX2_refuse ⟨(Nat.le_of_ble_eq_true rfl), (Nat.le_of_ble_eq_true rfl)⟩) hK hP hD 0 2 rfl rfl rfl rfl hl.1 rfl (Nat.le_of_ble_eq_true rfl) dX2_killShoePressure_24 ⟨(Nat.le_of_ble_eq_true rfl), (Nat.le_of_ble_eq_true rfl)⟩) hP hD hS hA (fun r3 u4 H locs hw hP hD hS => ?_)
    have hP : va_P D vwCl (sysW I O a u4) H := hP
    have hD : va_D (va_A (sysW I O a x) sz) (sysW I O a u4) := hD
    exact m_iret (u := u4) hx hb hr hlocks hS hP hD dX2_killShoePressure_27 hw
  · have hw := hw.2 c2
    refine lv_iload_n hx hb dX2_killShoePressure_9 rfl (lv_at hl 2 rfl) ?_
    refine lv_bipush (v := 100) hx hb dX2_killShoePressure_10 (by decide) ?_
    refine lv_sipush (v := 9000) hx hb dX2_killShoePressure_12 (by decide) ?_
    refine m0_i (mv_S (As := [.int p2, .int 100, .int 9000]) (rest := []) ⟨hx, hb, hml, hown, hts⟩ (kX2_within l D I O H.size p2 100 9000 _ hw) (va_cwS 3 hts gX2_killShoePressure_X2_within rfl rfl rfl hdSX2_within ⟨(Nat.le_of_ble_eq_true rfl), (Nat.le_of_ble_eq_true rfl)⟩) hK (nil_P (D := D) (H := H)) (nil_D (A := va_A (sysW I O a x) sz)) rfl hl.1 rfl (Nat.le_of_ble_eq_true rfl) dX2_killShoePressure_15 ⟨(Nat.le_of_ble_eq_true rfl), (Nat.le_of_ble_eq_true rfl)⟩) hP hD hS hA (fun r5 _ H locs hw hP hD hS => ?_)
    refine lv_if_ne (tgt := 28) hx hb dX2_killShoePressure_18 (by decide) (fun c6 => ?_) (fun c6 => ?_)
    · have hw := hw.1 c6
      refine lv_aload_n hx hb dX2_killShoePressure_28 rfl (lv_at hl 0 rfl) ?_
      refine va_get (ci := 2) (v := .ref a.2.2.2.1.1) (C := RX2) (T := TX2) (N := 5) hx hb hts hiX2 hown hK.1 hP 0 rfl rfl 0 (by decide) f0 (fun _ h9 => h9) rfl dX2_killShoePressure_29 ?_
      refine lv_iload_n hx hb dX2_killShoePressure_32 rfl (lv_at hl 2 rfl) ?_
      have hPc := va_P.mid (X := sysH I O a x) (wc := welB I a.2.2.2.1 (sW x)) (Y := welB I a.2.2.2.2.1 (sT x) ++ (welB I a.2.2.2.2.2.1 (s0 x) ++ (welB I a.2.2.2.2.2.2.1 (s1 x) ++ (welB I a.2.2.2.2.2.2.2.1 (s2 x) ++ welB I a.2.2.2.2.2.2.2.2 (s3 x))))) hP
      have hDc := va_D.mid (X := sysH I O a x) (wc := welB I a.2.2.2.1 (sW x)) (Y := welB I a.2.2.2.2.1 (sT x) ++ (welB I a.2.2.2.2.2.1 (s0 x) ++ (welB I a.2.2.2.2.2.2.1 (s1 x) ++ (welB I a.2.2.2.2.2.2.2.1 (s2 x) ++ welB I a.2.2.2.2.2.2.2.2 (s3 x))))) hD
      refine mc_i (sysH I O a x) (welB I a.2.2.2.2.1 (sT x) ++ (welB I a.2.2.2.2.2.1 (s0 x) ++ (welB I a.2.2.2.2.2.2.1 (s1 x) ++ (welB I a.2.2.2.2.2.2.2.1 (s2 x) ++ welB I a.2.2.2.2.2.2.2.2 (s3 x))))) (mv_V (As := [.int p2]) (rest := []) ⟨hx, hb, hml, hown, hts⟩ (kX1_canCirculate l D I O a.2.2.2.1 H.size (sW x) p2 _ hw) (cwV 1 hts gX2_killShoePressure_X1_canCirculate rfl rfl rfl hdVX1_canCirculate ⟨(Nat.le_of_ble_eq_true rfl), (Nat.le_of_ble_eq_true rfl)⟩) hK hPc hDc 0 1 rfl rfl rfl rfl hl.1 rfl (Nat.le_of_ble_eq_true rfl) dX2_killShoePressure_33 ⟨(Nat.le_of_ble_eq_true rfl), (Nat.le_of_ble_eq_true rfl)⟩) hP hD hS hA (fun r7 _ H locs hw hP hD hS => ?_)
      have hP : va_P D vwCl (sysW I O a x) H := hP
      have hD : va_D (va_A (sysW I O a x) sz) (sysW I O a x) := hD
      refine lv_if_ne (tgt := 46) hx hb dX2_killShoePressure_36 (by decide) (fun c8 => ?_) (fun c8 => ?_)
      · have hw := hw.1 c8
        refine lv_aload_n hx hb dX2_killShoePressure_46 rfl (lv_at hl 0 rfl) ?_
        refine va_get (ci := 2) (v := .ref a.2.2.2.1.1) (C := RX2) (T := TX2) (N := 5) hx hb hts hiX2 hown hK.1 hP 0 rfl rfl 0 (by decide) f0 (fun _ h9 => h9) rfl dX2_killShoePressure_47 ?_
        have hPc := va_P.mid (X := sysH I O a x) (wc := welB I a.2.2.2.1 (sW x)) (Y := welB I a.2.2.2.2.1 (sT x) ++ (welB I a.2.2.2.2.2.1 (s0 x) ++ (welB I a.2.2.2.2.2.2.1 (s1 x) ++ (welB I a.2.2.2.2.2.2.2.1 (s2 x) ++ welB I a.2.2.2.2.2.2.2.2 (s3 x))))) hP
        have hDc := va_D.mid (X := sysH I O a x) (wc := welB I a.2.2.2.1 (sW x)) (Y := welB I a.2.2.2.2.1 (sT x) ++ (welB I a.2.2.2.2.2.1 (s0 x) ++ (welB I a.2.2.2.2.2.2.1 (s1 x) ++ (welB I a.2.2.2.2.2.2.2.1 (s2 x) ++ welB I a.2.2.2.2.2.2.2.2 (s3 x))))) hD
        refine mc_i (sysH I O a x) (welB I a.2.2.2.2.1 (sT x) ++ (welB I a.2.2.2.2.2.1 (s0 x) ++ (welB I a.2.2.2.2.2.2.1 (s1 x) ++ (welB I a.2.2.2.2.2.2.2.1 (s2 x) ++ welB I a.2.2.2.2.2.2.2.2 (s3 x))))) (mv_V (As := []) (rest := []) ⟨hx, hb, hml, hown, hts⟩ (kX1_densityToKill l D I O a.2.2.2.1 H.size (sW x) _ hw) (cwV 0 hts gX2_killShoePressure_X1_densityToKill rfl rfl rfl hdVX1_densityToKill ⟨(Nat.le_of_ble_eq_true rfl), (Nat.le_of_ble_eq_true rfl)⟩) hK hPc hDc 0 1 rfl rfl rfl rfl hl.1 rfl (Nat.le_of_ble_eq_true rfl) dX2_killShoePressure_50 ⟨(Nat.le_of_ble_eq_true rfl), (Nat.le_of_ble_eq_true rfl)⟩) hP hD hS hA (fun r9 _ H locs hw hP hD hS => ?_)
        have hP : va_P D vwCl (sysW I O a x) H := hP
        have hD : va_D (va_A (sysW I O a x) sz) (sysW I O a x) := hD
        refine lv_istore_n (lv' := [(3, .int r9), (0, .ref a.1), (1, .int p1), (2, .int p2)]) hx hb dX2_killShoePressure_53 rfl hl (by decide) rfl (fun ls hl => ?_)
        refine lv_iload_n hx hb dX2_killShoePressure_54 rfl (lv_at hl 0 rfl) ?_
        refine lv_bipush (v := (-4)) hx hb dX2_killShoePressure_55 (by decide) ?_
        refine lv_icmp_ne (tgt := 67) hx hb dX2_killShoePressure_57 (by decide) (fun c10 => ?_) (fun c10 => ?_)
        · have hw := hw.1 c10
          refine lv_aload_n hx hb dX2_killShoePressure_67 rfl (lv_at hl 1 rfl) ?_
          refine va_get (ci := 2) (v := .ref a.2.2.2.2.1.1) (C := RX2) (T := TX2) (N := 5) hx hb hts hiX2 hown hK.1 hP 0 rfl rfl 1 (by decide) f1 (fun _ h9 => h9) rfl dX2_killShoePressure_68 ?_
          refine lv_aload_n hx hb dX2_killShoePressure_71 rfl (lv_at hl 1 rfl) ?_
          refine va_get (ci := 2) (v := .ref a.2.2.2.1.1) (C := RX2) (T := TX2) (N := 5) hx hb hts hiX2 hown hK.1 hP 0 rfl rfl 0 (by decide) f0 (fun _ h9 => h9) rfl dX2_killShoePressure_72 ?_
          have hPc := va_P.mid (X := sysH I O a x) (wc := welB I a.2.2.2.1 (sW x) ++ welB I a.2.2.2.2.1 (sT x)) (Y := welB I a.2.2.2.2.2.1 (s0 x) ++ (welB I a.2.2.2.2.2.2.1 (s1 x) ++ (welB I a.2.2.2.2.2.2.2.1 (s2 x) ++ welB I a.2.2.2.2.2.2.2.2 (s3 x)))) hP
          have hDc := va_D.mid (X := sysH I O a x) (wc := welB I a.2.2.2.1 (sW x) ++ welB I a.2.2.2.2.1 (sT x)) (Y := welB I a.2.2.2.2.2.1 (s0 x) ++ (welB I a.2.2.2.2.2.2.1 (s1 x) ++ (welB I a.2.2.2.2.2.2.2.1 (s2 x) ++ welB I a.2.2.2.2.2.2.2.2 (s3 x)))) hD
          refine mc_v (sysH I O a x) (welB I a.2.2.2.2.2.1 (s0 x) ++ (welB I a.2.2.2.2.2.2.1 (s1 x) ++ (welB I a.2.2.2.2.2.2.2.1 (s2 x) ++ welB I a.2.2.2.2.2.2.2.2 (s3 x)))) (mv_V (As := [.ref a.2.2.2.1.1]) (rest := []) ⟨hx, hb, hml, hown, hts⟩ (kX1_copyFrom l D I O a.2.2.2.1 a.2.2.2.2.1 H.size (sW x) (sT x) _ hw) (cwV 1 hts gX2_killShoePressure_X1_copyFrom rfl rfl rfl hdVX1_copyFrom ⟨(Nat.le_of_ble_eq_true rfl), (Nat.le_of_ble_eq_true rfl)⟩) hK hPc hDc 7 1 rfl rfl rfl rfl hl.1 rfl (Nat.le_of_ble_eq_true rfl) dX2_killShoePressure_75 ⟨(Nat.le_of_ble_eq_true rfl), (Nat.le_of_ble_eq_true rfl)⟩) hP hD hS hA (fun u11 H locs hw hP hD hS => ?_)
          have hP : va_P D vwCl (sysW I O a (sW x, u11, s0 x, s1 x, s2 x, s3 x, sC x, sE x)) H := hP
          have hD : va_D (va_A (sysW I O a x) sz) (sysW I O a (sW x, u11, s0 x, s1 x, s2 x, s3 x, sC x, sE x)) := hD
          refine lv_aload_n hx hb dX2_killShoePressure_78 rfl (lv_at hl 1 rfl) ?_
          refine va_get (ci := 2) (v := .ref a.2.2.2.2.1.1) (C := RX2) (T := TX2) (N := 5) hx hb hts hiX2 hown hK.1 hP 0 rfl rfl 1 (by decide) f1 (fun _ h9 => h9) rfl dX2_killShoePressure_79 ?_
          refine lv_iconst (v := 0) hx hb dX2_killShoePressure_82 (by decide) ?_
          refine va_put (ci := 1) (v := .int 0) (ty := .int) (C := RX1) (T := TX1) (N := 13) hx hb hts hiX1 tyX1 tyX1_ok nmX1 hown hK.1 hP hD hS 10 rfl rfl 10 (by decide) f2 (fun _ h9 => h9) rfl (by decide +kernel) rfl rfl (Nat.le_of_ble_eq_true rfl) dX2_killShoePressure_83 (fun H locs hP hD hS => ?_)
          have hP : va_P D vwCl (sysW I O a (sW x, (y0 u11, y1 u11, y2 u11, y3 u11, y4 u11, y5 u11, y6 u11, y7 u11, y8 u11, y9 u11, 0, yP u11, yA u11), s0 x, s1 x, s2 x, s3 x, sC x, sE x)) H := hP
          have hD : va_D (va_A (sysW I O a x) sz) (sysW I O a (sW x, (y0 u11, y1 u11, y2 u11, y3 u11, y4 u11, y5 u11, y6 u11, y7 u11, y8 u11, y9 u11, 0, yP u11, yA u11), s0 x, s1 x, s2 x, s3 x, sC x, sE x)) := hD
          refine lv_iload_n hx hb dX2_killShoePressure_86 rfl (lv_at hl 2 rfl) ?_
          refine lv_if_ne (tgt := 112) hx hb dX2_killShoePressure_87 (by decide) (fun c12 => ?_) (fun c12 => ?_)
          · have hw := hw.1 c12
            refine lv_aload_n hx hb dX2_killShoePressure_112 rfl (lv_at hl 1 rfl) ?_
            refine va_get (ci := 2) (v := .ref a.2.2.2.2.1.1) (C := RX2) (T := TX2) (N := 5) hx hb hts hiX2 hown hK.1 hP 0 rfl rfl 1 (by decide) f1 (fun _ h9 => h9) rfl dX2_killShoePressure_113 ?_
            refine lv_aload_n hx hb dX2_killShoePressure_116 rfl (lv_at hl 1 rfl) ?_
            refine va_get (ci := 2) (v := .ref a.2.2.2.2.1.1) (C := RX2) (T := TX2) (N := 5) hx hb hts hiX2 hown hK.1 hP 0 rfl rfl 1 (by decide) f1 (fun _ h9 => h9) rfl dX2_killShoePressure_117 ?_
            have hPc := va_P.mid (X := sysH I O a (sW x, (y0 u11, y1 u11, y2 u11, y3 u11, y4 u11, y5 u11, y6 u11, y7 u11, y8 u11, y9 u11, 0, yP u11, yA u11), s0 x, s1 x, s2 x, s3 x, sC x, sE x) ++ (welB I a.2.2.2.1 (sW x))) (wc := welB I a.2.2.2.2.1 (y0 u11, y1 u11, y2 u11, y3 u11, y4 u11, y5 u11, y6 u11, y7 u11, y8 u11, y9 u11, 0, yP u11, yA u11)) (Y := welB I a.2.2.2.2.2.1 (s0 x) ++ (welB I a.2.2.2.2.2.2.1 (s1 x) ++ (welB I a.2.2.2.2.2.2.2.1 (s2 x) ++ welB I a.2.2.2.2.2.2.2.2 (s3 x)))) hP
            have hDc := va_D.mid (X := sysH I O a (sW x, (y0 u11, y1 u11, y2 u11, y3 u11, y4 u11, y5 u11, y6 u11, y7 u11, y8 u11, y9 u11, 0, yP u11, yA u11), s0 x, s1 x, s2 x, s3 x, sC x, sE x) ++ (welB I a.2.2.2.1 (sW x))) (wc := welB I a.2.2.2.2.1 (y0 u11, y1 u11, y2 u11, y3 u11, y4 u11, y5 u11, y6 u11, y7 u11, y8 u11, y9 u11, 0, yP u11, yA u11)) (Y := welB I a.2.2.2.2.2.1 (s0 x) ++ (welB I a.2.2.2.2.2.2.1 (s1 x) ++ (welB I a.2.2.2.2.2.2.2.1 (s2 x) ++ welB I a.2.2.2.2.2.2.2.2 (s3 x)))) hD
            refine mc_i (sysH I O a (sW x, (y0 u11, y1 u11, y2 u11, y3 u11, y4 u11, y5 u11, y6 u11, y7 u11, y8 u11, y9 u11, 0, yP u11, yA u11), s0 x, s1 x, s2 x, s3 x, sC x, sE x) ++ (welB I a.2.2.2.1 (sW x))) (welB I a.2.2.2.2.2.1 (s0 x) ++ (welB I a.2.2.2.2.2.2.1 (s1 x) ++ (welB I a.2.2.2.2.2.2.2.1 (s2 x) ++ welB I a.2.2.2.2.2.2.2.2 (s3 x)))) (mv_V (As := []) (rest := [.ref a.2.2.2.2.1.1]) ⟨hx, hb, hml, hown, hts⟩ (kX1_pipeVolume l D I O a.2.2.2.2.1 H.size (y0 u11, y1 u11, y2 u11, y3 u11, y4 u11, y5 u11, y6 u11, y7 u11, y8 u11, y9 u11, 0, yP u11, yA u11) _ hw) (cwV 0 hts gX2_killShoePressure_X1_pipeVolume rfl rfl rfl hdVX1_pipeVolume ⟨(Nat.le_of_ble_eq_true rfl), (Nat.le_of_ble_eq_true rfl)⟩) hK hPc hDc 0 1 rfl rfl rfl rfl hl.1 rfl (Nat.le_of_ble_eq_true rfl) dX2_killShoePressure_120 ⟨(Nat.le_of_ble_eq_true rfl), (Nat.le_of_ble_eq_true rfl)⟩) hP hD hS hA (fun r13 _ H locs hw hP hD hS => ?_)
            have hP : va_P D vwCl (sysW I O a (sW x, (y0 u11, y1 u11, y2 u11, y3 u11, y4 u11, y5 u11, y6 u11, y7 u11, y8 u11, y9 u11, 0, yP u11, yA u11), s0 x, s1 x, s2 x, s3 x, sC x, sE x)) H := hP
            have hD : va_D (va_A (sysW I O a x) sz) (sysW I O a (sW x, (y0 u11, y1 u11, y2 u11, y3 u11, y4 u11, y5 u11, y6 u11, y7 u11, y8 u11, y9 u11, 0, yP u11, yA u11), s0 x, s1 x, s2 x, s3 x, sC x, sE x)) := hD
            refine lv_aload_n hx hb dX2_killShoePressure_123 rfl (lv_at hl 1 rfl) ?_
            refine va_get (ci := 2) (v := .ref a.2.2.2.2.1.1) (C := RX2) (T := TX2) (N := 5) hx hb hts hiX2 hown hK.1 hP 0 rfl rfl 1 (by decide) f1 (fun _ h9 => h9) rfl dX2_killShoePressure_124 ?_
            have hPc := va_P.mid (X := sysH I O a (sW x, (y0 u11, y1 u11, y2 u11, y3 u11, y4 u11, y5 u11, y6 u11, y7 u11, y8 u11, y9 u11, 0, yP u11, yA u11), s0 x, s1 x, s2 x, s3 x, sC x, sE x) ++ (welB I a.2.2.2.1 (sW x))) (wc := welB I a.2.2.2.2.1 (y0 u11, y1 u11, y2 u11, y3 u11, y4 u11, y5 u11, y6 u11, y7 u11, y8 u11, y9 u11, 0, yP u11, yA u11)) (Y := welB I a.2.2.2.2.2.1 (s0 x) ++ (welB I a.2.2.2.2.2.2.1 (s1 x) ++ (welB I a.2.2.2.2.2.2.2.1 (s2 x) ++ welB I a.2.2.2.2.2.2.2.2 (s3 x)))) hP
            have hDc := va_D.mid (X := sysH I O a (sW x, (y0 u11, y1 u11, y2 u11, y3 u11, y4 u11, y5 u11, y6 u11, y7 u11, y8 u11, y9 u11, 0, yP u11, yA u11), s0 x, s1 x, s2 x, s3 x, sC x, sE x) ++ (welB I a.2.2.2.1 (sW x))) (wc := welB I a.2.2.2.2.1 (y0 u11, y1 u11, y2 u11, y3 u11, y4 u11, y5 u11, y6 u11, y7 u11, y8 u11, y9 u11, 0, yP u11, yA u11)) (Y := welB I a.2.2.2.2.2.1 (s0 x) ++ (welB I a.2.2.2.2.2.2.1 (s1 x) ++ (welB I a.2.2.2.2.2.2.2.1 (s2 x) ++ welB I a.2.2.2.2.2.2.2.2 (s3 x)))) hD
            refine mc_i (sysH I O a (sW x, (y0 u11, y1 u11, y2 u11, y3 u11, y4 u11, y5 u11, y6 u11, y7 u11, y8 u11, y9 u11, 0, yP u11, yA u11), s0 x, s1 x, s2 x, s3 x, sC x, sE x) ++ (welB I a.2.2.2.1 (sW x))) (welB I a.2.2.2.2.2.1 (s0 x) ++ (welB I a.2.2.2.2.2.2.1 (s1 x) ++ (welB I a.2.2.2.2.2.2.2.1 (s2 x) ++ welB I a.2.2.2.2.2.2.2.2 (s3 x)))) (mv_V (As := []) (rest := [.int r13, .ref a.2.2.2.2.1.1]) ⟨hx, hb, hml, hown, hts⟩ (kX1_annulusVolume l D I O a.2.2.2.2.1 H.size (y0 u11, y1 u11, y2 u11, y3 u11, y4 u11, y5 u11, y6 u11, y7 u11, y8 u11, y9 u11, 0, yP u11, yA u11) _ hw) (cwV 0 hts gX2_killShoePressure_X1_annulusVolume rfl rfl rfl hdVX1_annulusVolume ⟨(Nat.le_of_ble_eq_true rfl), (Nat.le_of_ble_eq_true rfl)⟩) hK hPc hDc 0 1 rfl rfl rfl rfl hl.1 rfl (Nat.le_of_ble_eq_true rfl) dX2_killShoePressure_127 ⟨(Nat.le_of_ble_eq_true rfl), (Nat.le_of_ble_eq_true rfl)⟩) hP hD hS hA (fun r14 _ H locs hw hP hD hS => ?_)
            have hP : va_P D vwCl (sysW I O a (sW x, (y0 u11, y1 u11, y2 u11, y3 u11, y4 u11, y5 u11, y6 u11, y7 u11, y8 u11, y9 u11, 0, yP u11, yA u11), s0 x, s1 x, s2 x, s3 x, sC x, sE x)) H := hP
            have hD : va_D (va_A (sysW I O a x) sz) (sysW I O a (sW x, (y0 u11, y1 u11, y2 u11, y3 u11, y4 u11, y5 u11, y6 u11, y7 u11, y8 u11, y9 u11, 0, yP u11, yA u11), s0 x, s1 x, s2 x, s3 x, sC x, sE x)) := hD
            refine lv_iadd hx hb dX2_killShoePressure_130 ?_
            refine lv_iload_n hx hb dX2_killShoePressure_131 rfl (lv_at hl 3 rfl) ?_
            refine lv_iload_n hx hb dX2_killShoePressure_132 rfl (lv_at hl 0 rfl) ?_
            have hPc := va_P.mid (X := sysH I O a (sW x, (y0 u11, y1 u11, y2 u11, y3 u11, y4 u11, y5 u11, y6 u11, y7 u11, y8 u11, y9 u11, 0, yP u11, yA u11), s0 x, s1 x, s2 x, s3 x, sC x, sE x) ++ (welB I a.2.2.2.1 (sW x))) (wc := welB I a.2.2.2.2.1 (y0 u11, y1 u11, y2 u11, y3 u11, y4 u11, y5 u11, y6 u11, y7 u11, y8 u11, y9 u11, 0, yP u11, yA u11)) (Y := welB I a.2.2.2.2.2.1 (s0 x) ++ (welB I a.2.2.2.2.2.2.1 (s1 x) ++ (welB I a.2.2.2.2.2.2.2.1 (s2 x) ++ welB I a.2.2.2.2.2.2.2.2 (s3 x)))) hP
            have hDc := va_D.mid (X := sysH I O a (sW x, (y0 u11, y1 u11, y2 u11, y3 u11, y4 u11, y5 u11, y6 u11, y7 u11, y8 u11, y9 u11, 0, yP u11, yA u11), s0 x, s1 x, s2 x, s3 x, sC x, sE x) ++ (welB I a.2.2.2.1 (sW x))) (wc := welB I a.2.2.2.2.1 (y0 u11, y1 u11, y2 u11, y3 u11, y4 u11, y5 u11, y6 u11, y7 u11, y8 u11, y9 u11, 0, yP u11, yA u11)) (Y := welB I a.2.2.2.2.2.1 (s0 x) ++ (welB I a.2.2.2.2.2.2.1 (s1 x) ++ (welB I a.2.2.2.2.2.2.2.1 (s2 x) ++ welB I a.2.2.2.2.2.2.2.2 (s3 x)))) hD
            refine mc_v (sysH I O a (sW x, (y0 u11, y1 u11, y2 u11, y3 u11, y4 u11, y5 u11, y6 u11, y7 u11, y8 u11, y9 u11, 0, yP u11, yA u11), s0 x, s1 x, s2 x, s3 x, sC x, sE x) ++ (welB I a.2.2.2.1 (sW x))) (welB I a.2.2.2.2.2.1 (s0 x) ++ (welB I a.2.2.2.2.2.2.1 (s1 x) ++ (welB I a.2.2.2.2.2.2.2.1 (s2 x) ++ welB I a.2.2.2.2.2.2.2.2 (s3 x)))) (mv_V (As := [.int (r13 + r14), .int p2, .int r9]) (rest := []) ⟨hx, hb, hml, hown, hts⟩ (kX1_circulateInSteps l D I O a.2.2.2.2.1 H.size (y0 u11, y1 u11, y2 u11, y3 u11, y4 u11, y5 u11, y6 u11, y7 u11, y8 u11, y9 u11, 0, yP u11, yA u11) (r13 + r14) p2 r9 _ hw) (cwV 3 hts gX2_killShoePressure_X1_circulateInSteps rfl rfl rfl hdVX1_circulateInSteps ⟨(Nat.le_of_ble_eq_true rfl), (Nat.le_of_ble_eq_true rfl)⟩) hK hPc hDc 0 1 rfl rfl rfl rfl hl.1 rfl (Nat.le_of_ble_eq_true rfl) dX2_killShoePressure_133 ⟨(Nat.le_of_ble_eq_true rfl), (Nat.le_of_ble_eq_true rfl)⟩) hP hD hS hA (fun u15 H locs hw hP hD hS => ?_)
            have hP : va_P D vwCl (sysW I O a (sW x, u15, s0 x, s1 x, s2 x, s3 x, sC x, sE x)) H := hP
            have hD : va_D (va_A (sysW I O a x) sz) (sysW I O a (sW x, u15, s0 x, s1 x, s2 x, s3 x, sC x, sE x)) := hD
            refine lv_aload_n hx hb dX2_killShoePressure_136 rfl (lv_at hl 1 rfl) ?_
            refine va_get (ci := 2) (v := .ref a.2.2.2.2.1.1) (C := RX2) (T := TX2) (N := 5) hx hb hts hiX2 hown hK.1 hP 0 rfl rfl 1 (by decide) f1 (fun _ h9 => h9) rfl dX2_killShoePressure_137 ?_
            refine va_get (ci := 1) (v := .int (y10 u15)) (C := RX1) (T := TX1) (N := 13) hx hb hts hiX1 hown hK.1 hP 10 rfl rfl 10 (by decide) f2 (fun _ h9 => h9) rfl dX2_killShoePressure_140 ?_
            exact m_iret (u := (sW x, u15, s0 x, s1 x, s2 x, s3 x, sC x, sE x)) hx hb hr hlocks hS hP hD dX2_killShoePressure_143 hw
          · have hw := hw.2 c12
            refine lv_aload_n hx hb dX2_killShoePressure_90 rfl (lv_at hl 1 rfl) ?_
            refine va_get (ci := 2) (v := .ref a.2.2.2.2.1.1) (C := RX2) (T := TX2) (N := 5) hx hb hts hiX2 hown hK.1 hP 0 rfl rfl 1 (by decide) f1 (fun _ h9 => h9) rfl dX2_killShoePressure_91 ?_
            refine lv_aload_n hx hb dX2_killShoePressure_94 rfl (lv_at hl 1 rfl) ?_
            refine va_get (ci := 2) (v := .ref a.2.2.2.2.1.1) (C := RX2) (T := TX2) (N := 5) hx hb hts hiX2 hown hK.1 hP 0 rfl rfl 1 (by decide) f1 (fun _ h9 => h9) rfl dX2_killShoePressure_95 ?_
            have hPc := va_P.mid (X := sysH I O a (sW x, (y0 u11, y1 u11, y2 u11, y3 u11, y4 u11, y5 u11, y6 u11, y7 u11, y8 u11, y9 u11, 0, yP u11, yA u11), s0 x, s1 x, s2 x, s3 x, sC x, sE x) ++ (welB I a.2.2.2.1 (sW x))) (wc := welB I a.2.2.2.2.1 (y0 u11, y1 u11, y2 u11, y3 u11, y4 u11, y5 u11, y6 u11, y7 u11, y8 u11, y9 u11, 0, yP u11, yA u11)) (Y := welB I a.2.2.2.2.2.1 (s0 x) ++ (welB I a.2.2.2.2.2.2.1 (s1 x) ++ (welB I a.2.2.2.2.2.2.2.1 (s2 x) ++ welB I a.2.2.2.2.2.2.2.2 (s3 x)))) hP
            have hDc := va_D.mid (X := sysH I O a (sW x, (y0 u11, y1 u11, y2 u11, y3 u11, y4 u11, y5 u11, y6 u11, y7 u11, y8 u11, y9 u11, 0, yP u11, yA u11), s0 x, s1 x, s2 x, s3 x, sC x, sE x) ++ (welB I a.2.2.2.1 (sW x))) (wc := welB I a.2.2.2.2.1 (y0 u11, y1 u11, y2 u11, y3 u11, y4 u11, y5 u11, y6 u11, y7 u11, y8 u11, y9 u11, 0, yP u11, yA u11)) (Y := welB I a.2.2.2.2.2.1 (s0 x) ++ (welB I a.2.2.2.2.2.2.1 (s1 x) ++ (welB I a.2.2.2.2.2.2.2.1 (s2 x) ++ welB I a.2.2.2.2.2.2.2.2 (s3 x)))) hD
            refine mc_i (sysH I O a (sW x, (y0 u11, y1 u11, y2 u11, y3 u11, y4 u11, y5 u11, y6 u11, y7 u11, y8 u11, y9 u11, 0, yP u11, yA u11), s0 x, s1 x, s2 x, s3 x, sC x, sE x) ++ (welB I a.2.2.2.1 (sW x))) (welB I a.2.2.2.2.2.1 (s0 x) ++ (welB I a.2.2.2.2.2.2.1 (s1 x) ++ (welB I a.2.2.2.2.2.2.2.1 (s2 x) ++ welB I a.2.2.2.2.2.2.2.2 (s3 x)))) (mv_V (As := []) (rest := [.ref a.2.2.2.2.1.1]) ⟨hx, hb, hml, hown, hts⟩ (kX1_annulusVolume l D I O a.2.2.2.2.1 H.size (y0 u11, y1 u11, y2 u11, y3 u11, y4 u11, y5 u11, y6 u11, y7 u11, y8 u11, y9 u11, 0, yP u11, yA u11) _ hw) (cwV 0 hts gX2_killShoePressure_X1_annulusVolume rfl rfl rfl hdVX1_annulusVolume ⟨(Nat.le_of_ble_eq_true rfl), (Nat.le_of_ble_eq_true rfl)⟩) hK hPc hDc 0 1 rfl rfl rfl rfl hl.1 rfl (Nat.le_of_ble_eq_true rfl) dX2_killShoePressure_98 ⟨(Nat.le_of_ble_eq_true rfl), (Nat.le_of_ble_eq_true rfl)⟩) hP hD hS hA (fun r16 _ H locs hw hP hD hS => ?_)
            have hP : va_P D vwCl (sysW I O a (sW x, (y0 u11, y1 u11, y2 u11, y3 u11, y4 u11, y5 u11, y6 u11, y7 u11, y8 u11, y9 u11, 0, yP u11, yA u11), s0 x, s1 x, s2 x, s3 x, sC x, sE x)) H := hP
            have hD : va_D (va_A (sysW I O a x) sz) (sysW I O a (sW x, (y0 u11, y1 u11, y2 u11, y3 u11, y4 u11, y5 u11, y6 u11, y7 u11, y8 u11, y9 u11, 0, yP u11, yA u11), s0 x, s1 x, s2 x, s3 x, sC x, sE x)) := hD
            refine lv_iload_n hx hb dX2_killShoePressure_101 rfl (lv_at hl 3 rfl) ?_
            refine lv_aload_n hx hb dX2_killShoePressure_102 rfl (lv_at hl 1 rfl) ?_
            refine va_get (ci := 2) (v := .ref a.2.2.2.2.1.1) (C := RX2) (T := TX2) (N := 5) hx hb hts hiX2 hown hK.1 hP 0 rfl rfl 1 (by decide) f1 (fun _ h9 => h9) rfl dX2_killShoePressure_103 ?_
            refine va_get (ci := 1) (v := .int (y4 u11)) (C := RX1) (T := TX1) (N := 13) hx hb hts hiX1 hown hK.1 hP 10 rfl rfl 4 (by decide) f3 (fun _ h9 => h9) rfl dX2_killShoePressure_106 ?_
            have hPc := va_P.mid (X := sysH I O a (sW x, (y0 u11, y1 u11, y2 u11, y3 u11, y4 u11, y5 u11, y6 u11, y7 u11, y8 u11, y9 u11, 0, yP u11, yA u11), s0 x, s1 x, s2 x, s3 x, sC x, sE x) ++ (welB I a.2.2.2.1 (sW x))) (wc := welB I a.2.2.2.2.1 (y0 u11, y1 u11, y2 u11, y3 u11, y4 u11, y5 u11, y6 u11, y7 u11, y8 u11, y9 u11, 0, yP u11, yA u11)) (Y := welB I a.2.2.2.2.2.1 (s0 x) ++ (welB I a.2.2.2.2.2.2.1 (s1 x) ++ (welB I a.2.2.2.2.2.2.2.1 (s2 x) ++ welB I a.2.2.2.2.2.2.2.2 (s3 x)))) hP
            have hDc := va_D.mid (X := sysH I O a (sW x, (y0 u11, y1 u11, y2 u11, y3 u11, y4 u11, y5 u11, y6 u11, y7 u11, y8 u11, y9 u11, 0, yP u11, yA u11), s0 x, s1 x, s2 x, s3 x, sC x, sE x) ++ (welB I a.2.2.2.1 (sW x))) (wc := welB I a.2.2.2.2.1 (y0 u11, y1 u11, y2 u11, y3 u11, y4 u11, y5 u11, y6 u11, y7 u11, y8 u11, y9 u11, 0, yP u11, yA u11)) (Y := welB I a.2.2.2.2.2.1 (s0 x) ++ (welB I a.2.2.2.2.2.2.1 (s1 x) ++ (welB I a.2.2.2.2.2.2.2.1 (s2 x) ++ welB I a.2.2.2.2.2.2.2.2 (s3 x)))) hD
            refine mc_v (sysH I O a (sW x, (y0 u11, y1 u11, y2 u11, y3 u11, y4 u11, y5 u11, y6 u11, y7 u11, y8 u11, y9 u11, 0, yP u11, yA u11), s0 x, s1 x, s2 x, s3 x, sC x, sE x) ++ (welB I a.2.2.2.1 (sW x))) (welB I a.2.2.2.2.2.1 (s0 x) ++ (welB I a.2.2.2.2.2.2.1 (s1 x) ++ (welB I a.2.2.2.2.2.2.2.1 (s2 x) ++ welB I a.2.2.2.2.2.2.2.2 (s3 x)))) (mv_V (As := [.int r16, .int p2, .int (y4 u11)]) (rest := []) ⟨hx, hb, hml, hown, hts⟩ (kX1_circulateInSteps l D I O a.2.2.2.2.1 H.size (y0 u11, y1 u11, y2 u11, y3 u11, y4 u11, y5 u11, y6 u11, y7 u11, y8 u11, y9 u11, 0, yP u11, yA u11) r16 p2 (y4 u11) _ hw) (cwV 3 hts gX2_killShoePressure_X1_circulateInSteps rfl rfl rfl hdVX1_circulateInSteps ⟨(Nat.le_of_ble_eq_true rfl), (Nat.le_of_ble_eq_true rfl)⟩) hK hPc hDc 0 1 rfl rfl rfl rfl hl.1 rfl (Nat.le_of_ble_eq_true rfl) dX2_killShoePressure_109 ⟨(Nat.le_of_ble_eq_true rfl), (Nat.le_of_ble_eq_true rfl)⟩) hP hD hS hA (fun u17 H locs hw hP hD hS => ?_)
            have hP : va_P D vwCl (sysW I O a (sW x, u17, s0 x, s1 x, s2 x, s3 x, sC x, sE x)) H := hP
            have hD : va_D (va_A (sysW I O a x) sz) (sysW I O a (sW x, u17, s0 x, s1 x, s2 x, s3 x, sC x, sE x)) := hD
            refine lv_aload_n hx hb dX2_killShoePressure_112 rfl (lv_at hl 1 rfl) ?_
            refine va_get (ci := 2) (v := .ref a.2.2.2.2.1.1) (C := RX2) (T := TX2) (N := 5) hx hb hts hiX2 hown hK.1 hP 0 rfl rfl 1 (by decide) f1 (fun _ h9 => h9) rfl dX2_killShoePressure_113 ?_
            refine lv_aload_n hx hb dX2_killShoePressure_116 rfl (lv_at hl 1 rfl) ?_
            refine va_get (ci := 2) (v := .ref a.2.2.2.2.1.1) (C := RX2) (T := TX2) (N := 5) hx hb hts hiX2 hown hK.1 hP 0 rfl rfl 1 (by decide) f1 (fun _ h9 => h9) rfl dX2_killShoePressure_117 ?_
            have hPc := va_P.mid (X := sysH I O a (sW x, u17, s0 x, s1 x, s2 x, s3 x, sC x, sE x) ++ (welB I a.2.2.2.1 (sW x))) (wc := welB I a.2.2.2.2.1 u17) (Y := welB I a.2.2.2.2.2.1 (s0 x) ++ (welB I a.2.2.2.2.2.2.1 (s1 x) ++ (welB I a.2.2.2.2.2.2.2.1 (s2 x) ++ welB I a.2.2.2.2.2.2.2.2 (s3 x)))) hP
            have hDc := va_D.mid (X := sysH I O a (sW x, u17, s0 x, s1 x, s2 x, s3 x, sC x, sE x) ++ (welB I a.2.2.2.1 (sW x))) (wc := welB I a.2.2.2.2.1 u17) (Y := welB I a.2.2.2.2.2.1 (s0 x) ++ (welB I a.2.2.2.2.2.2.1 (s1 x) ++ (welB I a.2.2.2.2.2.2.2.1 (s2 x) ++ welB I a.2.2.2.2.2.2.2.2 (s3 x)))) hD
            refine mc_i (sysH I O a (sW x, u17, s0 x, s1 x, s2 x, s3 x, sC x, sE x) ++ (welB I a.2.2.2.1 (sW x))) (welB I a.2.2.2.2.2.1 (s0 x) ++ (welB I a.2.2.2.2.2.2.1 (s1 x) ++ (welB I a.2.2.2.2.2.2.2.1 (s2 x) ++ welB I a.2.2.2.2.2.2.2.2 (s3 x)))) (mv_V (As := []) (rest := [.ref a.2.2.2.2.1.1]) ⟨hx, hb, hml, hown, hts⟩ (kX1_pipeVolume l D I O a.2.2.2.2.1 H.size u17 _ hw) (cwV 0 hts gX2_killShoePressure_X1_pipeVolume rfl rfl rfl hdVX1_pipeVolume ⟨(Nat.le_of_ble_eq_true rfl), (Nat.le_of_ble_eq_true rfl)⟩) hK hPc hDc 0 1 rfl rfl rfl rfl hl.1 rfl (Nat.le_of_ble_eq_true rfl) dX2_killShoePressure_120 ⟨(Nat.le_of_ble_eq_true rfl), (Nat.le_of_ble_eq_true rfl)⟩) hP hD hS hA (fun r18 _ H locs hw hP hD hS => ?_)
            have hP : va_P D vwCl (sysW I O a (sW x, u17, s0 x, s1 x, s2 x, s3 x, sC x, sE x)) H := hP
            have hD : va_D (va_A (sysW I O a x) sz) (sysW I O a (sW x, u17, s0 x, s1 x, s2 x, s3 x, sC x, sE x)) := hD
            refine lv_aload_n hx hb dX2_killShoePressure_123 rfl (lv_at hl 1 rfl) ?_
            refine va_get (ci := 2) (v := .ref a.2.2.2.2.1.1) (C := RX2) (T := TX2) (N := 5) hx hb hts hiX2 hown hK.1 hP 0 rfl rfl 1 (by decide) f1 (fun _ h9 => h9) rfl dX2_killShoePressure_124 ?_
            have hPc := va_P.mid (X := sysH I O a (sW x, u17, s0 x, s1 x, s2 x, s3 x, sC x, sE x) ++ (welB I a.2.2.2.1 (sW x))) (wc := welB I a.2.2.2.2.1 u17) (Y := welB I a.2.2.2.2.2.1 (s0 x) ++ (welB I a.2.2.2.2.2.2.1 (s1 x) ++ (welB I a.2.2.2.2.2.2.2.1 (s2 x) ++ welB I a.2.2.2.2.2.2.2.2 (s3 x)))) hP
            have hDc := va_D.mid (X := sysH I O a (sW x, u17, s0 x, s1 x, s2 x, s3 x, sC x, sE x) ++ (welB I a.2.2.2.1 (sW x))) (wc := welB I a.2.2.2.2.1 u17) (Y := welB I a.2.2.2.2.2.1 (s0 x) ++ (welB I a.2.2.2.2.2.2.1 (s1 x) ++ (welB I a.2.2.2.2.2.2.2.1 (s2 x) ++ welB I a.2.2.2.2.2.2.2.2 (s3 x)))) hD
            refine mc_i (sysH I O a (sW x, u17, s0 x, s1 x, s2 x, s3 x, sC x, sE x) ++ (welB I a.2.2.2.1 (sW x))) (welB I a.2.2.2.2.2.1 (s0 x) ++ (welB I a.2.2.2.2.2.2.1 (s1 x) ++ (welB I a.2.2.2.2.2.2.2.1 (s2 x) ++ welB I a.2.2.2.2.2.2.2.2 (s3 x)))) (mv_V (As := []) (rest := [.int r18, .ref a.2.2.2.2.1.1]) ⟨hx, hb, hml, hown, hts⟩ (kX1_annulusVolume l D I O a.2.2.2.2.1 H.size u17 _ hw) (cwV 0 hts gX2_killShoePressure_X1_annulusVolume rfl rfl rfl hdVX1_annulusVolume ⟨(Nat.le_of_ble_eq_true rfl), (Nat.le_of_ble_eq_true rfl)⟩) hK hPc hDc 0 1 rfl rfl rfl rfl hl.1 rfl (Nat.le_of_ble_eq_true rfl) dX2_killShoePressure_127 ⟨(Nat.le_of_ble_eq_true rfl), (Nat.le_of_ble_eq_true rfl)⟩) hP hD hS hA (fun r19 _ H locs hw hP hD hS => ?_)
            have hP : va_P D vwCl (sysW I O a (sW x, u17, s0 x, s1 x, s2 x, s3 x, sC x, sE x)) H := hP
            have hD : va_D (va_A (sysW I O a x) sz) (sysW I O a (sW x, u17, s0 x, s1 x, s2 x, s3 x, sC x, sE x)) := hD
            refine lv_iadd hx hb dX2_killShoePressure_130 ?_
            refine lv_iload_n hx hb dX2_killShoePressure_131 rfl (lv_at hl 3 rfl) ?_
            refine lv_iload_n hx hb dX2_killShoePressure_132 rfl (lv_at hl 0 rfl) ?_
            have hPc := va_P.mid (X := sysH I O a (sW x, u17, s0 x, s1 x, s2 x, s3 x, sC x, sE x) ++ (welB I a.2.2.2.1 (sW x))) (wc := welB I a.2.2.2.2.1 u17) (Y := welB I a.2.2.2.2.2.1 (s0 x) ++ (welB I a.2.2.2.2.2.2.1 (s1 x) ++ (welB I a.2.2.2.2.2.2.2.1 (s2 x) ++ welB I a.2.2.2.2.2.2.2.2 (s3 x)))) hP
            have hDc := va_D.mid (X := sysH I O a (sW x, u17, s0 x, s1 x, s2 x, s3 x, sC x, sE x) ++ (welB I a.2.2.2.1 (sW x))) (wc := welB I a.2.2.2.2.1 u17) (Y := welB I a.2.2.2.2.2.1 (s0 x) ++ (welB I a.2.2.2.2.2.2.1 (s1 x) ++ (welB I a.2.2.2.2.2.2.2.1 (s2 x) ++ welB I a.2.2.2.2.2.2.2.2 (s3 x)))) hD
            refine mc_v (sysH I O a (sW x, u17, s0 x, s1 x, s2 x, s3 x, sC x, sE x) ++ (welB I a.2.2.2.1 (sW x))) (welB I a.2.2.2.2.2.1 (s0 x) ++ (welB I a.2.2.2.2.2.2.1 (s1 x) ++ (welB I a.2.2.2.2.2.2.2.1 (s2 x) ++ welB I a.2.2.2.2.2.2.2.2 (s3 x)))) (mv_V (As := [.int (r18 + r19), .int p2, .int r9]) (rest := []) ⟨hx, hb, hml, hown, hts⟩ (kX1_circulateInSteps l D I O a.2.2.2.2.1 H.size u17 (r18 + r19) p2 r9 _ hw) (cwV 3 hts gX2_killShoePressure_X1_circulateInSteps rfl rfl rfl hdVX1_circulateInSteps ⟨(Nat.le_of_ble_eq_true rfl), (Nat.le_of_ble_eq_true rfl)⟩) hK hPc hDc 0 1 rfl rfl rfl rfl hl.1 rfl (Nat.le_of_ble_eq_true rfl) dX2_killShoePressure_133 ⟨(Nat.le_of_ble_eq_true rfl), (Nat.le_of_ble_eq_true rfl)⟩) hP hD hS hA (fun u20 H locs hw hP hD hS => ?_)
            have hP : va_P D vwCl (sysW I O a (sW x, u20, s0 x, s1 x, s2 x, s3 x, sC x, sE x)) H := hP
            have hD : va_D (va_A (sysW I O a x) sz) (sysW I O a (sW x, u20, s0 x, s1 x, s2 x, s3 x, sC x, sE x)) := hD
            refine lv_aload_n hx hb dX2_killShoePressure_136 rfl (lv_at hl 1 rfl) ?_
            refine va_get (ci := 2) (v := .ref a.2.2.2.2.1.1) (C := RX2) (T := TX2) (N := 5) hx hb hts hiX2 hown hK.1 hP 0 rfl rfl 1 (by decide) f1 (fun _ h9 => h9) rfl dX2_killShoePressure_137 ?_
            refine va_get (ci := 1) (v := .int (y10 u20)) (C := RX1) (T := TX1) (N := 13) hx hb hts hiX1 hown hK.1 hP 10 rfl rfl 10 (by decide) f2 (fun _ h9 => h9) rfl dX2_killShoePressure_140 ?_
            exact m_iret (u := (sW x, u20, s0 x, s1 x, s2 x, s3 x, sC x, sE x)) hx hb hr hlocks hS hP hD dX2_killShoePressure_143 hw
        · have hw := hw.2 c10
          refine lv_aload_n hx hb dX2_killShoePressure_60 rfl (lv_at hl 1 rfl) ?_
          refine lv_bipush (v := (-4)) hx hb dX2_killShoePressure_61 (by decide) ?_
          refine mw_i (mv_V (As := [.int (-4)]) (rest := []) ⟨hx, hb, hml, hown, hts⟩ (kX2_refuse l D I O a H.size x (-4) _ hw) (cwV 1 hts gX2_killShoePressure_X2_refuse rfl rfl rfl hdVX2_refuse ⟨(Nat.le_of_ble_eq_true rfl), (Nat.le_of_ble_eq_true rfl)⟩) hK hP hD 0 2 rfl rfl rfl rfl hl.1 rfl (Nat.le_of_ble_eq_true rfl) dX2_killShoePressure_63 ⟨(Nat.le_of_ble_eq_true rfl), (Nat.le_of_ble_eq_true rfl)⟩) hP hD hS hA (fun r21 u22 H locs hw hP hD hS => ?_)
          have hP : va_P D vwCl (sysW I O a u22) H := hP
          have hD : va_D (va_A (sysW I O a x) sz) (sysW I O a u22) := hD
          exact m_iret (u := u22) hx hb hr hlocks hS hP hD dX2_killShoePressure_66 hw
      · have hw := hw.2 c8
        refine lv_aload_n hx hb dX2_killShoePressure_39 rfl (lv_at hl 0 rfl) ?_
        refine lv_bipush (v := (-3)) hx hb dX2_killShoePressure_40 (by decide) ?_
        refine mw_i (mv_V (As := [.int (-3)]) (rest := []) ⟨hx, hb, hml, hown, hts⟩ (kX2_refuse l D I O a H.size x (-3) _ hw) (cwV 1 hts gX2_killShoePressure_X2_refuse rfl rfl rfl hdVX2_refuse ⟨(Nat.le_of_ble_eq_true rfl), (Nat.le_of_ble_eq_true rfl)⟩) hK hP hD 0 2 rfl rfl rfl rfl hl.1 rfl (Nat.le_of_ble_eq_true rfl) dX2_killShoePressure_42 ⟨(Nat.le_of_ble_eq_true rfl), (Nat.le_of_ble_eq_true rfl)⟩) hP hD hS hA (fun r23 u24 H locs hw hP hD hS => ?_)
        have hP : va_P D vwCl (sysW I O a u24) H := hP
        have hD : va_D (va_A (sysW I O a x) sz) (sysW I O a u24) := hD
        exact m_iret (u := u24) hx hb hr hlocks hS hP hD dX2_killShoePressure_45 hw
    · have hw := hw.2 c6
      refine lv_aload_n hx hb dX2_killShoePressure_21 rfl (lv_at hl 0 rfl) ?_
      refine lv_bipush (v := (-2)) hx hb dX2_killShoePressure_22 (by decide) ?_
      refine mw_i (mv_V (As := [.int (-2)]) (rest := []) ⟨hx, hb, hml, hown, hts⟩ (kX2_refuse l D I O a H.size x (-2) _ hw) (cwV 1 hts gX2_killShoePressure_X2_refuse rfl rfl rfl hdVX2_refuse ⟨(Nat.le_of_ble_eq_true rfl), (Nat.le_of_ble_eq_true rfl)⟩) hK hP hD 0 2 rfl rfl rfl rfl hl.1 rfl (Nat.le_of_ble_eq_true rfl) dX2_killShoePressure_24 ⟨(Nat.le_of_ble_eq_true rfl), (Nat.le_of_ble_eq_true rfl)⟩) hP hD hS hA (fun r25 u26 H locs hw hP hD hS => ?_)
      have hP : va_P D vwCl (sysW I O a u26) H := hP
      have hD : va_D (va_A (sysW I O a x) sz) (sysW I O a u26) := hD
      exact m_iret (u := u26) hx hb hr hlocks hS hP hD dX2_killShoePressure_27 hw
def qX2_schedule (x : Sys) (p1 : Int32) (Q : Int32 → Sys → Prop) : Prop := (qX2_within p1 0 100 (fun r1 => ((¬ r1 = 0 → (qX1_densityToKill (sW x) (fun r3 => ((¬ r3 = (-4) → (qX1_pressureAtStandpipe (sW x) (fun r5 => (∀ v6 : Int64, v6 = Int32.toInt64 r5 → (¬ (Int32.toInt64 (if (1 : Int32) < (y4 (sW x)) then (y4 (sW x)) else 1)) = 0 ∧ (∀ v8 : Int64, v8 = ((Int32.toInt64 (y6 (sW x))) * (Int32.toInt64 r3)) / (Int32.toInt64 (if (1 : Int32) < (y4 (sW x)) then (y4 (sW x)) else 1)) → Q (Int64.toInt32 (v6 + (((v8 - v6) * (Int32.toInt64 p1)) / 100))) x)))))) ∧ (r3 = (-4) → (qX2_refuse x (-4) (fun r9 u10 => Q r9 u10))))))) ∧ (r1 = 0 → (qX2_refuse x (-2) (fun r11 u12 => Q r11 u12))))))
set_option maxHeartbeats 4000000 in
set_option maxRecDepth 100000 in
theorem kX2_schedule (l : Launch) (D : va_G) (I O : ClassId) (a : SA) (sz : Nat) (x : Sys) (p1 : Int32) (Q : Int32 → Sys → Prop) (hw : qX2_schedule x p1 Q) : Met l yX2_schedule wsX2_schedule rX2_schedule (mPc D I O [.ref a.1, .int p1] (sysW I O a x) sz) (va_Qi (fun r (u : Sys) => Q r u) (mB D (va_A (sysW I O a x) sz) (fun u => sysW I O a u)) (va_A (sysW I O a x) sz)) 0 0 (va_A (sysW I O a x) sz) := by
  refine m_start (by decide) rfl (Nat.le_of_ble_eq_true rfl) (fun p e s m below meth c ls H locs hx hb hr hml hts hown hlocks hnm hK hP hD hA hS hl => ?_)
  have hown : s.vm.findClass RX2 = some m.cls := hown
  have hl : lv_has ls 7 [(0, .ref a.1), (1, .int p1)] := hl
  have hiX1 : ∀ w ∈ wsX10, w ∈ wsX2_schedule := by decide +kernel
  have hiX2 : ∀ w ∈ wsX20, w ∈ wsX2_schedule := by decide +kernel
  have f0 := hts (.fieldLink RX2 10 "WellControl" "well" "LWellControl$Well;") (by decide +kernel)
  have f1 := hts (.fieldLink RX2 71 "WellControl$Well" "slowPump" "I") (by decide +kernel)
  have f2 := hts (.fieldLink RX2 64 "WellControl$Well" "mud" "I") (by decide +kernel)
  have f3 := hts (.methodLink RX2 124 Lib.Math.max.name) (by decide +kernel)
  have f4 := hts (.static Lib.Math.max.name) (by decide +kernel)
  have f5 := hts (.initialized "java/lang/Math") (by decide +kernel)
  have f6 := hts (.code Lib.Math.max.name Lib.Math.max.code 2 (some .int)) (by decide +kernel)
  have f7 := hts (.constantLong RX2 129 (100)) (by decide +kernel)
  unfold qX2_schedule at hw
  refine lv_iload_n hx hb dX2_schedule_0 rfl (lv_at hl 1 rfl) ?_
  refine lv_iconst (v := 0) hx hb dX2_schedule_1 (by decide) ?_
  refine lv_bipush (v := 100) hx hb dX2_schedule_2 (by decide) ?_
  refine m0_i (mv_S (As := [.int p1, .int 0, .int 100]) (rest := []) ⟨hx, hb, hml, hown, hts⟩ (kX2_within l D I O H.size p1 0 100 _ hw) (va_cwS 3 hts gX2_schedule_X2_within rfl rfl rfl hdSX2_within ⟨(Nat.le_of_ble_eq_true rfl), (Nat.le_of_ble_eq_true rfl)⟩) hK (nil_P (D := D) (H := H)) (nil_D (A := va_A (sysW I O a x) sz)) rfl hl.1 rfl (Nat.le_of_ble_eq_true rfl) dX2_schedule_4 ⟨(Nat.le_of_ble_eq_true rfl), (Nat.le_of_ble_eq_true rfl)⟩) hP hD hS hA (fun r1 _ H locs hw hP hD hS => ?_)
  refine lv_if_ne (tgt := 17) hx hb dX2_schedule_7 (by decide) (fun c2 => ?_) (fun c2 => ?_)
  · have hw := hw.1 c2
    refine lv_aload_n hx hb dX2_schedule_17 rfl (lv_at hl 0 rfl) ?_
    refine va_get (ci := 2) (v := .ref a.2.2.2.1.1) (C := RX2) (T := TX2) (N := 5) hx hb hts hiX2 hown hK.1 hP 0 rfl rfl 0 (by decide) f0 (fun _ h9 => h9) rfl dX2_schedule_18 ?_
    have hPc := va_P.mid (X := sysH I O a x) (wc := welB I a.2.2.2.1 (sW x)) (Y := welB I a.2.2.2.2.1 (sT x) ++ (welB I a.2.2.2.2.2.1 (s0 x) ++ (welB I a.2.2.2.2.2.2.1 (s1 x) ++ (welB I a.2.2.2.2.2.2.2.1 (s2 x) ++ welB I a.2.2.2.2.2.2.2.2 (s3 x))))) hP
    have hDc := va_D.mid (X := sysH I O a x) (wc := welB I a.2.2.2.1 (sW x)) (Y := welB I a.2.2.2.2.1 (sT x) ++ (welB I a.2.2.2.2.2.1 (s0 x) ++ (welB I a.2.2.2.2.2.2.1 (s1 x) ++ (welB I a.2.2.2.2.2.2.2.1 (s2 x) ++ welB I a.2.2.2.2.2.2.2.2 (s3 x))))) hD
    refine mc_i (sysH I O a x) (welB I a.2.2.2.2.1 (sT x) ++ (welB I a.2.2.2.2.2.1 (s0 x) ++ (welB I a.2.2.2.2.2.2.1 (s1 x) ++ (welB I a.2.2.2.2.2.2.2.1 (s2 x) ++ welB I a.2.2.2.2.2.2.2.2 (s3 x))))) (mv_V (As := []) (rest := []) ⟨hx, hb, hml, hown, hts⟩ (kX1_densityToKill l D I O a.2.2.2.1 H.size (sW x) _ hw) (cwV 0 hts gX2_schedule_X1_densityToKill rfl rfl rfl hdVX1_densityToKill ⟨(Nat.le_of_ble_eq_true rfl), (Nat.le_of_ble_eq_true rfl)⟩) hK hPc hDc 0 1 rfl rfl rfl rfl hl.1 rfl (Nat.le_of_ble_eq_true rfl) dX2_schedule_21 ⟨(Nat.le_of_ble_eq_true rfl), (Nat.le_of_ble_eq_true rfl)⟩) hP hD hS hA (fun r3 _ H locs hw hP hD hS => ?_)
    have hP : va_P D vwCl (sysW I O a x) H := hP
    have hD : va_D (va_A (sysW I O a x) sz) (sysW I O a x) := hD
    refine lv_istore_n (lv' := [(2, .int r3), (0, .ref a.1), (1, .int p1)]) hx hb dX2_schedule_24 rfl hl (by decide) rfl (fun ls hl => ?_)
    refine lv_iload_n hx hb dX2_schedule_25 rfl (lv_at hl 0 rfl) ?_
    refine lv_bipush (v := (-4)) hx hb dX2_schedule_26 (by decide) ?_
    refine lv_icmp_ne (tgt := 38) hx hb dX2_schedule_28 (by decide) (fun c4 => ?_) (fun c4 => ?_)
    · have hw := hw.1 c4
      refine lv_aload_n hx hb dX2_schedule_38 rfl (lv_at hl 1 rfl) ?_
      refine va_get (ci := 2) (v := .ref a.2.2.2.1.1) (C := RX2) (T := TX2) (N := 5) hx hb hts hiX2 hown hK.1 hP 0 rfl rfl 0 (by decide) f0 (fun _ h9 => h9) rfl dX2_schedule_39 ?_
      have hPc := va_P.mid (X := sysH I O a x) (wc := welB I a.2.2.2.1 (sW x)) (Y := welB I a.2.2.2.2.1 (sT x) ++ (welB I a.2.2.2.2.2.1 (s0 x) ++ (welB I a.2.2.2.2.2.2.1 (s1 x) ++ (welB I a.2.2.2.2.2.2.2.1 (s2 x) ++ welB I a.2.2.2.2.2.2.2.2 (s3 x))))) hP
      have hDc := va_D.mid (X := sysH I O a x) (wc := welB I a.2.2.2.1 (sW x)) (Y := welB I a.2.2.2.2.1 (sT x) ++ (welB I a.2.2.2.2.2.1 (s0 x) ++ (welB I a.2.2.2.2.2.2.1 (s1 x) ++ (welB I a.2.2.2.2.2.2.2.1 (s2 x) ++ welB I a.2.2.2.2.2.2.2.2 (s3 x))))) hD
      refine mc_i (sysH I O a x) (welB I a.2.2.2.2.1 (sT x) ++ (welB I a.2.2.2.2.2.1 (s0 x) ++ (welB I a.2.2.2.2.2.2.1 (s1 x) ++ (welB I a.2.2.2.2.2.2.2.1 (s2 x) ++ welB I a.2.2.2.2.2.2.2.2 (s3 x))))) (mv_V (As := []) (rest := []) ⟨hx, hb, hml, hown, hts⟩ (kX1_pressureAtStandpipe l D I O a.2.2.2.1 H.size (sW x) _ hw) (cwV 0 hts gX2_schedule_X1_pressureAtStandpipe rfl rfl rfl hdVX1_pressureAtStandpipe ⟨(Nat.le_of_ble_eq_true rfl), (Nat.le_of_ble_eq_true rfl)⟩) hK hPc hDc 0 1 rfl rfl rfl rfl hl.1 rfl (Nat.le_of_ble_eq_true rfl) dX2_schedule_42 ⟨(Nat.le_of_ble_eq_true rfl), (Nat.le_of_ble_eq_true rfl)⟩) hP hD hS hA (fun r5 _ H locs hw hP hD hS => ?_)
      have hP : va_P D vwCl (sysW I O a x) H := hP
      have hD : va_D (va_A (sysW I O a x) sz) (sysW I O a x) := hD
      refine lv_i2l (v := Int32.toInt64 r5) hx hb dX2_schedule_45 rfl ?_
      refine lv_topl (fun v6 ev6 => ?_)
      have hw := hw v6 ev6
      refine lv_lstore_n (lv' := [(3, .long v6), (2, .int r3), (0, .ref a.1), (1, .int p1)]) hx hb dX2_schedule_46 rfl hl (by decide) rfl (fun ls hl => ?_)
      refine lv_aload_n hx hb dX2_schedule_47 rfl (lv_at hl 2 rfl) ?_
      refine va_get (ci := 2) (v := .ref a.2.2.2.1.1) (C := RX2) (T := TX2) (N := 5) hx hb hts hiX2 hown hK.1 hP 0 rfl rfl 0 (by decide) f0 (fun _ h9 => h9) rfl dX2_schedule_48 ?_
      refine va_get (ci := 1) (v := .int (y6 (sW x))) (C := RX1) (T := TX1) (N := 13) hx hb hts hiX1 hown hK.1 hP 3 rfl rfl 6 (by decide) f1 (fun _ h9 => h9) rfl dX2_schedule_51 ?_
      refine lv_i2l (v := Int32.toInt64 (y6 (sW x))) hx hb dX2_schedule_54 rfl ?_
      refine lv_iload_n hx hb dX2_schedule_55 rfl (lv_at hl 1 rfl) ?_
      refine lv_i2l (v := Int32.toInt64 r3) hx hb dX2_schedule_56 rfl ?_
      refine lv_lmul hx hb dX2_schedule_57 ?_
      refine lv_iconst (v := 1) hx hb dX2_schedule_58 (by decide) ?_
      refine lv_aload_n hx hb dX2_schedule_59 rfl (lv_at hl 2 rfl) ?_
      refine va_get (ci := 2) (v := .ref a.2.2.2.1.1) (C := RX2) (T := TX2) (N := 5) hx hb hts hiX2 hown hK.1 hP 0 rfl rfl 0 (by decide) f0 (fun _ h9 => h9) rfl dX2_schedule_60 ?_
      refine va_get (ci := 1) (v := .int (y4 (sW x))) (C := RX1) (T := TX1) (N := 13) hx hb hts hiX1 hown hK.1 hP 3 rfl rfl 4 (by decide) f2 (fun _ h9 => h9) rfl dX2_schedule_63 ?_
      refine va_mmax hx hb (hml.trans hl.1.symm) hown f3 f4 f5 f6 (Nat.le_of_ble_eq_true rfl) (Nat.le_of_ble_eq_true rfl) (Nat.le_of_ble_eq_true rfl) (Nat.le_of_ble_eq_true rfl) dX2_schedule_66 ?_
      refine lv_i2l (v := Int32.toInt64 (if (1 : Int32) < (y4 (sW x)) then (y4 (sW x)) else 1)) hx hb dX2_schedule_69 rfl ?_
      obtain ⟨h7, hw⟩ := hw
      refine lv_ldiv hx hb dX2_schedule_70 h7 ?_
      refine lv_topl (fun v8 ev8 => ?_)
      have hw := hw v8 ev8
      refine lv_lstore (lv' := [(5, .long v8), (3, .long v6), (2, .int r3), (0, .ref a.1), (1, .int p1)]) hx hb dX2_schedule_71 hl (by decide) rfl (fun ls hl => ?_)
      refine lv_lload_n hx hb dX2_schedule_73 rfl (lv_at hl 1 rfl) ?_
      refine lv_lload hx hb dX2_schedule_74 (lv_at hl 0 rfl) ?_
      refine lv_lload_n hx hb dX2_schedule_76 rfl (lv_at hl 1 rfl) ?_
      refine lv_lsub hx hb dX2_schedule_77 ?_
      refine lv_iload_n hx hb dX2_schedule_78 rfl (lv_at hl 4 rfl) ?_
      refine lv_i2l (v := Int32.toInt64 p1) hx hb dX2_schedule_79 rfl ?_
      refine lv_lmul hx hb dX2_schedule_80 ?_
      refine lv_ldc2 (v := 100) hx hb hown f7 dX2_schedule_81 ?_
      refine lv_ldiv hx hb dX2_schedule_84 (by decide) ?_
      refine lv_ladd hx hb dX2_schedule_85 ?_
      refine lv_l2i (v := Int64.toInt32 (v6 + (((v8 - v6) * (Int32.toInt64 p1)) / 100))) hx hb dX2_schedule_86 rfl ?_
      exact m_iret (u := x) hx hb hr hlocks hS hP hD dX2_schedule_87 hw
    · have hw := hw.2 c4
      refine lv_aload_n hx hb dX2_schedule_31 rfl (lv_at hl 1 rfl) ?_
      refine lv_bipush (v := (-4)) hx hb dX2_schedule_32 (by decide) ?_
      refine mw_i (mv_V (As := [.int (-4)]) (rest := []) ⟨hx, hb, hml, hown, hts⟩ (kX2_refuse l D I O a H.size x (-4) _ hw) (cwV 1 hts gX2_schedule_X2_refuse rfl rfl rfl hdVX2_refuse ⟨(Nat.le_of_ble_eq_true rfl), (Nat.le_of_ble_eq_true rfl)⟩) hK hP hD 0 2 rfl rfl rfl rfl hl.1 rfl (Nat.le_of_ble_eq_true rfl) dX2_schedule_34 ⟨(Nat.le_of_ble_eq_true rfl), (Nat.le_of_ble_eq_true rfl)⟩) hP hD hS hA (fun r9 u10 H locs hw hP hD hS => ?_)
      have hP : va_P D vwCl (sysW I O a u10) H := hP
      have hD : va_D (va_A (sysW I O a x) sz) (sysW I O a u10) := hD
      exact m_iret (u := u10) hx hb hr hlocks hS hP hD dX2_schedule_37 hw
  · have hw := hw.2 c2
    refine lv_aload_n hx hb dX2_schedule_10 rfl (lv_at hl 0 rfl) ?_
    refine lv_bipush (v := (-2)) hx hb dX2_schedule_11 (by decide) ?_
    refine mw_i (mv_V (As := [.int (-2)]) (rest := []) ⟨hx, hb, hml, hown, hts⟩ (kX2_refuse l D I O a H.size x (-2) _ hw) (cwV 1 hts gX2_schedule_X2_refuse rfl rfl rfl hdVX2_refuse ⟨(Nat.le_of_ble_eq_true rfl), (Nat.le_of_ble_eq_true rfl)⟩) hK hP hD 0 2 rfl rfl rfl rfl hl.1 rfl (Nat.le_of_ble_eq_true rfl) dX2_schedule_13 ⟨(Nat.le_of_ble_eq_true rfl), (Nat.le_of_ble_eq_true rfl)⟩) hP hD hS hA (fun r11 u12 H locs hw hP hD hS => ?_)
    have hP : va_P D vwCl (sysW I O a u12) H := hP
    have hD : va_D (va_A (sysW I O a x) sz) (sysW I O a u12) := hD
    exact m_iret (u := u12) hx hb hr hlocks hS hP hD dX2_schedule_16 hw
def qX2_strokesToBit (x : Sys) (p1 : Int32) (Q : Int32 → Sys → Prop) : Prop := (qX2_within p1 1 100 (fun r1 => ((¬ r1 = 0 → (qX1_pipeVolume (sW x) (fun r3 => (qX2_portionsFor r3 p1 (fun r4 => Q r4 x))))) ∧ (r1 = 0 → (qX2_refuse x (-2) (fun r5 u6 => Q r5 u6))))))
set_option maxHeartbeats 4000000 in
set_option maxRecDepth 100000 in
theorem kX2_strokesToBit (l : Launch) (D : va_G) (I O : ClassId) (a : SA) (sz : Nat) (x : Sys) (p1 : Int32) (Q : Int32 → Sys → Prop) (hw : qX2_strokesToBit x p1 Q) : Met l yX2_strokesToBit wsX2_strokesToBit rX2_strokesToBit (mPc D I O [.ref a.1, .int p1] (sysW I O a x) sz) (va_Qi (fun r (u : Sys) => Q r u) (mB D (va_A (sysW I O a x) sz) (fun u => sysW I O a u)) (va_A (sysW I O a x) sz)) 0 0 (va_A (sysW I O a x) sz) := by
  refine m_start (by decide) rfl (Nat.le_of_ble_eq_true rfl) (fun p e s m below meth c ls H locs hx hb hr hml hts hown hlocks hnm hK hP hD hA hS hl => ?_)
  have hown : s.vm.findClass RX2 = some m.cls := hown
  have hl : lv_has ls 2 [(0, .ref a.1), (1, .int p1)] := hl
  have hiX2 : ∀ w ∈ wsX20, w ∈ wsX2_strokesToBit := by decide +kernel
  have f0 := hts (.fieldLink RX2 10 "WellControl" "well" "LWellControl$Well;") (by decide +kernel)
  unfold qX2_strokesToBit at hw
  refine lv_iload_n hx hb dX2_strokesToBit_0 rfl (lv_at hl 1 rfl) ?_
  refine lv_iconst (v := 1) hx hb dX2_strokesToBit_1 (by decide) ?_
  refine lv_bipush (v := 100) hx hb dX2_strokesToBit_2 (by decide) ?_
  refine m0_i (mv_S (As := [.int p1, .int 1, .int 100]) (rest := []) ⟨hx, hb, hml, hown, hts⟩ (kX2_within l D I O H.size p1 1 100 _ hw) (va_cwS 3 hts gX2_strokesToBit_X2_within rfl rfl rfl hdSX2_within ⟨(Nat.le_of_ble_eq_true rfl), (Nat.le_of_ble_eq_true rfl)⟩) hK (nil_P (D := D) (H := H)) (nil_D (A := va_A (sysW I O a x) sz)) rfl hl.1 rfl (Nat.le_of_ble_eq_true rfl) dX2_strokesToBit_4 ⟨(Nat.le_of_ble_eq_true rfl), (Nat.le_of_ble_eq_true rfl)⟩) hP hD hS hA (fun r1 _ H locs hw hP hD hS => ?_)
  refine lv_if_ne (tgt := 17) hx hb dX2_strokesToBit_7 (by decide) (fun c2 => ?_) (fun c2 => ?_)
  · have hw := hw.1 c2
    refine lv_aload_n hx hb dX2_strokesToBit_17 rfl (lv_at hl 0 rfl) ?_
    refine va_get (ci := 2) (v := .ref a.2.2.2.1.1) (C := RX2) (T := TX2) (N := 5) hx hb hts hiX2 hown hK.1 hP 0 rfl rfl 0 (by decide) f0 (fun _ h9 => h9) rfl dX2_strokesToBit_18 ?_
    have hPc := va_P.mid (X := sysH I O a x) (wc := welB I a.2.2.2.1 (sW x)) (Y := welB I a.2.2.2.2.1 (sT x) ++ (welB I a.2.2.2.2.2.1 (s0 x) ++ (welB I a.2.2.2.2.2.2.1 (s1 x) ++ (welB I a.2.2.2.2.2.2.2.1 (s2 x) ++ welB I a.2.2.2.2.2.2.2.2 (s3 x))))) hP
    have hDc := va_D.mid (X := sysH I O a x) (wc := welB I a.2.2.2.1 (sW x)) (Y := welB I a.2.2.2.2.1 (sT x) ++ (welB I a.2.2.2.2.2.1 (s0 x) ++ (welB I a.2.2.2.2.2.2.1 (s1 x) ++ (welB I a.2.2.2.2.2.2.2.1 (s2 x) ++ welB I a.2.2.2.2.2.2.2.2 (s3 x))))) hD
    refine mc_i (sysH I O a x) (welB I a.2.2.2.2.1 (sT x) ++ (welB I a.2.2.2.2.2.1 (s0 x) ++ (welB I a.2.2.2.2.2.2.1 (s1 x) ++ (welB I a.2.2.2.2.2.2.2.1 (s2 x) ++ welB I a.2.2.2.2.2.2.2.2 (s3 x))))) (mv_V (As := []) (rest := []) ⟨hx, hb, hml, hown, hts⟩ (kX1_pipeVolume l D I O a.2.2.2.1 H.size (sW x) _ hw) (cwV 0 hts gX2_strokesToBit_X1_pipeVolume rfl rfl rfl hdVX1_pipeVolume ⟨(Nat.le_of_ble_eq_true rfl), (Nat.le_of_ble_eq_true rfl)⟩) hK hPc hDc 0 1 rfl rfl rfl rfl hl.1 rfl (Nat.le_of_ble_eq_true rfl) dX2_strokesToBit_21 ⟨(Nat.le_of_ble_eq_true rfl), (Nat.le_of_ble_eq_true rfl)⟩) hP hD hS hA (fun r3 _ H locs hw hP hD hS => ?_)
    have hP : va_P D vwCl (sysW I O a x) H := hP
    have hD : va_D (va_A (sysW I O a x) sz) (sysW I O a x) := hD
    refine lv_iload_n hx hb dX2_strokesToBit_24 rfl (lv_at hl 1 rfl) ?_
    refine m0_i (mv_S (As := [.int r3, .int p1]) (rest := []) ⟨hx, hb, hml, hown, hts⟩ (kX2_portionsFor l D I O H.size r3 p1 _ hw) (va_cwS 2 hts gX2_strokesToBit_X2_portionsFor rfl rfl rfl hdSX2_portionsFor ⟨(Nat.le_of_ble_eq_true rfl), (Nat.le_of_ble_eq_true rfl)⟩) hK (nil_P (D := D) (H := H)) (nil_D (A := va_A (sysW I O a x) sz)) rfl hl.1 rfl (Nat.le_of_ble_eq_true rfl) dX2_strokesToBit_25 ⟨(Nat.le_of_ble_eq_true rfl), (Nat.le_of_ble_eq_true rfl)⟩) hP hD hS hA (fun r4 _ H locs hw hP hD hS => ?_)
    exact m_iret (u := x) hx hb hr hlocks hS hP hD dX2_strokesToBit_28 hw
  · have hw := hw.2 c2
    refine lv_aload_n hx hb dX2_strokesToBit_10 rfl (lv_at hl 0 rfl) ?_
    refine lv_bipush (v := (-2)) hx hb dX2_strokesToBit_11 (by decide) ?_
    refine mw_i (mv_V (As := [.int (-2)]) (rest := []) ⟨hx, hb, hml, hown, hts⟩ (kX2_refuse l D I O a H.size x (-2) _ hw) (cwV 1 hts gX2_strokesToBit_X2_refuse rfl rfl rfl hdVX2_refuse ⟨(Nat.le_of_ble_eq_true rfl), (Nat.le_of_ble_eq_true rfl)⟩) hK hP hD 0 2 rfl rfl rfl rfl hl.1 rfl (Nat.le_of_ble_eq_true rfl) dX2_strokesToBit_13 ⟨(Nat.le_of_ble_eq_true rfl), (Nat.le_of_ble_eq_true rfl)⟩) hP hD hS hA (fun r5 u6 H locs hw hP hD hS => ?_)
    have hP : va_P D vwCl (sysW I O a u6) H := hP
    have hD : va_D (va_A (sysW I O a x) sz) (sysW I O a u6) := hD
    exact m_iret (u := u6) hx hb hr hlocks hS hP hD dX2_strokesToBit_16 hw
def qX2_layers (x : Sys) (p1 : Int32) (Q : Int32 → Sys → Prop) : Prop := (qX2_within p1 0 1 (fun r1 => ((¬ r1 = 0 → ((p1 = 0 → Q (zN (yP (sW x))) x) ∧ (¬ p1 = 0 → Q (zN (yA (sW x))) x))) ∧ (r1 = 0 → (qX2_refuse x (-2) (fun r4 u5 => Q r4 u5))))))
set_option maxHeartbeats 4000000 in
set_option maxRecDepth 100000 in
theorem kX2_layers (l : Launch) (D : va_G) (I O : ClassId) (a : SA) (sz : Nat) (x : Sys) (p1 : Int32) (Q : Int32 → Sys → Prop) (hw : qX2_layers x p1 Q) : Met l yX2_layers wsX2_layers rX2_layers (mPc D I O [.ref a.1, .int p1] (sysW I O a x) sz) (va_Qi (fun r (u : Sys) => Q r u) (mB D (va_A (sysW I O a x) sz) (fun u => sysW I O a u)) (va_A (sysW I O a x) sz)) 0 0 (va_A (sysW I O a x) sz) := by
  refine m_start (by decide) rfl (Nat.le_of_ble_eq_true rfl) (fun p e s m below meth c ls H locs hx hb hr hml hts hown hlocks hnm hK hP hD hA hS hl => ?_)
  have hown : s.vm.findClass RX2 = some m.cls := hown
  have hl : lv_has ls 2 [(0, .ref a.1), (1, .int p1)] := hl
  have hiX0 : ∀ w ∈ wsX00, w ∈ wsX2_layers := by decide +kernel
  have hiX2 : ∀ w ∈ wsX20, w ∈ wsX2_layers := by decide +kernel
  have f0 := hts (.fieldLink RX2 10 "WellControl" "well" "LWellControl$Well;") (by decide +kernel)
  have f1 := hts (.fieldLink RX2 138 "WellControl$Column" "count" "I") (by decide +kernel)
  unfold qX2_layers at hw
  refine lv_iload_n hx hb dX2_layers_0 rfl (lv_at hl 1 rfl) ?_
  refine lv_iconst (v := 0) hx hb dX2_layers_1 (by decide) ?_
  refine lv_iconst (v := 1) hx hb dX2_layers_2 (by decide) ?_
  refine m0_i (mv_S (As := [.int p1, .int 0, .int 1]) (rest := []) ⟨hx, hb, hml, hown, hts⟩ (kX2_within l D I O H.size p1 0 1 _ hw) (va_cwS 3 hts gX2_layers_X2_within rfl rfl rfl hdSX2_within ⟨(Nat.le_of_ble_eq_true rfl), (Nat.le_of_ble_eq_true rfl)⟩) hK (nil_P (D := D) (H := H)) (nil_D (A := va_A (sysW I O a x) sz)) rfl hl.1 rfl (Nat.le_of_ble_eq_true rfl) dX2_layers_3 ⟨(Nat.le_of_ble_eq_true rfl), (Nat.le_of_ble_eq_true rfl)⟩) hP hD hS hA (fun r1 _ H locs hw hP hD hS => ?_)
  refine lv_if_ne (tgt := 16) hx hb dX2_layers_6 (by decide) (fun c2 => ?_) (fun c2 => ?_)
  · have hw := hw.1 c2
    refine lv_aload_n hx hb dX2_layers_16 rfl (lv_at hl 0 rfl) ?_
    refine va_get (ci := 2) (v := .ref a.2.2.2.1.1) (C := RX2) (T := TX2) (N := 5) hx hb hts hiX2 hown hK.1 hP 0 rfl rfl 0 (by decide) f0 (fun _ h9 => h9) rfl dX2_layers_17 ?_
    refine lv_iload_n hx hb dX2_layers_20 rfl (lv_at hl 1 rfl) ?_
    by_cases c3 : p1 = 0
    · have hw := hw.1 c3
      have hPc := va_P.mid (X := sysH I O a x) (wc := welB I a.2.2.2.1 (sW x)) (Y := welB I a.2.2.2.2.1 (sT x) ++ (welB I a.2.2.2.2.2.1 (s0 x) ++ (welB I a.2.2.2.2.2.2.1 (s1 x) ++ (welB I a.2.2.2.2.2.2.2.1 (s2 x) ++ welB I a.2.2.2.2.2.2.2.2 (s3 x))))) hP
      have hDc := va_D.mid (X := sysH I O a x) (wc := welB I a.2.2.2.1 (sW x)) (Y := welB I a.2.2.2.2.1 (sT x) ++ (welB I a.2.2.2.2.2.1 (s0 x) ++ (welB I a.2.2.2.2.2.2.1 (s1 x) ++ (welB I a.2.2.2.2.2.2.2.1 (s2 x) ++ welB I a.2.2.2.2.2.2.2.2 (s3 x))))) hD
      refine mc_r (sysH I O a x) (welB I a.2.2.2.2.1 (sT x) ++ (welB I a.2.2.2.2.2.1 (s0 x) ++ (welB I a.2.2.2.2.2.2.1 (s1 x) ++ (welB I a.2.2.2.2.2.2.2.1 (s2 x) ++ welB I a.2.2.2.2.2.2.2.2 (s3 x))))) (mv_V (As := [.int p1]) (rest := []) ⟨hx, hb, hml, hown, hts⟩ (kX1_column_p l D I O a.2.2.2.1 H.size (sW x) p1 _ c3 hw) (cwV 1 hts gX2_layers_X1_column rfl rfl rfl hdVX1_column ⟨(Nat.le_of_ble_eq_true rfl), (Nat.le_of_ble_eq_true rfl)⟩) hK hPc hDc 0 1 rfl rfl rfl rfl hl.1 rfl (Nat.le_of_ble_eq_true rfl) dX2_layers_21 ⟨(Nat.le_of_ble_eq_true rfl), (Nat.le_of_ble_eq_true rfl)⟩) hP hD hS hA (fun _ H locs hw hP hD hS => ?_)
      have hP : va_P D vwCl (sysW I O a x) H := hP
      have hD : va_D (va_A (sysW I O a x) sz) (sysW I O a x) := hD
      refine va_get (ci := 0) (v := .int (zN (yP (sW x)))) (C := RX0) (T := TX0) (N := 6) hx hb hts hiX0 hown hK.1 hP 4 rfl rfl 4 (by decide) f1 (fun _ h9 => h9) rfl dX2_layers_24 ?_
      exact m_iret (u := x) hx hb hr hlocks hS hP hD dX2_layers_27 hw
    · have hw := hw.2 c3
      have hPc := va_P.mid (X := sysH I O a x) (wc := welB I a.2.2.2.1 (sW x)) (Y := welB I a.2.2.2.2.1 (sT x) ++ (welB I a.2.2.2.2.2.1 (s0 x) ++ (welB I a.2.2.2.2.2.2.1 (s1 x) ++ (welB I a.2.2.2.2.2.2.2.1 (s2 x) ++ welB I a.2.2.2.2.2.2.2.2 (s3 x))))) hP
      have hDc := va_D.mid (X := sysH I O a x) (wc := welB I a.2.2.2.1 (sW x)) (Y := welB I a.2.2.2.2.1 (sT x) ++ (welB I a.2.2.2.2.2.1 (s0 x) ++ (welB I a.2.2.2.2.2.2.1 (s1 x) ++ (welB I a.2.2.2.2.2.2.2.1 (s2 x) ++ welB I a.2.2.2.2.2.2.2.2 (s3 x))))) hD
      refine mc_r (sysH I O a x) (welB I a.2.2.2.2.1 (sT x) ++ (welB I a.2.2.2.2.2.1 (s0 x) ++ (welB I a.2.2.2.2.2.2.1 (s1 x) ++ (welB I a.2.2.2.2.2.2.2.1 (s2 x) ++ welB I a.2.2.2.2.2.2.2.2 (s3 x))))) (mv_V (As := [.int p1]) (rest := []) ⟨hx, hb, hml, hown, hts⟩ (kX1_column_n l D I O a.2.2.2.1 H.size (sW x) p1 _ c3 hw) (cwV 1 hts gX2_layers_X1_column rfl rfl rfl hdVX1_column ⟨(Nat.le_of_ble_eq_true rfl), (Nat.le_of_ble_eq_true rfl)⟩) hK hPc hDc 0 1 rfl rfl rfl rfl hl.1 rfl (Nat.le_of_ble_eq_true rfl) dX2_layers_21 ⟨(Nat.le_of_ble_eq_true rfl), (Nat.le_of_ble_eq_true rfl)⟩) hP hD hS hA (fun _ H locs hw hP hD hS => ?_)
      have hP : va_P D vwCl (sysW I O a x) H := hP
      have hD : va_D (va_A (sysW I O a x) sz) (sysW I O a x) := hD
      refine va_get (ci := 0) (v := .int (zN (yA (sW x)))) (C := RX0) (T := TX0) (N := 6) hx hb hts hiX0 hown hK.1 hP 7 rfl rfl 4 (by decide) f1 (fun _ h9 => h9) rfl dX2_layers_24 ?_
      exact m_iret (u := x) hx hb hr hlocks hS hP hD dX2_layers_27 hw
  · have hw := hw.2 c2
    refine lv_aload_n hx hb dX2_layers_9 rfl (lv_at hl 0 rfl) ?_
    refine lv_bipush (v := (-2)) hx hb dX2_layers_10 (by decide) ?_
    refine mw_i (mv_V (As := [.int (-2)]) (rest := []) ⟨hx, hb, hml, hown, hts⟩ (kX2_refuse l D I O a H.size x (-2) _ hw) (cwV 1 hts gX2_layers_X2_refuse rfl rfl rfl hdVX2_refuse ⟨(Nat.le_of_ble_eq_true rfl), (Nat.le_of_ble_eq_true rfl)⟩) hK hP hD 0 2 rfl rfl rfl rfl hl.1 rfl (Nat.le_of_ble_eq_true rfl) dX2_layers_12 ⟨(Nat.le_of_ble_eq_true rfl), (Nat.le_of_ble_eq_true rfl)⟩) hP hD hS hA (fun r4 u5 H locs hw hP hD hS => ?_)
    have hP : va_P D vwCl (sysW I O a u5) H := hP
    have hD : va_D (va_A (sysW I O a x) sz) (sysW I O a u5) := hD
    exact m_iret (u := u5) hx hb hr hlocks hS hP hD dX2_layers_15 hw
def qX2_layerVolume (x : Sys) (p1 : Int32) (p2 : Int32) (Q : Int32 → Sys → Prop) : Prop := (qX2_layerError x p1 p2 (fun r1 => ((r1 = 0 → ((p1 = 0 → (qX0_volumeOf (yP (sW x)) p2 (fun r4 => Q r4 x))) ∧ (¬ p1 = 0 → (qX0_volumeOf (yA (sW x)) p2 (fun r5 => Q r5 x))))) ∧ (¬ r1 = 0 → (qX2_refuse x r1 (fun r6 u7 => Q r6 u7))))))
set_option maxHeartbeats 4000000 in
set_option maxRecDepth 100000 in
theorem kX2_layerVolume (l : Launch) (D : va_G) (I O : ClassId) (a : SA) (sz : Nat) (x : Sys) (p1 : Int32) (p2 : Int32) (Q : Int32 → Sys → Prop) (hw : qX2_layerVolume x p1 p2 Q) : Met l yX2_layerVolume wsX2_layerVolume rX2_layerVolume (mPc D I O [.ref a.1, .int p1, .int p2] (sysW I O a x) sz) (va_Qi (fun r (u : Sys) => Q r u) (mB D (va_A (sysW I O a x) sz) (fun u => sysW I O a u)) (va_A (sysW I O a x) sz)) 0 0 (va_A (sysW I O a x) sz) := by
  refine m_start (by decide) rfl (Nat.le_of_ble_eq_true rfl) (fun p e s m below meth c ls H locs hx hb hr hml hts hown hlocks hnm hK hP hD hA hS hl => ?_)
  have hown : s.vm.findClass RX2 = some m.cls := hown
  have hl : lv_has ls 4 [(0, .ref a.1), (1, .int p1), (2, .int p2)] := hl
  have hiX2 : ∀ w ∈ wsX20, w ∈ wsX2_layerVolume := by decide +kernel
  have f0 := hts (.fieldLink RX2 10 "WellControl" "well" "LWellControl$Well;") (by decide +kernel)
  unfold qX2_layerVolume at hw
  refine lv_aload_n hx hb dX2_layerVolume_0 rfl (lv_at hl 0 rfl) ?_
  refine lv_iload_n hx hb dX2_layerVolume_1 rfl (lv_at hl 1 rfl) ?_
  refine lv_iload_n hx hb dX2_layerVolume_2 rfl (lv_at hl 2 rfl) ?_
  refine mw_i (mv_V (As := [.int p1, .int p2]) (rest := []) ⟨hx, hb, hml, hown, hts⟩ (kX2_layerError l D I O a H.size x p1 p2 _ hw) (cwV 2 hts gX2_layerVolume_X2_layerError rfl rfl rfl hdVX2_layerError ⟨(Nat.le_of_ble_eq_true rfl), (Nat.le_of_ble_eq_true rfl)⟩) hK hP hD 0 2 rfl rfl rfl rfl hl.1 rfl (Nat.le_of_ble_eq_true rfl) dX2_layerVolume_3 ⟨(Nat.le_of_ble_eq_true rfl), (Nat.le_of_ble_eq_true rfl)⟩) hP hD hS hA (fun r1 _ H locs hw hP hD hS => ?_)
  have hP : va_P D vwCl (sysW I O a x) H := hP
  have hD : va_D (va_A (sysW I O a x) sz) (sysW I O a x) := hD
  refine lv_istore_n (lv' := [(3, .int r1), (0, .ref a.1), (1, .int p1), (2, .int p2)]) hx hb dX2_layerVolume_6 rfl hl (by decide) rfl (fun ls hl => ?_)
  refine lv_iload_n hx hb dX2_layerVolume_7 rfl (lv_at hl 0 rfl) ?_
  refine lv_if_eq (tgt := 17) hx hb dX2_layerVolume_8 (by decide) (fun c2 => ?_) (fun c2 => ?_)
  · have hw := hw.1 c2
    refine lv_aload_n hx hb dX2_layerVolume_17 rfl (lv_at hl 1 rfl) ?_
    refine va_get (ci := 2) (v := .ref a.2.2.2.1.1) (C := RX2) (T := TX2) (N := 5) hx hb hts hiX2 hown hK.1 hP 0 rfl rfl 0 (by decide) f0 (fun _ h9 => h9) rfl dX2_layerVolume_18 ?_
    refine lv_iload_n hx hb dX2_layerVolume_21 rfl (lv_at hl 2 rfl) ?_
    by_cases c3 : p1 = 0
    · have hw := hw.1 c3
      have hPc := va_P.mid (X := sysH I O a x) (wc := welB I a.2.2.2.1 (sW x)) (Y := welB I a.2.2.2.2.1 (sT x) ++ (welB I a.2.2.2.2.2.1 (s0 x) ++ (welB I a.2.2.2.2.2.2.1 (s1 x) ++ (welB I a.2.2.2.2.2.2.2.1 (s2 x) ++ welB I a.2.2.2.2.2.2.2.2 (s3 x))))) hP
      have hDc := va_D.mid (X := sysH I O a x) (wc := welB I a.2.2.2.1 (sW x)) (Y := welB I a.2.2.2.2.1 (sT x) ++ (welB I a.2.2.2.2.2.1 (s0 x) ++ (welB I a.2.2.2.2.2.2.1 (s1 x) ++ (welB I a.2.2.2.2.2.2.2.1 (s2 x) ++ welB I a.2.2.2.2.2.2.2.2 (s3 x))))) hD
      refine mc_r (sysH I O a x) (welB I a.2.2.2.2.1 (sT x) ++ (welB I a.2.2.2.2.2.1 (s0 x) ++ (welB I a.2.2.2.2.2.2.1 (s1 x) ++ (welB I a.2.2.2.2.2.2.2.1 (s2 x) ++ welB I a.2.2.2.2.2.2.2.2 (s3 x))))) (mv_V (As := [.int p1]) (rest := []) ⟨hx, hb, hml, hown, hts⟩ (kX1_column_p l D I O a.2.2.2.1 H.size (sW x) p1 _ c3 hw) (cwV 1 hts gX2_layerVolume_X1_column rfl rfl rfl hdVX1_column ⟨(Nat.le_of_ble_eq_true rfl), (Nat.le_of_ble_eq_true rfl)⟩) hK hPc hDc 0 1 rfl rfl rfl rfl hl.1 rfl (Nat.le_of_ble_eq_true rfl) dX2_layerVolume_22 ⟨(Nat.le_of_ble_eq_true rfl), (Nat.le_of_ble_eq_true rfl)⟩) hP hD hS hA (fun _ H locs hw hP hD hS => ?_)
      have hP : va_P D vwCl (sysW I O a x) H := hP
      have hD : va_D (va_A (sysW I O a x) sz) (sysW I O a x) := hD
      refine lv_iload_n hx hb dX2_layerVolume_25 rfl (lv_at hl 3 rfl) ?_
      have hPc := va_P.mid (X := sysH I O a x ++ [welO a.2.2.2.1 (sW x)]) (wc := colB I a.2.2.2.1.2.1 (yP (sW x))) (Y := colB I a.2.2.2.1.2.2 (yA (sW x)) ++ (welB I a.2.2.2.2.1 (sT x) ++ (welB I a.2.2.2.2.2.1 (s0 x) ++ (welB I a.2.2.2.2.2.2.1 (s1 x) ++ (welB I a.2.2.2.2.2.2.2.1 (s2 x) ++ welB I a.2.2.2.2.2.2.2.2 (s3 x)))))) hP
      have hDc := va_D.mid (X := sysH I O a x ++ [welO a.2.2.2.1 (sW x)]) (wc := colB I a.2.2.2.1.2.1 (yP (sW x))) (Y := colB I a.2.2.2.1.2.2 (yA (sW x)) ++ (welB I a.2.2.2.2.1 (sT x) ++ (welB I a.2.2.2.2.2.1 (s0 x) ++ (welB I a.2.2.2.2.2.2.1 (s1 x) ++ (welB I a.2.2.2.2.2.2.2.1 (s2 x) ++ welB I a.2.2.2.2.2.2.2.2 (s3 x)))))) hD
      refine mc_i (sysH I O a x ++ [welO a.2.2.2.1 (sW x)]) (colB I a.2.2.2.1.2.2 (yA (sW x)) ++ (welB I a.2.2.2.2.1 (sT x) ++ (welB I a.2.2.2.2.2.1 (s0 x) ++ (welB I a.2.2.2.2.2.2.1 (s1 x) ++ (welB I a.2.2.2.2.2.2.2.1 (s2 x) ++ welB I a.2.2.2.2.2.2.2.2 (s3 x)))))) (mv_V (As := [.int p2]) (rest := []) ⟨hx, hb, hml, hown, hts⟩ (kX0_volumeOf l D I O a.2.2.2.1.2.1 H.size (yP (sW x)) p2 _ hw) (cwV 1 hts gX2_layerVolume_X0_volumeOf rfl rfl rfl hdVX0_volumeOf ⟨(Nat.le_of_ble_eq_true rfl), (Nat.le_of_ble_eq_true rfl)⟩) hK hPc hDc 0 0 rfl rfl rfl rfl hl.1 rfl (Nat.le_of_ble_eq_true rfl) dX2_layerVolume_26 ⟨(Nat.le_of_ble_eq_true rfl), (Nat.le_of_ble_eq_true rfl)⟩) hP hD hS hA (fun r4 _ H locs hw hP hD hS => ?_)
      have hP : va_P D vwCl (sysW I O a x) H := hP
      have hD : va_D (va_A (sysW I O a x) sz) (sysW I O a x) := hD
      exact m_iret (u := x) hx hb hr hlocks hS hP hD dX2_layerVolume_29 hw
    · have hw := hw.2 c3
      have hPc := va_P.mid (X := sysH I O a x) (wc := welB I a.2.2.2.1 (sW x)) (Y := welB I a.2.2.2.2.1 (sT x) ++ (welB I a.2.2.2.2.2.1 (s0 x) ++ (welB I a.2.2.2.2.2.2.1 (s1 x) ++ (welB I a.2.2.2.2.2.2.2.1 (s2 x) ++ welB I a.2.2.2.2.2.2.2.2 (s3 x))))) hP
      have hDc := va_D.mid (X := sysH I O a x) (wc := welB I a.2.2.2.1 (sW x)) (Y := welB I a.2.2.2.2.1 (sT x) ++ (welB I a.2.2.2.2.2.1 (s0 x) ++ (welB I a.2.2.2.2.2.2.1 (s1 x) ++ (welB I a.2.2.2.2.2.2.2.1 (s2 x) ++ welB I a.2.2.2.2.2.2.2.2 (s3 x))))) hD
      refine mc_r (sysH I O a x) (welB I a.2.2.2.2.1 (sT x) ++ (welB I a.2.2.2.2.2.1 (s0 x) ++ (welB I a.2.2.2.2.2.2.1 (s1 x) ++ (welB I a.2.2.2.2.2.2.2.1 (s2 x) ++ welB I a.2.2.2.2.2.2.2.2 (s3 x))))) (mv_V (As := [.int p1]) (rest := []) ⟨hx, hb, hml, hown, hts⟩ (kX1_column_n l D I O a.2.2.2.1 H.size (sW x) p1 _ c3 hw) (cwV 1 hts gX2_layerVolume_X1_column rfl rfl rfl hdVX1_column ⟨(Nat.le_of_ble_eq_true rfl), (Nat.le_of_ble_eq_true rfl)⟩) hK hPc hDc 0 1 rfl rfl rfl rfl hl.1 rfl (Nat.le_of_ble_eq_true rfl) dX2_layerVolume_22 ⟨(Nat.le_of_ble_eq_true rfl), (Nat.le_of_ble_eq_true rfl)⟩) hP hD hS hA (fun _ H locs hw hP hD hS => ?_)
      have hP : va_P D vwCl (sysW I O a x) H := hP
      have hD : va_D (va_A (sysW I O a x) sz) (sysW I O a x) := hD
      refine lv_iload_n hx hb dX2_layerVolume_25 rfl (lv_at hl 3 rfl) ?_
      have hPc := va_P.mid (X := sysH I O a x ++ (welO a.2.2.2.1 (sW x) :: colB I a.2.2.2.1.2.1 (yP (sW x)))) (wc := colB I a.2.2.2.1.2.2 (yA (sW x))) (Y := welB I a.2.2.2.2.1 (sT x) ++ (welB I a.2.2.2.2.2.1 (s0 x) ++ (welB I a.2.2.2.2.2.2.1 (s1 x) ++ (welB I a.2.2.2.2.2.2.2.1 (s2 x) ++ welB I a.2.2.2.2.2.2.2.2 (s3 x))))) hP
      have hDc := va_D.mid (X := sysH I O a x ++ (welO a.2.2.2.1 (sW x) :: colB I a.2.2.2.1.2.1 (yP (sW x)))) (wc := colB I a.2.2.2.1.2.2 (yA (sW x))) (Y := welB I a.2.2.2.2.1 (sT x) ++ (welB I a.2.2.2.2.2.1 (s0 x) ++ (welB I a.2.2.2.2.2.2.1 (s1 x) ++ (welB I a.2.2.2.2.2.2.2.1 (s2 x) ++ welB I a.2.2.2.2.2.2.2.2 (s3 x))))) hD
      refine mc_i (sysH I O a x ++ (welO a.2.2.2.1 (sW x) :: colB I a.2.2.2.1.2.1 (yP (sW x)))) (welB I a.2.2.2.2.1 (sT x) ++ (welB I a.2.2.2.2.2.1 (s0 x) ++ (welB I a.2.2.2.2.2.2.1 (s1 x) ++ (welB I a.2.2.2.2.2.2.2.1 (s2 x) ++ welB I a.2.2.2.2.2.2.2.2 (s3 x))))) (mv_V (As := [.int p2]) (rest := []) ⟨hx, hb, hml, hown, hts⟩ (kX0_volumeOf l D I O a.2.2.2.1.2.2 H.size (yA (sW x)) p2 _ hw) (cwV 1 hts gX2_layerVolume_X0_volumeOf rfl rfl rfl hdVX0_volumeOf ⟨(Nat.le_of_ble_eq_true rfl), (Nat.le_of_ble_eq_true rfl)⟩) hK hPc hDc 0 0 rfl rfl rfl rfl hl.1 rfl (Nat.le_of_ble_eq_true rfl) dX2_layerVolume_26 ⟨(Nat.le_of_ble_eq_true rfl), (Nat.le_of_ble_eq_true rfl)⟩) hP hD hS hA (fun r5 _ H locs hw hP hD hS => ?_)
      have hP : va_P D vwCl (sysW I O a x) H := hP
      have hD : va_D (va_A (sysW I O a x) sz) (sysW I O a x) := hD
      exact m_iret (u := x) hx hb hr hlocks hS hP hD dX2_layerVolume_29 hw
  · have hw := hw.2 c2
    refine lv_aload_n hx hb dX2_layerVolume_11 rfl (lv_at hl 1 rfl) ?_
    refine lv_iload_n hx hb dX2_layerVolume_12 rfl (lv_at hl 0 rfl) ?_
    refine mw_i (mv_V (As := [.int r1]) (rest := []) ⟨hx, hb, hml, hown, hts⟩ (kX2_refuse l D I O a H.size x r1 _ hw) (cwV 1 hts gX2_layerVolume_X2_refuse rfl rfl rfl hdVX2_refuse ⟨(Nat.le_of_ble_eq_true rfl), (Nat.le_of_ble_eq_true rfl)⟩) hK hP hD 0 2 rfl rfl rfl rfl hl.1 rfl (Nat.le_of_ble_eq_true rfl) dX2_layerVolume_13 ⟨(Nat.le_of_ble_eq_true rfl), (Nat.le_of_ble_eq_true rfl)⟩) hP hD hS hA (fun r6 u7 H locs hw hP hD hS => ?_)
    have hP : va_P D vwCl (sysW I O a u7) H := hP
    have hD : va_D (va_A (sysW I O a x) sz) (sysW I O a u7) := hD
    exact m_iret (u := u7) hx hb hr hlocks hS hP hD dX2_layerVolume_16 hw
def qX2_layerDensity (x : Sys) (p1 : Int32) (p2 : Int32) (Q : Int32 → Sys → Prop) : Prop := (qX2_layerError x p1 p2 (fun r1 => ((r1 = 0 → ((p1 = 0 → (qX0_densityOf (yP (sW x)) p2 (fun r4 => Q r4 x))) ∧ (¬ p1 = 0 → (qX0_densityOf (yA (sW x)) p2 (fun r5 => Q r5 x))))) ∧ (¬ r1 = 0 → (qX2_refuse x r1 (fun r6 u7 => Q r6 u7))))))
set_option maxHeartbeats 4000000 in
set_option maxRecDepth 100000 in
theorem kX2_layerDensity (l : Launch) (D : va_G) (I O : ClassId) (a : SA) (sz : Nat) (x : Sys) (p1 : Int32) (p2 : Int32) (Q : Int32 → Sys → Prop) (hw : qX2_layerDensity x p1 p2 Q) : Met l yX2_layerDensity wsX2_layerDensity rX2_layerDensity (mPc D I O [.ref a.1, .int p1, .int p2] (sysW I O a x) sz) (va_Qi (fun r (u : Sys) => Q r u) (mB D (va_A (sysW I O a x) sz) (fun u => sysW I O a u)) (va_A (sysW I O a x) sz)) 0 0 (va_A (sysW I O a x) sz) := by
  refine m_start (by decide) rfl (Nat.le_of_ble_eq_true rfl) (fun p e s m below meth c ls H locs hx hb hr hml hts hown hlocks hnm hK hP hD hA hS hl => ?_)
  have hown : s.vm.findClass RX2 = some m.cls := hown
  have hl : lv_has ls 4 [(0, .ref a.1), (1, .int p1), (2, .int p2)] := hl
  have hiX2 : ∀ w ∈ wsX20, w ∈ wsX2_layerDensity := by decide +kernel
  have f0 := hts (.fieldLink RX2 10 "WellControl" "well" "LWellControl$Well;") (by decide +kernel)
  unfold qX2_layerDensity at hw
  refine lv_aload_n hx hb dX2_layerDensity_0 rfl (lv_at hl 0 rfl) ?_
  refine lv_iload_n hx hb dX2_layerDensity_1 rfl (lv_at hl 1 rfl) ?_
  refine lv_iload_n hx hb dX2_layerDensity_2 rfl (lv_at hl 2 rfl) ?_
  refine mw_i (mv_V (As := [.int p1, .int p2]) (rest := []) ⟨hx, hb, hml, hown, hts⟩ (kX2_layerError l D I O a H.size x p1 p2 _ hw) (cwV 2 hts gX2_layerDensity_X2_layerError rfl rfl rfl hdVX2_layerError ⟨(Nat.le_of_ble_eq_true rfl), (Nat.le_of_ble_eq_true rfl)⟩) hK hP hD 0 2 rfl rfl rfl rfl hl.1 rfl (Nat.le_of_ble_eq_true rfl) dX2_layerDensity_3 ⟨(Nat.le_of_ble_eq_true rfl), (Nat.le_of_ble_eq_true rfl)⟩) hP hD hS hA (fun r1 _ H locs hw hP hD hS => ?_)
  have hP : va_P D vwCl (sysW I O a x) H := hP
  have hD : va_D (va_A (sysW I O a x) sz) (sysW I O a x) := hD
  refine lv_istore_n (lv' := [(3, .int r1), (0, .ref a.1), (1, .int p1), (2, .int p2)]) hx hb dX2_layerDensity_6 rfl hl (by decide) rfl (fun ls hl => ?_)
  refine lv_iload_n hx hb dX2_layerDensity_7 rfl (lv_at hl 0 rfl) ?_
  refine lv_if_eq (tgt := 17) hx hb dX2_layerDensity_8 (by decide) (fun c2 => ?_) (fun c2 => ?_)
  · have hw := hw.1 c2
    refine lv_aload_n hx hb dX2_layerDensity_17 rfl (lv_at hl 1 rfl) ?_
    refine va_get (ci := 2) (v := .ref a.2.2.2.1.1) (C := RX2) (T := TX2) (N := 5) hx hb hts hiX2 hown hK.1 hP 0 rfl rfl 0 (by decide) f0 (fun _ h9 => h9) rfl dX2_layerDensity_18 ?_
    refine lv_iload_n hx hb dX2_layerDensity_21 rfl (lv_at hl 2 rfl) ?_
    by_cases c3 : p1 = 0
    · have hw := hw.1 c3
      have hPc := va_P.mid (X := sysH I O a x) (wc := welB I a.2.2.2.1 (sW x)) (Y := welB I a.2.2.2.2.1 (sT x) ++ (welB I a.2.2.2.2.2.1 (s0 x) ++ (welB I a.2.2.2.2.2.2.1 (s1 x) ++ (welB I a.2.2.2.2.2.2.2.1 (s2 x) ++ welB I a.2.2.2.2.2.2.2.2 (s3 x))))) hP
      have hDc := va_D.mid (X := sysH I O a x) (wc := welB I a.2.2.2.1 (sW x)) (Y := welB I a.2.2.2.2.1 (sT x) ++ (welB I a.2.2.2.2.2.1 (s0 x) ++ (welB I a.2.2.2.2.2.2.1 (s1 x) ++ (welB I a.2.2.2.2.2.2.2.1 (s2 x) ++ welB I a.2.2.2.2.2.2.2.2 (s3 x))))) hD
      refine mc_r (sysH I O a x) (welB I a.2.2.2.2.1 (sT x) ++ (welB I a.2.2.2.2.2.1 (s0 x) ++ (welB I a.2.2.2.2.2.2.1 (s1 x) ++ (welB I a.2.2.2.2.2.2.2.1 (s2 x) ++ welB I a.2.2.2.2.2.2.2.2 (s3 x))))) (mv_V (As := [.int p1]) (rest := []) ⟨hx, hb, hml, hown, hts⟩ (kX1_column_p l D I O a.2.2.2.1 H.size (sW x) p1 _ c3 hw) (cwV 1 hts gX2_layerDensity_X1_column rfl rfl rfl hdVX1_column ⟨(Nat.le_of_ble_eq_true rfl), (Nat.le_of_ble_eq_true rfl)⟩) hK hPc hDc 0 1 rfl rfl rfl rfl hl.1 rfl (Nat.le_of_ble_eq_true rfl) dX2_layerDensity_22 ⟨(Nat.le_of_ble_eq_true rfl), (Nat.le_of_ble_eq_true rfl)⟩) hP hD hS hA (fun _ H locs hw hP hD hS => ?_)
      have hP : va_P D vwCl (sysW I O a x) H := hP
      have hD : va_D (va_A (sysW I O a x) sz) (sysW I O a x) := hD
      refine lv_iload_n hx hb dX2_layerDensity_25 rfl (lv_at hl 3 rfl) ?_
      have hPc := va_P.mid (X := sysH I O a x ++ [welO a.2.2.2.1 (sW x)]) (wc := colB I a.2.2.2.1.2.1 (yP (sW x))) (Y := colB I a.2.2.2.1.2.2 (yA (sW x)) ++ (welB I a.2.2.2.2.1 (sT x) ++ (welB I a.2.2.2.2.2.1 (s0 x) ++ (welB I a.2.2.2.2.2.2.1 (s1 x) ++ (welB I a.2.2.2.2.2.2.2.1 (s2 x) ++ welB I a.2.2.2.2.2.2.2.2 (s3 x)))))) hP
      have hDc := va_D.mid (X := sysH I O a x ++ [welO a.2.2.2.1 (sW x)]) (wc := colB I a.2.2.2.1.2.1 (yP (sW x))) (Y := colB I a.2.2.2.1.2.2 (yA (sW x)) ++ (welB I a.2.2.2.2.1 (sT x) ++ (welB I a.2.2.2.2.2.1 (s0 x) ++ (welB I a.2.2.2.2.2.2.1 (s1 x) ++ (welB I a.2.2.2.2.2.2.2.1 (s2 x) ++ welB I a.2.2.2.2.2.2.2.2 (s3 x)))))) hD
      refine mc_i (sysH I O a x ++ [welO a.2.2.2.1 (sW x)]) (colB I a.2.2.2.1.2.2 (yA (sW x)) ++ (welB I a.2.2.2.2.1 (sT x) ++ (welB I a.2.2.2.2.2.1 (s0 x) ++ (welB I a.2.2.2.2.2.2.1 (s1 x) ++ (welB I a.2.2.2.2.2.2.2.1 (s2 x) ++ welB I a.2.2.2.2.2.2.2.2 (s3 x)))))) (mv_V (As := [.int p2]) (rest := []) ⟨hx, hb, hml, hown, hts⟩ (kX0_densityOf l D I O a.2.2.2.1.2.1 H.size (yP (sW x)) p2 _ hw) (cwV 1 hts gX2_layerDensity_X0_densityOf rfl rfl rfl hdVX0_densityOf ⟨(Nat.le_of_ble_eq_true rfl), (Nat.le_of_ble_eq_true rfl)⟩) hK hPc hDc 0 0 rfl rfl rfl rfl hl.1 rfl (Nat.le_of_ble_eq_true rfl) dX2_layerDensity_26 ⟨(Nat.le_of_ble_eq_true rfl), (Nat.le_of_ble_eq_true rfl)⟩) hP hD hS hA (fun r4 _ H locs hw hP hD hS => ?_)
      have hP : va_P D vwCl (sysW I O a x) H := hP
      have hD : va_D (va_A (sysW I O a x) sz) (sysW I O a x) := hD
      exact m_iret (u := x) hx hb hr hlocks hS hP hD dX2_layerDensity_29 hw
    · have hw := hw.2 c3
      have hPc := va_P.mid (X := sysH I O a x) (wc := welB I a.2.2.2.1 (sW x)) (Y := welB I a.2.2.2.2.1 (sT x) ++ (welB I a.2.2.2.2.2.1 (s0 x) ++ (welB I a.2.2.2.2.2.2.1 (s1 x) ++ (welB I a.2.2.2.2.2.2.2.1 (s2 x) ++ welB I a.2.2.2.2.2.2.2.2 (s3 x))))) hP
      have hDc := va_D.mid (X := sysH I O a x) (wc := welB I a.2.2.2.1 (sW x)) (Y := welB I a.2.2.2.2.1 (sT x) ++ (welB I a.2.2.2.2.2.1 (s0 x) ++ (welB I a.2.2.2.2.2.2.1 (s1 x) ++ (welB I a.2.2.2.2.2.2.2.1 (s2 x) ++ welB I a.2.2.2.2.2.2.2.2 (s3 x))))) hD
      refine mc_r (sysH I O a x) (welB I a.2.2.2.2.1 (sT x) ++ (welB I a.2.2.2.2.2.1 (s0 x) ++ (welB I a.2.2.2.2.2.2.1 (s1 x) ++ (welB I a.2.2.2.2.2.2.2.1 (s2 x) ++ welB I a.2.2.2.2.2.2.2.2 (s3 x))))) (mv_V (As := [.int p1]) (rest := []) ⟨hx, hb, hml, hown, hts⟩ (kX1_column_n l D I O a.2.2.2.1 H.size (sW x) p1 _ c3 hw) (cwV 1 hts gX2_layerDensity_X1_column rfl rfl rfl hdVX1_column ⟨(Nat.le_of_ble_eq_true rfl), (Nat.le_of_ble_eq_true rfl)⟩) hK hPc hDc 0 1 rfl rfl rfl rfl hl.1 rfl (Nat.le_of_ble_eq_true rfl) dX2_layerDensity_22 ⟨(Nat.le_of_ble_eq_true rfl), (Nat.le_of_ble_eq_true rfl)⟩) hP hD hS hA (fun _ H locs hw hP hD hS => ?_)
      have hP : va_P D vwCl (sysW I O a x) H := hP
      have hD : va_D (va_A (sysW I O a x) sz) (sysW I O a x) := hD
      refine lv_iload_n hx hb dX2_layerDensity_25 rfl (lv_at hl 3 rfl) ?_
      have hPc := va_P.mid (X := sysH I O a x ++ (welO a.2.2.2.1 (sW x) :: colB I a.2.2.2.1.2.1 (yP (sW x)))) (wc := colB I a.2.2.2.1.2.2 (yA (sW x))) (Y := welB I a.2.2.2.2.1 (sT x) ++ (welB I a.2.2.2.2.2.1 (s0 x) ++ (welB I a.2.2.2.2.2.2.1 (s1 x) ++ (welB I a.2.2.2.2.2.2.2.1 (s2 x) ++ welB I a.2.2.2.2.2.2.2.2 (s3 x))))) hP
      have hDc := va_D.mid (X := sysH I O a x ++ (welO a.2.2.2.1 (sW x) :: colB I a.2.2.2.1.2.1 (yP (sW x)))) (wc := colB I a.2.2.2.1.2.2 (yA (sW x))) (Y := welB I a.2.2.2.2.1 (sT x) ++ (welB I a.2.2.2.2.2.1 (s0 x) ++ (welB I a.2.2.2.2.2.2.1 (s1 x) ++ (welB I a.2.2.2.2.2.2.2.1 (s2 x) ++ welB I a.2.2.2.2.2.2.2.2 (s3 x))))) hD
      refine mc_i (sysH I O a x ++ (welO a.2.2.2.1 (sW x) :: colB I a.2.2.2.1.2.1 (yP (sW x)))) (welB I a.2.2.2.2.1 (sT x) ++ (welB I a.2.2.2.2.2.1 (s0 x) ++ (welB I a.2.2.2.2.2.2.1 (s1 x) ++ (welB I a.2.2.2.2.2.2.2.1 (s2 x) ++ welB I a.2.2.2.2.2.2.2.2 (s3 x))))) (mv_V (As := [.int p2]) (rest := []) ⟨hx, hb, hml, hown, hts⟩ (kX0_densityOf l D I O a.2.2.2.1.2.2 H.size (yA (sW x)) p2 _ hw) (cwV 1 hts gX2_layerDensity_X0_densityOf rfl rfl rfl hdVX0_densityOf ⟨(Nat.le_of_ble_eq_true rfl), (Nat.le_of_ble_eq_true rfl)⟩) hK hPc hDc 0 0 rfl rfl rfl rfl hl.1 rfl (Nat.le_of_ble_eq_true rfl) dX2_layerDensity_26 ⟨(Nat.le_of_ble_eq_true rfl), (Nat.le_of_ble_eq_true rfl)⟩) hP hD hS hA (fun r5 _ H locs hw hP hD hS => ?_)
      have hP : va_P D vwCl (sysW I O a x) H := hP
      have hD : va_D (va_A (sysW I O a x) sz) (sysW I O a x) := hD
      exact m_iret (u := x) hx hb hr hlocks hS hP hD dX2_layerDensity_29 hw
  · have hw := hw.2 c2
    refine lv_aload_n hx hb dX2_layerDensity_11 rfl (lv_at hl 1 rfl) ?_
    refine lv_iload_n hx hb dX2_layerDensity_12 rfl (lv_at hl 0 rfl) ?_
    refine mw_i (mv_V (As := [.int r1]) (rest := []) ⟨hx, hb, hml, hown, hts⟩ (kX2_refuse l D I O a H.size x r1 _ hw) (cwV 1 hts gX2_layerDensity_X2_refuse rfl rfl rfl hdVX2_refuse ⟨(Nat.le_of_ble_eq_true rfl), (Nat.le_of_ble_eq_true rfl)⟩) hK hP hD 0 2 rfl rfl rfl rfl hl.1 rfl (Nat.le_of_ble_eq_true rfl) dX2_layerDensity_13 ⟨(Nat.le_of_ble_eq_true rfl), (Nat.le_of_ble_eq_true rfl)⟩) hP hD hS hA (fun r6 u7 H locs hw hP hD hS => ?_)
    have hP : va_P D vwCl (sysW I O a u7) H := hP
    have hD : va_D (va_A (sysW I O a x) sz) (sysW I O a u7) := hD
    exact m_iret (u := u7) hx hb hr hlocks hS hP hD dX2_layerDensity_16 hw
def qX2_gain (x : Sys) (Q : Int32 → Prop) : Prop := Q (y8 (sW x))
set_option maxHeartbeats 4000000 in
set_option maxRecDepth 100000 in
theorem kX2_gain (l : Launch) (D : va_G) (I O : ClassId) (a : SA) (sz : Nat) (x : Sys) (Q : Int32 → Prop) (hw : qX2_gain x Q) : Met l yX2_gain wsX2_gain rX2_gain (mPc D I O [.ref a.1] (sysW I O a x) sz) (va_Qi (fun r (_ : Unit) => Q r) (mB D (va_A (sysW I O a x) sz) (fun _ => sysW I O a x)) (va_A (sysW I O a x) sz)) 0 0 (va_A (sysW I O a x) sz) := by
  refine m_start (by decide) rfl (Nat.le_of_ble_eq_true rfl) (fun p e s m below meth c ls H locs hx hb hr hml hts hown hlocks hnm hK hP hD hA hS hl => ?_)
  have hown : s.vm.findClass RX2 = some m.cls := hown
  have hl : lv_has ls 1 [(0, .ref a.1)] := hl
  have hiX1 : ∀ w ∈ wsX10, w ∈ wsX2_gain := by decide +kernel
  have hiX2 : ∀ w ∈ wsX20, w ∈ wsX2_gain := by decide +kernel
  have f0 := hts (.fieldLink RX2 10 "WellControl" "well" "LWellControl$Well;") (by decide +kernel)
  have f1 := hts (.fieldLink RX2 152 "WellControl$Well" "gained" "I") (by decide +kernel)
  unfold qX2_gain at hw
  refine lv_aload_n hx hb dX2_gain_0 rfl (lv_at hl 0 rfl) ?_
  refine va_get (ci := 2) (v := .ref a.2.2.2.1.1) (C := RX2) (T := TX2) (N := 5) hx hb hts hiX2 hown hK.1 hP 0 rfl rfl 0 (by decide) f0 (fun _ h9 => h9) rfl dX2_gain_1 ?_
  refine va_get (ci := 1) (v := .int (y8 (sW x))) (C := RX1) (T := TX1) (N := 13) hx hb hts hiX1 hown hK.1 hP 3 rfl rfl 8 (by decide) f1 (fun _ h9 => h9) rfl dX2_gain_4 ?_
  exact m_iret (u := ()) hx hb hr hlocks hS hP hD dX2_gain_7 hw
def qX2_breaks (x : Sys) (Q : Int32 → Prop) : Prop := Q (y9 (sW x))
set_option maxHeartbeats 4000000 in
set_option maxRecDepth 100000 in
theorem kX2_breaks (l : Launch) (D : va_G) (I O : ClassId) (a : SA) (sz : Nat) (x : Sys) (Q : Int32 → Prop) (hw : qX2_breaks x Q) : Met l yX2_breaks wsX2_breaks rX2_breaks (mPc D I O [.ref a.1] (sysW I O a x) sz) (va_Qi (fun r (_ : Unit) => Q r) (mB D (va_A (sysW I O a x) sz) (fun _ => sysW I O a x)) (va_A (sysW I O a x) sz)) 0 0 (va_A (sysW I O a x) sz) := by
  refine m_start (by decide) rfl (Nat.le_of_ble_eq_true rfl) (fun p e s m below meth c ls H locs hx hb hr hml hts hown hlocks hnm hK hP hD hA hS hl => ?_)
  have hown : s.vm.findClass RX2 = some m.cls := hown
  have hl : lv_has ls 1 [(0, .ref a.1)] := hl
  have hiX1 : ∀ w ∈ wsX10, w ∈ wsX2_breaks := by decide +kernel
  have hiX2 : ∀ w ∈ wsX20, w ∈ wsX2_breaks := by decide +kernel
  have f0 := hts (.fieldLink RX2 10 "WellControl" "well" "LWellControl$Well;") (by decide +kernel)
  have f1 := hts (.fieldLink RX2 155 "WellControl$Well" "timesBroken" "I") (by decide +kernel)
  unfold qX2_breaks at hw
  refine lv_aload_n hx hb dX2_breaks_0 rfl (lv_at hl 0 rfl) ?_
  refine va_get (ci := 2) (v := .ref a.2.2.2.1.1) (C := RX2) (T := TX2) (N := 5) hx hb hts hiX2 hown hK.1 hP 0 rfl rfl 0 (by decide) f0 (fun _ h9 => h9) rfl dX2_breaks_1 ?_
  refine va_get (ci := 1) (v := .int (y9 (sW x))) (C := RX1) (T := TX1) (N := 13) hx hb hts hiX1 hown hK.1 hP 3 rfl rfl 9 (by decide) f1 (fun _ h9 => h9) rfl dX2_breaks_4 ?_
  exact m_iret (u := ()) hx hb hr hlocks hS hP hD dX2_breaks_7 hw
def qX2_greatestShoePressure (x : Sys) (Q : Int32 → Prop) : Prop := Q (y10 (sW x))
set_option maxHeartbeats 4000000 in
set_option maxRecDepth 100000 in
theorem kX2_greatestShoePressure (l : Launch) (D : va_G) (I O : ClassId) (a : SA) (sz : Nat) (x : Sys) (Q : Int32 → Prop) (hw : qX2_greatestShoePressure x Q) : Met l yX2_greatestShoePressure wsX2_greatestShoePressure rX2_greatestShoePressure (mPc D I O [.ref a.1] (sysW I O a x) sz) (va_Qi (fun r (_ : Unit) => Q r) (mB D (va_A (sysW I O a x) sz) (fun _ => sysW I O a x)) (va_A (sysW I O a x) sz)) 0 0 (va_A (sysW I O a x) sz) := by
  refine m_start (by decide) rfl (Nat.le_of_ble_eq_true rfl) (fun p e s m below meth c ls H locs hx hb hr hml hts hown hlocks hnm hK hP hD hA hS hl => ?_)
  have hown : s.vm.findClass RX2 = some m.cls := hown
  have hl : lv_has ls 1 [(0, .ref a.1)] := hl
  have hiX1 : ∀ w ∈ wsX10, w ∈ wsX2_greatestShoePressure := by decide +kernel
  have hiX2 : ∀ w ∈ wsX20, w ∈ wsX2_greatestShoePressure := by decide +kernel
  have f0 := hts (.fieldLink RX2 10 "WellControl" "well" "LWellControl$Well;") (by decide +kernel)
  have f1 := hts (.fieldLink RX2 117 "WellControl$Well" "greatestAtShoe" "I") (by decide +kernel)
  unfold qX2_greatestShoePressure at hw
  refine lv_aload_n hx hb dX2_greatestShoePressure_0 rfl (lv_at hl 0 rfl) ?_
  refine va_get (ci := 2) (v := .ref a.2.2.2.1.1) (C := RX2) (T := TX2) (N := 5) hx hb hts hiX2 hown hK.1 hP 0 rfl rfl 0 (by decide) f0 (fun _ h9 => h9) rfl dX2_greatestShoePressure_1 ?_
  refine va_get (ci := 1) (v := .int (y10 (sW x))) (C := RX1) (T := TX1) (N := 13) hx hb hts hiX1 hown hK.1 hP 3 rfl rfl 10 (by decide) f1 (fun _ h9 => h9) rfl dX2_greatestShoePressure_4 ?_
  exact m_iret (u := ()) hx hb hr hlocks hS hP hD dX2_greatestShoePressure_7 hw
def qX2_errorCount (x : Sys) (p1 : Int32) (Q : Int32 → Sys → Prop) : Prop := (qX2_within p1 (-5) (-2) (fun r1 => ((¬ r1 = 0 → (vp_in ((-2) - p1) 4 ∧ Q ((sE x) (Int32.toNatClampNeg ((-2) - p1))) x)) ∧ (r1 = 0 → (qX2_refuse x (-2) (fun r4 u5 => Q r4 u5))))))
set_option maxHeartbeats 4000000 in
set_option maxRecDepth 100000 in
theorem kX2_errorCount (l : Launch) (D : va_G) (I O : ClassId) (a : SA) (sz : Nat) (x : Sys) (p1 : Int32) (Q : Int32 → Sys → Prop) (hw : qX2_errorCount x p1 Q) : Met l yX2_errorCount wsX2_errorCount rX2_errorCount (mPc D I O [.ref a.1, .int p1] (sysW I O a x) sz) (va_Qi (fun r (u : Sys) => Q r u) (mB D (va_A (sysW I O a x) sz) (fun u => sysW I O a u)) (va_A (sysW I O a x) sz)) 0 0 (va_A (sysW I O a x) sz) := by
  refine m_start (by decide) rfl (Nat.le_of_ble_eq_true rfl) (fun p e s m below meth c ls H locs hx hb hr hml hts hown hlocks hnm hK hP hD hA hS hl => ?_)
  have hown : s.vm.findClass RX2 = some m.cls := hown
  have hl : lv_has ls 2 [(0, .ref a.1), (1, .int p1)] := hl
  have hiX2 : ∀ w ∈ wsX20, w ∈ wsX2_errorCount := by decide +kernel
  have f0 := hts (.fieldLink RX2 27 "WellControl" "errors" "[I") (by decide +kernel)
  unfold qX2_errorCount at hw
  refine lv_iload_n hx hb dX2_errorCount_0 rfl (lv_at hl 1 rfl) ?_
  refine lv_bipush (v := (-5)) hx hb dX2_errorCount_1 (by decide) ?_
  refine lv_bipush (v := (-2)) hx hb dX2_errorCount_3 (by decide) ?_
  refine m0_i (mv_S (As := [.int p1, .int (-5), .int (-2)]) (rest := []) ⟨hx, hb, hml, hown, hts⟩ (kX2_within l D I O H.size p1 (-5) (-2) _ hw) (va_cwS 3 hts gX2_errorCount_X2_within rfl rfl rfl hdSX2_within ⟨(Nat.le_of_ble_eq_true rfl), (Nat.le_of_ble_eq_true rfl)⟩) hK (nil_P (D := D) (H := H)) (nil_D (A := va_A (sysW I O a x) sz)) rfl hl.1 rfl (Nat.le_of_ble_eq_true rfl) dX2_errorCount_5 ⟨(Nat.le_of_ble_eq_true rfl), (Nat.le_of_ble_eq_true rfl)⟩) hP hD hS hA (fun r1 _ H locs hw hP hD hS => ?_)
  refine lv_if_ne (tgt := 18) hx hb dX2_errorCount_8 (by decide) (fun c2 => ?_) (fun c2 => ?_)
  · have hw := hw.1 c2
    refine lv_aload_n hx hb dX2_errorCount_18 rfl (lv_at hl 0 rfl) ?_
    refine va_get (ci := 2) (v := .ref a.2.2.1) (C := RX2) (T := TX2) (N := 5) hx hb hts hiX2 hown hK.1 hP 0 rfl rfl 4 (by decide) f0 (fun _ h9 => h9) rfl dX2_errorCount_19 ?_
    refine lv_bipush (v := (-2)) hx hb dX2_errorCount_22 (by decide) ?_
    refine lv_iload_n hx hb dX2_errorCount_24 rfl (lv_at hl 1 rfl) ?_
    refine lv_isub hx hb dX2_errorCount_25 ?_
    obtain ⟨h3, hw⟩ := hw
    refine va_iald hx hb hK.1 hP 2 0 rfl rfl h3 dX2_errorCount_26 ?_
    exact m_iret (u := x) hx hb hr hlocks hS hP hD dX2_errorCount_27 hw
  · have hw := hw.2 c2
    refine lv_aload_n hx hb dX2_errorCount_11 rfl (lv_at hl 0 rfl) ?_
    refine lv_bipush (v := (-2)) hx hb dX2_errorCount_12 (by decide) ?_
    refine mw_i (mv_V (As := [.int (-2)]) (rest := []) ⟨hx, hb, hml, hown, hts⟩ (kX2_refuse l D I O a H.size x (-2) _ hw) (cwV 1 hts gX2_errorCount_X2_refuse rfl rfl rfl hdVX2_refuse ⟨(Nat.le_of_ble_eq_true rfl), (Nat.le_of_ble_eq_true rfl)⟩) hK hP hD 0 2 rfl rfl rfl rfl hl.1 rfl (Nat.le_of_ble_eq_true rfl) dX2_errorCount_14 ⟨(Nat.le_of_ble_eq_true rfl), (Nat.le_of_ble_eq_true rfl)⟩) hP hD hS hA (fun r4 u5 H locs hw hP hD hS => ?_)
    have hP : va_P D vwCl (sysW I O a u5) H := hP
    have hD : va_D (va_A (sysW I O a x) sz) (sysW I O a u5) := hD
    exact m_iret (u := u5) hx hb hr hlocks hS hP hD dX2_errorCount_17 hw
def qX2_digest (x : Sys) (Q : Int64 → Prop) : Prop := (qX2_mixed 2693 (Int32.toInt64 ((sE x) (Int32.toNatClampNeg 0))) (fun r2 => (qX2_mixed r2 (Int32.toInt64 ((sE x) (Int32.toNatClampNeg 1))) (fun r4 => (qX2_mixed r4 (Int32.toInt64 ((sE x) (Int32.toNatClampNeg 2))) (fun r6 => (qX2_mixed r6 (Int32.toInt64 ((sE x) (Int32.toNatClampNeg 3))) (fun r8 => (qX1_mixedSettings (sW x) r8 (fun r10 => (qX0_mixedLayers (yP (sW x)) r10 (fun r11 => (qX0_mixedLayers (yA (sW x)) r11 (fun r12 => (qX1_mixedReadings (sW x) r12 (fun r13 => (qX2_mixed r13 (Int32.toInt64 (sC x)) (fun r14 => Q r14))))))))))))))))))
set_option maxHeartbeats 4000000 in
set_option maxRecDepth 100000 in
theorem kX2_digest (l : Launch) (D : va_G) (I O : ClassId) (a : SA) (sz : Nat) (x : Sys) (Q : Int64 → Prop) (hw : qX2_digest x Q) : Met l yX2_digest wsX2_digest rX2_digest (mPc D I O [.ref a.1] (sysW I O a x) sz) (va_Ql (fun r (_ : Unit) => Q r) (mB D (va_A (sysW I O a x) sz) (fun _ => sysW I O a x)) (va_A (sysW I O a x) sz)) 0 0 (va_A (sysW I O a x) sz) := by
  refine m_start (by decide) rfl (Nat.le_of_ble_eq_true rfl) (fun p e s m below meth c ls H locs hx hb hr hml hts hown hlocks hnm hK hP hD hA hS hl => ?_)
  have hown : s.vm.findClass RX2 = some m.cls := hown
  have hl : lv_has ls 4 [(0, .ref a.1)] := hl
  have hiX1 : ∀ w ∈ wsX10, w ∈ wsX2_digest := by decide +kernel
  have hiX2 : ∀ w ∈ wsX20, w ∈ wsX2_digest := by decide +kernel
  have f0 := hts (.constantLong RX2 158 (2693)) (by decide +kernel)
  have f1 := hts (.fieldLink RX2 27 "WellControl" "errors" "[I") (by decide +kernel)
  have f2 := hts (.fieldLink RX2 10 "WellControl" "well" "LWellControl$Well;") (by decide +kernel)
  have f3 := hts (.fieldLink RX2 168 "WellControl$Well" "pipe" "LWellControl$Column;") (by decide +kernel)
  have f4 := hts (.fieldLink RX2 175 "WellControl$Well" "annulus" "LWellControl$Column;") (by decide +kernel)
  have f5 := hts (.fieldLink RX2 23 "WellControl" "savedCount" "I") (by decide +kernel)
  unfold qX2_digest at hw
  refine lv_ldc2 (v := 2693) hx hb hown f0 dX2_digest_0 ?_
  refine lv_lstore_n (lv' := [(1, .long 2693), (0, .ref a.1)]) hx hb dX2_digest_3 rfl hl (by decide) rfl (fun ls hl => ?_)
  refine lv_iconst (v := 0) hx hb dX2_digest_4 (by decide) ?_
  refine lv_istore_n (lv' := [(3, .int 0), (1, .long 2693), (0, .ref a.1)]) hx hb dX2_digest_5 rfl hl (by decide) rfl (fun ls hl => ?_)
  refine lv_iload_n hx hb dX2_digest_6 rfl (lv_at hl 0 rfl) ?_
  refine lv_iconst (v := 4) hx hb dX2_digest_7 (by decide) ?_
  refine lv_icmp_ge (tgt := 29) hx hb dX2_digest_8 (by decide) (fun c1 => ?_) (fun c1 => ?_)
  · exact absurd c1 (show ¬ ((4 : Int32) ≤ (0 : Int32)) from by decide)
  · refine lv_lload_n hx hb dX2_digest_11 rfl (lv_at hl 1 rfl) ?_
    refine lv_aload_n hx hb dX2_digest_12 rfl (lv_at hl 2 rfl) ?_
    refine va_get (ci := 2) (v := .ref a.2.2.1) (C := RX2) (T := TX2) (N := 5) hx hb hts hiX2 hown hK.1 hP 0 rfl rfl 4 (by decide) f1 (fun _ h9 => h9) rfl dX2_digest_13 ?_
    refine lv_iload_n hx hb dX2_digest_16 rfl (lv_at hl 0 rfl) ?_
    refine va_iald hx hb hK.1 hP 2 0 rfl rfl (vp_c 0 4 (by decide)) dX2_digest_17 ?_
    refine lv_i2l (v := Int32.toInt64 ((sE x) (Int32.toNatClampNeg 0))) hx hb dX2_digest_18 rfl ?_
    refine m0_l (mv_S (As := [.long 2693, .long (Int32.toInt64 ((sE x) (Int32.toNatClampNeg 0)))]) (rest := []) ⟨hx, hb, hml, hown, hts⟩ (kX2_mixed l D I O H.size 2693 (Int32.toInt64 ((sE x) (Int32.toNatClampNeg 0))) _ hw) (va_cwS 2 hts gX2_digest_X2_mixed rfl rfl rfl hdSX2_mixed ⟨(Nat.le_of_ble_eq_true rfl), (Nat.le_of_ble_eq_true rfl)⟩) hK (nil_P (D := D) (H := H)) (nil_D (A := va_A (sysW I O a x) sz)) rfl hl.1 rfl (Nat.le_of_ble_eq_true rfl) dX2_digest_19 ⟨(Nat.le_of_ble_eq_true rfl), (Nat.le_of_ble_eq_true rfl)⟩) hP hD hS hA (fun r2 _ H locs hw hP hD hS => ?_)
    refine lv_lstore_n (lv' := [(1, .long r2), (3, .int 0), (0, .ref a.1)]) hx hb dX2_digest_22 rfl hl (by decide) rfl (fun ls hl => ?_)
    refine lv_iinc (v := 1) (lv' := [(3, .int 1), (1, .long r2), (0, .ref a.1)]) hx hb dX2_digest_23 hl (k := 1) rfl (by decide) (by decide) rfl (fun ls hl => ?_)
    refine lv_goto (tgt := 6) hx hb dX2_digest_26 (by decide) ?_
    refine lv_iload_n hx hb dX2_digest_6 rfl (lv_at hl 0 rfl) ?_
    refine lv_iconst (v := 4) hx hb dX2_digest_7 (by decide) ?_
    refine lv_icmp_ge (tgt := 29) hx hb dX2_digest_8 (by decide) (fun c3 => ?_) (fun c3 => ?_)
    · exact absurd c3 (show ¬ ((4 : Int32) ≤ (1 : Int32)) from by decide)
    · refine lv_lload_n hx hb dX2_digest_11 rfl (lv_at hl 1 rfl) ?_
      refine lv_aload_n hx hb dX2_digest_12 rfl (lv_at hl 2 rfl) ?_
      refine va_get (ci := 2) (v := .ref a.2.2.1) (C := RX2) (T := TX2) (N := 5) hx hb hts hiX2 hown hK.1 hP 0 rfl rfl 4 (by decide) f1 (fun _ h9 => h9) rfl dX2_digest_13 ?_
      refine lv_iload_n hx hb dX2_digest_16 rfl (lv_at hl 0 rfl) ?_
      refine va_iald hx hb hK.1 hP 2 0 rfl rfl (vp_c 1 4 (by decide)) dX2_digest_17 ?_
      refine lv_i2l (v := Int32.toInt64 ((sE x) (Int32.toNatClampNeg 1))) hx hb dX2_digest_18 rfl ?_
      refine m0_l (mv_S (As := [.long r2, .long (Int32.toInt64 ((sE x) (Int32.toNatClampNeg 1)))]) (rest := []) ⟨hx, hb, hml, hown, hts⟩ (kX2_mixed l D I O H.size r2 (Int32.toInt64 ((sE x) (Int32.toNatClampNeg 1))) _ hw) (va_cwS 2 hts gX2_digest_X2_mixed rfl rfl rfl hdSX2_mixed ⟨(Nat.le_of_ble_eq_true rfl), (Nat.le_of_ble_eq_true rfl)⟩) hK (nil_P (D := D) (H := H)) (nil_D (A := va_A (sysW I O a x) sz)) rfl hl.1 rfl (Nat.le_of_ble_eq_true rfl) dX2_digest_19 ⟨(Nat.le_of_ble_eq_true rfl), (Nat.le_of_ble_eq_true rfl)⟩) hP hD hS hA (fun r4 _ H locs hw hP hD hS => ?_)
      refine lv_lstore_n (lv' := [(1, .long r4), (3, .int 1), (0, .ref a.1)]) hx hb dX2_digest_22 rfl hl (by decide) rfl (fun ls hl => ?_)
      refine lv_iinc (v := 2) (lv' := [(3, .int 2), (1, .long r4), (0, .ref a.1)]) hx hb dX2_digest_23 hl (k := 1) rfl (by decide) (by decide) rfl (fun ls hl => ?_)
      refine lv_goto (tgt := 6) hx hb dX2_digest_26 (by decide) ?_
      refine lv_iload_n hx hb dX2_digest_6 rfl (lv_at hl 0 rfl) ?_
      refine lv_iconst (v := 4) hx hb dX2_digest_7 (by decide) ?_
      refine lv_icmp_ge (tgt := 29) hx hb dX2_digest_8 (by decide) (fun c5 => ?_) (fun c5 => ?_)
      · exact absurd c5 (show ¬ ((4 : Int32) ≤ (2 : Int32)) from by decide)
      · refine lv_lload_n hx hb dX2_digest_11 rfl (lv_at hl 1 rfl) ?_
        refine lv_aload_n hx hb dX2_digest_12 rfl (lv_at hl 2 rfl) ?_
        refine va_get (ci := 2) (v := .ref a.2.2.1) (C := RX2) (T := TX2) (N := 5) hx hb hts hiX2 hown hK.1 hP 0 rfl rfl 4 (by decide) f1 (fun _ h9 => h9) rfl dX2_digest_13 ?_
        refine lv_iload_n hx hb dX2_digest_16 rfl (lv_at hl 0 rfl) ?_
        refine va_iald hx hb hK.1 hP 2 0 rfl rfl (vp_c 2 4 (by decide)) dX2_digest_17 ?_
        refine lv_i2l (v := Int32.toInt64 ((sE x) (Int32.toNatClampNeg 2))) hx hb dX2_digest_18 rfl ?_
        refine m0_l (mv_S (As := [.long r4, .long (Int32.toInt64 ((sE x) (Int32.toNatClampNeg 2)))]) (rest := []) ⟨hx, hb, hml, hown, hts⟩ (kX2_mixed l D I O H.size r4 (Int32.toInt64 ((sE x) (Int32.toNatClampNeg 2))) _ hw) (va_cwS 2 hts gX2_digest_X2_mixed rfl rfl rfl hdSX2_mixed ⟨(Nat.le_of_ble_eq_true rfl), (Nat.le_of_ble_eq_true rfl)⟩) hK (nil_P (D := D) (H := H)) (nil_D (A := va_A (sysW I O a x) sz)) rfl hl.1 rfl (Nat.le_of_ble_eq_true rfl) dX2_digest_19 ⟨(Nat.le_of_ble_eq_true rfl), (Nat.le_of_ble_eq_true rfl)⟩) hP hD hS hA (fun r6 _ H locs hw hP hD hS => ?_)
        refine lv_lstore_n (lv' := [(1, .long r6), (3, .int 2), (0, .ref a.1)]) hx hb dX2_digest_22 rfl hl (by decide) rfl (fun ls hl => ?_)
        refine lv_iinc (v := 3) (lv' := [(3, .int 3), (1, .long r6), (0, .ref a.1)]) hx hb dX2_digest_23 hl (k := 1) rfl (by decide) (by decide) rfl (fun ls hl => ?_)
        refine lv_goto (tgt := 6) hx hb dX2_digest_26 (by decide) ?_
        refine lv_iload_n hx hb dX2_digest_6 rfl (lv_at hl 0 rfl) ?_
        refine lv_iconst (v := 4) hx hb dX2_digest_7 (by decide) ?_
        refine lv_icmp_ge (tgt := 29) hx hb dX2_digest_8 (by decide) (fun c7 => ?_) (fun c7 => ?_)
        · exact absurd c7 (show ¬ ((4 : Int32) ≤ (3 : Int32)) from by decide)
        · refine lv_lload_n hx hb dX2_digest_11 rfl (lv_at hl 1 rfl) ?_
          refine lv_aload_n hx hb dX2_digest_12 rfl (lv_at hl 2 rfl) ?_
          refine va_get (ci := 2) (v := .ref a.2.2.1) (C := RX2) (T := TX2) (N := 5) hx hb hts hiX2 hown hK.1 hP 0 rfl rfl 4 (by decide) f1 (fun _ h9 => h9) rfl dX2_digest_13 ?_
          refine lv_iload_n hx hb dX2_digest_16 rfl (lv_at hl 0 rfl) ?_
          refine va_iald hx hb hK.1 hP 2 0 rfl rfl (vp_c 3 4 (by decide)) dX2_digest_17 ?_
          refine lv_i2l (v := Int32.toInt64 ((sE x) (Int32.toNatClampNeg 3))) hx hb dX2_digest_18 rfl ?_
          refine m0_l (mv_S (As := [.long r6, .long (Int32.toInt64 ((sE x) (Int32.toNatClampNeg 3)))]) (rest := []) ⟨hx, hb, hml, hown, hts⟩ (kX2_mixed l D I O H.size r6 (Int32.toInt64 ((sE x) (Int32.toNatClampNeg 3))) _ hw) (va_cwS 2 hts gX2_digest_X2_mixed rfl rfl rfl hdSX2_mixed ⟨(Nat.le_of_ble_eq_true rfl), (Nat.le_of_ble_eq_true rfl)⟩) hK (nil_P (D := D) (H := H)) (nil_D (A := va_A (sysW I O a x) sz)) rfl hl.1 rfl (Nat.le_of_ble_eq_true rfl) dX2_digest_19 ⟨(Nat.le_of_ble_eq_true rfl), (Nat.le_of_ble_eq_true rfl)⟩) hP hD hS hA (fun r8 _ H locs hw hP hD hS => ?_)
          refine lv_lstore_n (lv' := [(1, .long r8), (3, .int 3), (0, .ref a.1)]) hx hb dX2_digest_22 rfl hl (by decide) rfl (fun ls hl => ?_)
          refine lv_iinc (v := 4) (lv' := [(3, .int 4), (1, .long r8), (0, .ref a.1)]) hx hb dX2_digest_23 hl (k := 1) rfl (by decide) (by decide) rfl (fun ls hl => ?_)
          refine lv_goto (tgt := 6) hx hb dX2_digest_26 (by decide) ?_
          refine lv_iload_n hx hb dX2_digest_6 rfl (lv_at hl 0 rfl) ?_
          refine lv_iconst (v := 4) hx hb dX2_digest_7 (by decide) ?_
          refine lv_icmp_ge (tgt := 29) hx hb dX2_digest_8 (by decide) (fun c9 => ?_) (fun c9 => ?_)
          · refine lv_aload_n hx hb dX2_digest_29 rfl (lv_at hl 2 rfl) ?_
            refine va_get (ci := 2) (v := .ref a.2.2.2.1.1) (C := RX2) (T := TX2) (N := 5) hx hb hts hiX2 hown hK.1 hP 0 rfl rfl 0 (by decide) f2 (fun _ h9 => h9) rfl dX2_digest_30 ?_
            refine lv_lload_n hx hb dX2_digest_33 rfl (lv_at hl 1 rfl) ?_
            have hPc := va_P.mid (X := sysH I O a x) (wc := welB I a.2.2.2.1 (sW x)) (Y := welB I a.2.2.2.2.1 (sT x) ++ (welB I a.2.2.2.2.2.1 (s0 x) ++ (welB I a.2.2.2.2.2.2.1 (s1 x) ++ (welB I a.2.2.2.2.2.2.2.1 (s2 x) ++ welB I a.2.2.2.2.2.2.2.2 (s3 x))))) hP
            have hDc := va_D.mid (X := sysH I O a x) (wc := welB I a.2.2.2.1 (sW x)) (Y := welB I a.2.2.2.2.1 (sT x) ++ (welB I a.2.2.2.2.2.1 (s0 x) ++ (welB I a.2.2.2.2.2.2.1 (s1 x) ++ (welB I a.2.2.2.2.2.2.2.1 (s2 x) ++ welB I a.2.2.2.2.2.2.2.2 (s3 x))))) hD
            refine mc_l (sysH I O a x) (welB I a.2.2.2.2.1 (sT x) ++ (welB I a.2.2.2.2.2.1 (s0 x) ++ (welB I a.2.2.2.2.2.2.1 (s1 x) ++ (welB I a.2.2.2.2.2.2.2.1 (s2 x) ++ welB I a.2.2.2.2.2.2.2.2 (s3 x))))) (mv_V (As := [.long r8]) (rest := []) ⟨hx, hb, hml, hown, hts⟩ (kX1_mixedSettings l D I O a.2.2.2.1 H.size (sW x) r8 _ hw) (cwV 1 hts gX2_digest_X1_mixedSettings rfl rfl rfl hdVX1_mixedSettings ⟨(Nat.le_of_ble_eq_true rfl), (Nat.le_of_ble_eq_true rfl)⟩) hK hPc hDc 0 1 rfl rfl rfl rfl hl.1 rfl (Nat.le_of_ble_eq_true rfl) dX2_digest_34 ⟨(Nat.le_of_ble_eq_true rfl), (Nat.le_of_ble_eq_true rfl)⟩) hP hD hS hA (fun r10 _ H locs hw hP hD hS => ?_)
            have hP : va_P D vwCl (sysW I O a x) H := hP
            have hD : va_D (va_A (sysW I O a x) sz) (sysW I O a x) := hD
            refine lv_lstore_n (lv' := [(1, .long r10), (3, .int 4), (0, .ref a.1)]) hx hb dX2_digest_37 rfl hl (by decide) rfl (fun ls hl => ?_)
            refine lv_aload_n hx hb dX2_digest_38 rfl (lv_at hl 2 rfl) ?_
            refine va_get (ci := 2) (v := .ref a.2.2.2.1.1) (C := RX2) (T := TX2) (N := 5) hx hb hts hiX2 hown hK.1 hP 0 rfl rfl 0 (by decide) f2 (fun _ h9 => h9) rfl dX2_digest_39 ?_
            refine va_get (ci := 1) (v := .ref a.2.2.2.1.2.1.1) (C := RX1) (T := TX1) (N := 13) hx hb hts hiX1 hown hK.1 hP 3 rfl rfl 11 (by decide) f3 (fun _ h9 => h9) rfl dX2_digest_42 ?_
            refine lv_lload_n hx hb dX2_digest_45 rfl (lv_at hl 0 rfl) ?_
            have hPc := va_P.mid (X := sysH I O a x ++ [welO a.2.2.2.1 (sW x)]) (wc := colB I a.2.2.2.1.2.1 (yP (sW x))) (Y := colB I a.2.2.2.1.2.2 (yA (sW x)) ++ (welB I a.2.2.2.2.1 (sT x) ++ (welB I a.2.2.2.2.2.1 (s0 x) ++ (welB I a.2.2.2.2.2.2.1 (s1 x) ++ (welB I a.2.2.2.2.2.2.2.1 (s2 x) ++ welB I a.2.2.2.2.2.2.2.2 (s3 x)))))) hP
            have hDc := va_D.mid (X := sysH I O a x ++ [welO a.2.2.2.1 (sW x)]) (wc := colB I a.2.2.2.1.2.1 (yP (sW x))) (Y := colB I a.2.2.2.1.2.2 (yA (sW x)) ++ (welB I a.2.2.2.2.1 (sT x) ++ (welB I a.2.2.2.2.2.1 (s0 x) ++ (welB I a.2.2.2.2.2.2.1 (s1 x) ++ (welB I a.2.2.2.2.2.2.2.1 (s2 x) ++ welB I a.2.2.2.2.2.2.2.2 (s3 x)))))) hD
            refine mc_l (sysH I O a x ++ [welO a.2.2.2.1 (sW x)]) (colB I a.2.2.2.1.2.2 (yA (sW x)) ++ (welB I a.2.2.2.2.1 (sT x) ++ (welB I a.2.2.2.2.2.1 (s0 x) ++ (welB I a.2.2.2.2.2.2.1 (s1 x) ++ (welB I a.2.2.2.2.2.2.2.1 (s2 x) ++ welB I a.2.2.2.2.2.2.2.2 (s3 x)))))) (mv_V (As := [.long r10]) (rest := []) ⟨hx, hb, hml, hown, hts⟩ (kX0_mixedLayers l D I O a.2.2.2.1.2.1 H.size (yP (sW x)) r10 _ hw) (cwV 1 hts gX2_digest_X0_mixedLayers rfl rfl rfl hdVX0_mixedLayers ⟨(Nat.le_of_ble_eq_true rfl), (Nat.le_of_ble_eq_true rfl)⟩) hK hPc hDc 0 0 rfl rfl rfl rfl hl.1 rfl (Nat.le_of_ble_eq_true rfl) dX2_digest_46 ⟨(Nat.le_of_ble_eq_true rfl), (Nat.le_of_ble_eq_true rfl)⟩) hP hD hS hA (fun r11 _ H locs hw hP hD hS => ?_)
            have hP : va_P D vwCl (sysW I O a x) H := hP
            have hD : va_D (va_A (sysW I O a x) sz) (sysW I O a x) := hD
            refine lv_lstore_n (lv' := [(1, .long r11), (3, .int 4), (0, .ref a.1)]) hx hb dX2_digest_49 rfl hl (by decide) rfl (fun ls hl => ?_)
            refine lv_aload_n hx hb dX2_digest_50 rfl (lv_at hl 2 rfl) ?_
            refine va_get (ci := 2) (v := .ref a.2.2.2.1.1) (C := RX2) (T := TX2) (N := 5) hx hb hts hiX2 hown hK.1 hP 0 rfl rfl 0 (by decide) f2 (fun _ h9 => h9) rfl dX2_digest_51 ?_
            refine va_get (ci := 1) (v := .ref a.2.2.2.1.2.2.1) (C := RX1) (T := TX1) (N := 13) hx hb hts hiX1 hown hK.1 hP 3 rfl rfl 12 (by decide) f4 (fun _ h9 => h9) rfl dX2_digest_54 ?_
            refine lv_lload_n hx hb dX2_digest_57 rfl (lv_at hl 0 rfl) ?_
            have hPc := va_P.mid (X := sysH I O a x ++ (welO a.2.2.2.1 (sW x) :: colB I a.2.2.2.1.2.1 (yP (sW x)))) (wc := colB I a.2.2.2.1.2.2 (yA (sW x))) (Y := welB I a.2.2.2.2.1 (sT x) ++ (welB I a.2.2.2.2.2.1 (s0 x) ++ (welB I a.2.2.2.2.2.2.1 (s1 x) ++ (welB I a.2.2.2.2.2.2.2.1 (s2 x) ++ welB I a.2.2.2.2.2.2.2.2 (s3 x))))) hP
            have hDc := va_D.mid (X := sysH I O a x ++ (welO a.2.2.2.1 (sW x) :: colB I a.2.2.2.1.2.1 (yP (sW x)))) (wc := colB I a.2.2.2.1.2.2 (yA (sW x))) (Y := welB I a.2.2.2.2.1 (sT x) ++ (welB I a.2.2.2.2.2.1 (s0 x) ++ (welB I a.2.2.2.2.2.2.1 (s1 x) ++ (welB I a.2.2.2.2.2.2.2.1 (s2 x) ++ welB I a.2.2.2.2.2.2.2.2 (s3 x))))) hD
            refine mc_l (sysH I O a x ++ (welO a.2.2.2.1 (sW x) :: colB I a.2.2.2.1.2.1 (yP (sW x)))) (welB I a.2.2.2.2.1 (sT x) ++ (welB I a.2.2.2.2.2.1 (s0 x) ++ (welB I a.2.2.2.2.2.2.1 (s1 x) ++ (welB I a.2.2.2.2.2.2.2.1 (s2 x) ++ welB I a.2.2.2.2.2.2.2.2 (s3 x))))) (mv_V (As := [.long r11]) (rest := []) ⟨hx, hb, hml, hown, hts⟩ (kX0_mixedLayers l D I O a.2.2.2.1.2.2 H.size (yA (sW x)) r11 _ hw) (cwV 1 hts gX2_digest_X0_mixedLayers rfl rfl rfl hdVX0_mixedLayers ⟨(Nat.le_of_ble_eq_true rfl), (Nat.le_of_ble_eq_true rfl)⟩) hK hPc hDc 0 0 rfl rfl rfl rfl hl.1 rfl (Nat.le_of_ble_eq_true rfl) dX2_digest_58 ⟨(Nat.le_of_ble_eq_true rfl), (Nat.le_of_ble_eq_true rfl)⟩) hP hD hS hA (fun r12 _ H locs hw hP hD hS => ?_)
            have hP : va_P D vwCl (sysW I O a x) H := hP
            have hD : va_D (va_A (sysW I O a x) sz) (sysW I O a x) := hD
            refine lv_lstore_n (lv' := [(1, .long r12), (3, .int 4), (0, .ref a.1)]) hx hb dX2_digest_61 rfl hl (by decide) rfl (fun ls hl => ?_)
            refine lv_aload_n hx hb dX2_digest_62 rfl (lv_at hl 2 rfl) ?_
            refine va_get (ci := 2) (v := .ref a.2.2.2.1.1) (C := RX2) (T := TX2) (N := 5) hx hb hts hiX2 hown hK.1 hP 0 rfl rfl 0 (by decide) f2 (fun _ h9 => h9) rfl dX2_digest_63 ?_
            refine lv_lload_n hx hb dX2_digest_66 rfl (lv_at hl 0 rfl) ?_
            have hPc := va_P.mid (X := sysH I O a x) (wc := welB I a.2.2.2.1 (sW x)) (Y := welB I a.2.2.2.2.1 (sT x) ++ (welB I a.2.2.2.2.2.1 (s0 x) ++ (welB I a.2.2.2.2.2.2.1 (s1 x) ++ (welB I a.2.2.2.2.2.2.2.1 (s2 x) ++ welB I a.2.2.2.2.2.2.2.2 (s3 x))))) hP
            have hDc := va_D.mid (X := sysH I O a x) (wc := welB I a.2.2.2.1 (sW x)) (Y := welB I a.2.2.2.2.1 (sT x) ++ (welB I a.2.2.2.2.2.1 (s0 x) ++ (welB I a.2.2.2.2.2.2.1 (s1 x) ++ (welB I a.2.2.2.2.2.2.2.1 (s2 x) ++ welB I a.2.2.2.2.2.2.2.2 (s3 x))))) hD
            refine mc_l (sysH I O a x) (welB I a.2.2.2.2.1 (sT x) ++ (welB I a.2.2.2.2.2.1 (s0 x) ++ (welB I a.2.2.2.2.2.2.1 (s1 x) ++ (welB I a.2.2.2.2.2.2.2.1 (s2 x) ++ welB I a.2.2.2.2.2.2.2.2 (s3 x))))) (mv_V (As := [.long r12]) (rest := []) ⟨hx, hb, hml, hown, hts⟩ (kX1_mixedReadings l D I O a.2.2.2.1 H.size (sW x) r12 _ hw) (cwV 1 hts gX2_digest_X1_mixedReadings rfl rfl rfl hdVX1_mixedReadings ⟨(Nat.le_of_ble_eq_true rfl), (Nat.le_of_ble_eq_true rfl)⟩) hK hPc hDc 0 1 rfl rfl rfl rfl hl.1 rfl (Nat.le_of_ble_eq_true rfl) dX2_digest_67 ⟨(Nat.le_of_ble_eq_true rfl), (Nat.le_of_ble_eq_true rfl)⟩) hP hD hS hA (fun r13 _ H locs hw hP hD hS => ?_)
            have hP : va_P D vwCl (sysW I O a x) H := hP
            have hD : va_D (va_A (sysW I O a x) sz) (sysW I O a x) := hD
            refine lv_lstore_n (lv' := [(1, .long r13), (3, .int 4), (0, .ref a.1)]) hx hb dX2_digest_70 rfl hl (by decide) rfl (fun ls hl => ?_)
            refine lv_lload_n hx hb dX2_digest_71 rfl (lv_at hl 0 rfl) ?_
            refine lv_aload_n hx hb dX2_digest_72 rfl (lv_at hl 2 rfl) ?_
            refine va_get (ci := 2) (v := .int (sC x)) (C := RX2) (T := TX2) (N := 5) hx hb hts hiX2 hown hK.1 hP 0 rfl rfl 3 (by decide) f5 (fun _ h9 => h9) rfl dX2_digest_73 ?_
            refine lv_i2l (v := Int32.toInt64 (sC x)) hx hb dX2_digest_76 rfl ?_
            refine m0_l (mv_S (As := [.long r13, .long (Int32.toInt64 (sC x))]) (rest := []) ⟨hx, hb, hml, hown, hts⟩ (kX2_mixed l D I O H.size r13 (Int32.toInt64 (sC x)) _ hw) (va_cwS 2 hts gX2_digest_X2_mixed rfl rfl rfl hdSX2_mixed ⟨(Nat.le_of_ble_eq_true rfl), (Nat.le_of_ble_eq_true rfl)⟩) hK (nil_P (D := D) (H := H)) (nil_D (A := va_A (sysW I O a x) sz)) rfl hl.1 rfl (Nat.le_of_ble_eq_true rfl) dX2_digest_77 ⟨(Nat.le_of_ble_eq_true rfl), (Nat.le_of_ble_eq_true rfl)⟩) hP hD hS hA (fun r14 _ H locs hw hP hD hS => ?_)
            exact m_lret (u := ()) hx hb hr hlocks hS hP hD dX2_digest_80 hw
          · exact absurd (show (4 : Int32) ≤ (4 : Int32) from by decide) c9
