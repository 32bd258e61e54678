def qX2_within (p1 : Int32) (p2 : Int32) (p3 : Int32) (Q : Int32 → Prop) : Prop := ((p1 < p2 → Q 0) ∧ (¬ p1 < p2 → ((p3 < p1 → Q 0) ∧ (¬ p3 < p1 → Q 1))))
set_option maxHeartbeats 4000000 in
set_option maxRecDepth 100000 in
theorem kX2_within (l : Launch) (D : va_G) (I O : ClassId) (sz : Nat) (p1 : Int32) (p2 : Int32) (p3 : Int32) (Q : Int32 → Prop) (hw : qX2_within p1 p2 p3 Q) : Met l yX2_within wsX2_within rX2_within (mPc D I O [.int p1, .int p2, .int p3] ([]) sz) (va_Qi (fun r (_ : Unit) => Q r) (mB D (va_A ([]) sz) (fun _ => [])) (va_A ([]) sz)) 0 0 (va_A ([]) sz) := by
  refine m_start (by decide) rfl (Nat.le_of_ble_eq_true rfl) (fun p e s m below meth c ls H locs hx hb hr hml hts hown hlocks hnm hK hP hD hA hS hl => ?_)
  have hown : s.vm.findClass RX2 = some m.cls := hown
  have hl : lv_has ls 3 [(0, .int p1), (1, .int p2), (2, .int p3)] := hl
  unfold qX2_within at hw
  refine lv_iload_n hx hb dX2_within_0 rfl (lv_at hl 0 rfl) ?_
  refine lv_iload_n hx hb dX2_within_1 rfl (lv_at hl 1 rfl) ?_
  refine lv_icmp_lt (tgt := 14) hx hb dX2_within_2 (by decide) (fun c1 => ?_) (fun c1 => ?_)
  · have hw := hw.1 c1
    refine lv_iconst (v := 0) hx hb dX2_within_14 (by decide) ?_
    exact m_zret (u := ()) hx hb hr hlocks (by decide) hS hP hD dX2_within_15 hw
  · have hw := hw.2 c1
    refine lv_iload_n hx hb dX2_within_5 rfl (lv_at hl 0 rfl) ?_
    refine lv_iload_n hx hb dX2_within_6 rfl (lv_at hl 2 rfl) ?_
    refine lv_icmp_gt (tgt := 14) hx hb dX2_within_7 (by decide) (fun c2 => ?_) (fun c2 => ?_)
    · have hw := hw.1 c2
      refine lv_iconst (v := 0) hx hb dX2_within_14 (by decide) ?_
      exact m_zret (u := ()) hx hb hr hlocks (by decide) hS hP hD dX2_within_15 hw
    · have hw := hw.2 c2
      refine lv_iconst (v := 1) hx hb dX2_within_10 (by decide) ?_
      refine lv_goto (tgt := 15) hx hb dX2_within_11 (by decide) ?_
      exact m_zret (u := ()) hx hb hr hlocks (by decide) hS hP hD dX2_within_15 hw
def qX2_refuse (x : Sys) (p1 : Int32) (Q : Int32 → Sys → Prop) : Prop := (qX2_within p1 (-5) (-2) (fun r1 => ((r1 = 0 → Q p1 x) ∧ (¬ r1 = 0 → (vp_in ((-2) - p1) 4 ∧ (vp_in ((-2) - p1) 4 ∧ Q p1 (sW x, sT x, s0 x, s1 x, s2 x, s3 x, sC x, upd (sE x) (Int32.toNatClampNeg ((-2) - p1)) (((sE x) (Int32.toNatClampNeg ((-2) - p1))) + 1))))))))
set_option maxHeartbeats 4000000 in
set_option maxRecDepth 100000 in
theorem kX2_refuse (l : Launch) (D : va_G) (I O : ClassId) (a : SA) (sz : Nat) (x : Sys) (p1 : Int32) (Q : Int32 → Sys → Prop) (hw : qX2_refuse x p1 Q) : Met l yX2_refuse wsX2_refuse rX2_refuse (mPc D I O [.ref a.1, .int p1] (sysW I O a x) sz) (va_Qi (fun r (u : Sys) => Q r u) (mB D (va_A (sysW I O a x) sz) (fun u => sysW I O a u)) (va_A (sysW I O a x) sz)) 0 0 (va_A (sysW I O a x) sz) := by
  refine m_start (by decide) rfl (Nat.le_of_ble_eq_true rfl) (fun p e s m below meth c ls H locs hx hb hr hml hts hown hlocks hnm hK hP hD hA hS hl => ?_)
  have hown : s.vm.findClass RX2 = some m.cls := hown
  have hl : lv_has ls 2 [(0, .ref a.1), (1, .int p1)] := hl
  have hiX2 : ∀ w ∈ wsX20, w ∈ wsX2_refuse := by decide +kernel
  have f0 := hts (.fieldLink RX2 27 "WellControl" "errors" "[I") (by decide +kernel)
  unfold qX2_refuse at hw
  refine lv_iload_n hx hb dX2_refuse_0 rfl (lv_at hl 1 rfl) ?_
  refine lv_bipush (v := (-5)) hx hb dX2_refuse_1 (by decide) ?_
  refine lv_bipush (v := (-2)) hx hb dX2_refuse_3 (by decide) ?_
  refine m0_i (mv_S (As := [.int p1, .int (-5), .int (-2)]) (rest := []) ⟨hx, hb, hml, hown, hts⟩ (kX2_within l D I O H.size p1 (-5) (-2) _ hw) (va_cwS 3 hts gX2_refuse_X2_within rfl rfl rfl hdSX2_within ⟨(Nat.le_of_ble_eq_true rfl), (Nat.le_of_ble_eq_true rfl)⟩) hK (nil_P (D := D) (H := H)) (nil_D (A := va_A (sysW I O a x) sz)) rfl hl.1 rfl (Nat.le_of_ble_eq_true rfl) dX2_refuse_5 ⟨(Nat.le_of_ble_eq_true rfl), (Nat.le_of_ble_eq_true rfl)⟩) hP hD hS hA (fun r1 _ H locs hw hP hD hS => ?_)
  refine lv_if_eq (tgt := 24) hx hb dX2_refuse_8 (by decide) (fun c2 => ?_) (fun c2 => ?_)
  · have hw := hw.1 c2
    refine lv_iload_n hx hb dX2_refuse_24 rfl (lv_at hl 1 rfl) ?_
    exact m_iret (u := x) hx hb hr hlocks hS hP hD dX2_refuse_25 hw
  · have hw := hw.2 c2
    refine lv_aload_n hx hb dX2_refuse_11 rfl (lv_at hl 0 rfl) ?_
    refine va_get (ci := 2) (v := .ref a.2.2.1) (C := RX2) (T := TX2) (N := 5) hx hb hts hiX2 hown hK.1 hP 0 rfl rfl 4 (by decide) f0 (fun _ h9 => h9) rfl dX2_refuse_12 ?_
    refine lv_bipush (v := (-2)) hx hb dX2_refuse_15 (by decide) ?_
    refine lv_iload_n hx hb dX2_refuse_17 rfl (lv_at hl 1 rfl) ?_
    refine lv_isub hx hb dX2_refuse_18 ?_
    refine lv_dup2_11 hx hb dX2_refuse_19 rfl rfl ?_
    obtain ⟨h3, hw⟩ := hw
    refine va_iald hx hb hK.1 hP 2 0 rfl rfl h3 dX2_refuse_20 ?_
    refine lv_iconst (v := 1) hx hb dX2_refuse_21 (by decide) ?_
    refine lv_iadd hx hb dX2_refuse_22 ?_
    obtain ⟨h4, hw⟩ := hw
    refine va_iast hx hb hK.1 hP hD hS 2 0 rfl rfl h4 dX2_refuse_23 (fun H locs hP hD hS => ?_)
    have hP : va_P D vwCl (sysW I O a (sW x, sT x, s0 x, s1 x, s2 x, s3 x, sC x, upd (sE x) (Int32.toNatClampNeg ((-2) - p1)) (((sE x) (Int32.toNatClampNeg ((-2) - p1))) + 1))) H := hP
    have hD : va_D (va_A (sysW I O a x) sz) (sysW I O a (sW x, sT x, s0 x, s1 x, s2 x, s3 x, sC x, upd (sE x) (Int32.toNatClampNeg ((-2) - p1)) (((sE x) (Int32.toNatClampNeg ((-2) - p1))) + 1))) := hD
    refine lv_iload_n hx hb dX2_refuse_24 rfl (lv_at hl 1 rfl) ?_
    exact m_iret (u := (sW x, sT x, s0 x, s1 x, s2 x, s3 x, sC x, upd (sE x) (Int32.toNatClampNeg ((-2) - p1)) (((sE x) (Int32.toNatClampNeg ((-2) - p1))) + 1))) hx hb hr hlocks hS hP hD dX2_refuse_25 hw
def qX2_layerError (x : Sys) (p1 : Int32) (p2 : Int32) (Q : Int32 → Prop) : Prop := (qX2_within p1 0 1 (fun r1 => ((r1 = 0 → Q (-2)) ∧ (¬ r1 = 0 → ((0 ≤ p2 → ((p1 = 0 → (((zN (yP (sW x))) ≤ p2 → Q (-4)) ∧ (¬ (zN (yP (sW x))) ≤ p2 → Q 0))) ∧ (¬ p1 = 0 → (((zN (yA (sW x))) ≤ p2 → Q (-4)) ∧ (¬ (zN (yA (sW x))) ≤ p2 → Q 0))))) ∧ (¬ 0 ≤ p2 → Q (-2)))))))
set_option maxHeartbeats 4000000 in
set_option maxRecDepth 100000 in
theorem kX2_layerError (l : Launch) (D : va_G) (I O : ClassId) (a : SA) (sz : Nat) (x : Sys) (p1 : Int32) (p2 : Int32) (Q : Int32 → Prop) (hw : qX2_layerError x p1 p2 Q) : Met l yX2_layerError wsX2_layerError rX2_layerError (mPc D I O [.ref a.1, .int p1, .int p2] (sysW I O a x) sz) (va_Qi (fun r (_ : Unit) => Q r) (mB D (va_A (sysW I O a x) sz) (fun _ => sysW I O a x)) (va_A (sysW I O a x) sz)) 0 0 (va_A (sysW I O a x) sz) := by
  refine m_start (by decide) rfl (Nat.le_of_ble_eq_true rfl) (fun p e s m below meth c ls H locs hx hb hr hml hts hown hlocks hnm hK hP hD hA hS hl => ?_)
  have hown : s.vm.findClass RX2 = some m.cls := hown
  have hl : lv_has ls 3 [(0, .ref a.1), (1, .int p1), (2, .int p2)] := hl
  have hiX0 : ∀ w ∈ wsX00, w ∈ wsX2_layerError := by decide +kernel
  have hiX2 : ∀ w ∈ wsX20, w ∈ wsX2_layerError := by decide +kernel
  have f0 := hts (.fieldLink RX2 10 "WellControl" "well" "LWellControl$Well;") (by decide +kernel)
  have f1 := hts (.fieldLink RX2 138 "WellControl$Column" "count" "I") (by decide +kernel)
  unfold qX2_layerError at hw
  refine lv_iload_n hx hb dX2_layerError_0 rfl (lv_at hl 1 rfl) ?_
  refine lv_iconst (v := 0) hx hb dX2_layerError_1 (by decide) ?_
  refine lv_iconst (v := 1) hx hb dX2_layerError_2 (by decide) ?_
  refine m0_i (mv_S (As := [.int p1, .int 0, .int 1]) (rest := []) ⟨hx, hb, hml, hown, hts⟩ (kX2_within l D I O H.size p1 0 1 _ hw) (va_cwS 3 hts gX2_layerError_X2_within rfl rfl rfl hdSX2_within ⟨(Nat.le_of_ble_eq_true rfl), (Nat.le_of_ble_eq_true rfl)⟩) hK (nil_P (D := D) (H := H)) (nil_D (A := va_A (sysW I O a x) sz)) rfl hl.1 rfl (Nat.le_of_ble_eq_true rfl) dX2_layerError_3 ⟨(Nat.le_of_ble_eq_true rfl), (Nat.le_of_ble_eq_true rfl)⟩) hP hD hS hA (fun r1 _ H locs hw hP hD hS => ?_)
  refine lv_if_eq (tgt := 13) hx hb dX2_layerError_6 (by decide) (fun c2 => ?_) (fun c2 => ?_)
  · have hw := hw.1 c2
    refine lv_bipush (v := (-2)) hx hb dX2_layerError_13 (by decide) ?_
    exact m_iret (u := ()) hx hb hr hlocks hS hP hD dX2_layerError_15 hw
  · have hw := hw.2 c2
    refine lv_iload_n hx hb dX2_layerError_9 rfl (lv_at hl 2 rfl) ?_
    refine lv_if_ge (tgt := 16) hx hb dX2_layerError_10 (by decide) (fun c3 => ?_) (fun c3 => ?_)
    · have hw := hw.1 c3
      refine lv_iload_n hx hb dX2_layerError_16 rfl (lv_at hl 2 rfl) ?_
      refine lv_aload_n hx hb dX2_layerError_17 rfl (lv_at hl 0 rfl) ?_
      refine va_get (ci := 2) (v := .ref a.2.2.2.1.1) (C := RX2) (T := TX2) (N := 5) hx hb hts hiX2 hown hK.1 hP 0 rfl rfl 0 (by decide) f0 (fun _ h9 => h9) rfl dX2_layerError_18 ?_
      refine lv_iload_n hx hb dX2_layerError_21 rfl (lv_at hl 1 rfl) ?_
      by_cases c4 : p1 = 0
      · have hw := hw.1 c4
        have hPc := va_P.mid (X := sysH I O a x) (wc := welB I a.2.2.2.1 (sW x)) (Y := welB I a.2.2.2.2.1 (sT x) ++ (welB I a.2.2.2.2.2.1 (s0 x) ++ (welB I a.2.2.2.2.2.2.1 (s1 x) ++ (welB I a.2.2.2.2.2.2.2.1 (s2 x) ++ welB I a.2.2.2.2.2.2.2.2 (s3 x))))) hP
        have hDc := va_D.mid (X := sysH I O a x) (wc := welB I a.2.2.2.1 (sW x)) (Y := welB I a.2.2.2.2.1 (sT x) ++ (welB I a.2.2.2.2.2.1 (s0 x) ++ (welB I a.2.2.2.2.2.2.1 (s1 x) ++ (welB I a.2.2.2.2.2.2.2.1 (s2 x) ++ welB I a.2.2.2.2.2.2.2.2 (s3 x))))) hD
        refine mc_r (sysH I O a x) (welB I a.2.2.2.2.1 (sT x) ++ (welB I a.2.2.2.2.2.1 (s0 x) ++ (welB I a.2.2.2.2.2.2.1 (s1 x) ++ (welB I a.2.2.2.2.2.2.2.1 (s2 x) ++ welB I a.2.2.2.2.2.2.2.2 (s3 x))))) (mv_V (As := [.int p1]) (rest := [.int p2]) ⟨hx, hb, hml, hown, hts⟩ (kX1_column_p l D I O a.2.2.2.1 H.size (sW x) p1 _ c4 hw) (cwV 1 hts gX2_layerError_X1_column rfl rfl rfl hdVX1_column ⟨(Nat.le_of_ble_eq_true rfl), (Nat.le_of_ble_eq_true rfl)⟩) hK hPc hDc 0 1 rfl rfl rfl rfl hl.1 rfl (Nat.le_of_ble_eq_true rfl) dX2_layerError_22 ⟨(Nat.le_of_ble_eq_true rfl), (Nat.le_of_ble_eq_true rfl)⟩) hP hD hS hA (fun _ H locs hw hP hD hS => ?_)
        have hP : va_P D vwCl (sysW I O a x) H := hP
        have hD : va_D (va_A (sysW I O a x) sz) (sysW I O a x) := hD
        refine va_get (ci := 0) (v := .int (zN (yP (sW x)))) (C := RX0) (T := TX0) (N := 6) hx hb hts hiX0 hown hK.1 hP 4 rfl rfl 4 (by decide) f1 (fun _ h9 => h9) rfl dX2_layerError_25 ?_
        refine lv_icmp_ge (tgt := 35) hx hb dX2_layerError_28 (by decide) (fun c5 => ?_) (fun c5 => ?_)
        · have hw := hw.1 c5
          refine lv_bipush (v := (-4)) hx hb dX2_layerError_35 (by decide) ?_
          exact m_iret (u := ()) hx hb hr hlocks hS hP hD dX2_layerError_37 hw
        · have hw := hw.2 c5
          refine lv_iconst (v := 0) hx hb dX2_layerError_31 (by decide) ?_
          refine lv_goto (tgt := 37) hx hb dX2_layerError_32 (by decide) ?_
          exact m_iret (u := ()) hx hb hr hlocks hS hP hD dX2_layerError_37 hw
      · have hw := hw.2 c4
        have hPc := va_P.mid (X := sysH I O a x) (wc := welB I a.2.2.2.1 (sW x)) (Y := welB I a.2.2.2.2.1 (sT x) ++ (welB I a.2.2.2.2.2.1 (s0 x) ++ (welB I a.2.2.2.2.2.2.1 (s1 x) ++ (welB I a.2.2.2.2.2.2.2.1 (s2 x) ++ welB I a.2.2.2.2.2.2.2.2 (s3 x))))) hP
        have hDc := va_D.mid (X := sysH I O a x) (wc := welB I a.2.2.2.1 (sW x)) (Y := welB I a.2.2.2.2.1 (sT x) ++ (welB I a.2.2.2.2.2.1 (s0 x) ++ (welB I a.2.2.2.2.2.2.1 (s1 x) ++ (welB I a.2.2.2.2.2.2.2.1 (s2 x) ++ welB I a.2.2.2.2.2.2.2.2 (s3 x))))) hD
        refine mc_r (sysH I O a x) (welB I a.2.2.2.2.1 (sT x) ++ (welB I a.2.2.2.2.2.1 (s0 x) ++ (welB I a.2.2.2.2.2.2.1 (s1 x) ++ (welB I a.2.2.2.2.2.2.2.1 (s2 x) ++ welB I a.2.2.2.2.2.2.2.2 (s3 x))))) (mv_V (As := [.int p1]) (rest := [.int p2]) ⟨hx, hb, hml, hown, hts⟩ (kX1_column_n l D I O a.2.2.2.1 H.size (sW x) p1 _ c4 hw) (cwV 1 hts gX2_layerError_X1_column rfl rfl rfl hdVX1_column ⟨(Nat.le_of_ble_eq_true rfl), (Nat.le_of_ble_eq_true rfl)⟩) hK hPc hDc 0 1 rfl rfl rfl rfl hl.1 rfl (Nat.le_of_ble_eq_true rfl) dX2_layerError_22 ⟨(Nat.le_of_ble_eq_true rfl), (Nat.le_of_ble_eq_true rfl)⟩) hP hD hS hA (fun _ H locs hw hP hD hS => ?_)
        have hP : va_P D vwCl (sysW I O a x) H := hP
        have hD : va_D (va_A (sysW I O a x) sz) (sysW I O a x) := hD
        refine va_get (ci := 0) (v := .int (zN (yA (sW x)))) (C := RX0) (T := TX0) (N := 6) hx hb hts hiX0 hown hK.1 hP 7 rfl rfl 4 (by decide) f1 (fun _ h9 => h9) rfl dX2_layerError_25 ?_
        refine lv_icmp_ge (tgt := 35) hx hb dX2_layerError_28 (by decide) (fun c6 => ?_) (fun c6 => ?_)
        · have hw := hw.1 c6
          refine lv_bipush (v := (-4)) hx hb dX2_layerError_35 (by decide) ?_
          exact m_iret (u := ()) hx hb hr hlocks hS hP hD dX2_layerError_37 hw
        · have hw := hw.2 c6
          refine lv_iconst (v := 0) hx hb dX2_layerError_31 (by decide) ?_
          refine lv_goto (tgt := 37) hx hb dX2_layerError_32 (by decide) ?_
          exact m_iret (u := ()) hx hb hr hlocks hS hP hD dX2_layerError_37 hw
    · have hw := hw.2 c3
      refine lv_bipush (v := (-2)) hx hb dX2_layerError_13 (by decide) ?_
      exact m_iret (u := ()) hx hb hr hlocks hS hP hD dX2_layerError_15 hw
def qX2_dropOldestSaved (x : Sys) (Q : Sys → Prop) : Prop := Q (sW x, sT x, s1 x, s2 x, s3 x, s0 x, 3, sE x)
set_option maxHeartbeats 4000000 in
set_option maxRecDepth 100000 in
theorem kX2_dropOldestSaved (l : Launch) (D : va_G) (I O : ClassId) (a : SA) (sz : Nat) (x : Sys) (Q : Sys → Prop) (hw : qX2_dropOldestSaved x Q) : Met l yX2_dropOldestSaved wsX2_dropOldestSaved rX2_dropOldestSaved (mPc D I O [.ref a.1] (sysW I O a x) sz) (va_Qv (fun (u : (Nat × Nat × WA × WA × WA × WA × WA × WA) × Sys) => Q u.2) (mB D (va_A (sysW I O a x) sz) (fun u => sysW I O (a.1, u.1) u.2)) (va_A (sysW I O a x) sz)) 0 0 (va_A (sysW I O a x) sz) := by
  refine m_start (by decide) rfl (Nat.le_of_ble_eq_true rfl) (fun p e s m below meth c ls H locs hx hb hr hml hts hown hlocks hnm hK hP hD hA hS hl => ?_)
  have hown : s.vm.findClass RX2 = some m.cls := hown
  have hl : lv_has ls 3 [(0, .ref a.1)] := hl
  have hiX2 : ∀ w ∈ wsX20, w ∈ wsX2_dropOldestSaved := by decide +kernel
  have f0 := hts (.fieldLink RX2 19 "WellControl" "saved" "[LWellControl$Well;") (by decide +kernel)
  have f1 := hts (.fieldLink RX2 23 "WellControl" "savedCount" "I") (by decide +kernel)
  unfold qX2_dropOldestSaved at hw
  refine lv_aload_n hx hb dX2_dropOldestSaved_0 rfl (lv_at hl 0 rfl) ?_
  refine va_get (ci := 2) (v := .ref a.2.1) (C := RX2) (T := TX2) (N := 5) hx hb hts hiX2 hown hK.1 hP 0 rfl rfl 2 (by decide) f0 (fun _ h9 => h9) rfl dX2_dropOldestSaved_1 ?_
  refine lv_iconst (v := 0) hx hb dX2_dropOldestSaved_4 (by decide) ?_
  refine va_aldq hx hb hK.1 hP 1 1 rfl rfl (vp_c 0 4 (by decide)) dX2_dropOldestSaved_5 ?_
  refine W.eq (g2 := F0 m 6 ls [.ref a.2.2.2.2.2.1.1]) rfl ?_
  refine lv_astore_n (lv' := [(1, .ref a.2.2.2.2.2.1.1), (0, .ref a.1)]) hx hb dX2_dropOldestSaved_6 rfl hl (by decide) rfl (fun ls hl => ?_)
  refine lv_iconst (v := 1) hx hb dX2_dropOldestSaved_7 (by decide) ?_
  refine lv_istore_n (lv' := [(2, .int 1), (1, .ref a.2.2.2.2.2.1.1), (0, .ref a.1)]) hx hb dX2_dropOldestSaved_8 rfl hl (by decide) rfl (fun ls hl => ?_)
  refine lv_iload_n hx hb dX2_dropOldestSaved_9 rfl (lv_at hl 0 rfl) ?_
  refine lv_iconst (v := 4) hx hb dX2_dropOldestSaved_10 (by decide) ?_
  refine lv_icmp_ge (tgt := 34) hx hb dX2_dropOldestSaved_11 (by decide) (fun c1 => ?_) (fun c1 => ?_)
  · exact absurd c1 (show ¬ ((4 : Int32) ≤ (1 : Int32)) from by decide)
  · refine lv_aload_n hx hb dX2_dropOldestSaved_14 rfl (lv_at hl 2 rfl) ?_
    refine va_get (ci := 2) (v := .ref a.2.1) (C := RX2) (T := TX2) (N := 5) hx hb hts hiX2 hown hK.1 hP 0 rfl rfl 2 (by decide) f0 (fun _ h9 => h9) rfl dX2_dropOldestSaved_15 ?_
    refine lv_iload_n hx hb dX2_dropOldestSaved_18 rfl (lv_at hl 0 rfl) ?_
    refine lv_iconst (v := 1) hx hb dX2_dropOldestSaved_19 (by decide) ?_
    refine lv_isub hx hb dX2_dropOldestSaved_20 ?_
    rw [show ((1 : Int32) - 1) = 0 from by decide]
    refine lv_aload_n hx hb dX2_dropOldestSaved_21 rfl (lv_at hl 2 rfl) ?_
    refine va_get (ci := 2) (v := .ref a.2.1) (C := RX2) (T := TX2) (N := 5) hx hb hts hiX2 hown hK.1 hP 0 rfl rfl 2 (by decide) f0 (fun _ h9 => h9) rfl dX2_dropOldestSaved_22 ?_
    refine lv_iload_n hx hb dX2_dropOldestSaved_25 rfl (lv_at hl 0 rfl) ?_
    refine va_aldq hx hb hK.1 hP 1 1 rfl rfl (vp_c 1 4 (by decide)) dX2_dropOldestSaved_26 ?_
    refine W.eq (g2 := F0 m 27 ls [.ref a.2.2.2.2.2.2.1.1, .int 0, .ref a.2.1]) rfl ?_
    refine va_astq hx hb hK.1 hP hD hS 1 1 24 1 rfl rfl rfl rfl (vp_c 0 4 (by decide)) dX2_dropOldestSaved_27 (fun H locs hP hD hS => ?_)
    rw [show va_up (svF a.2.2.2.2.2.1.1 a.2.2.2.2.2.2.1.1 a.2.2.2.2.2.2.2.1.1 a.2.2.2.2.2.2.2.2.1) (Int32.toNatClampNeg 0) (some a.2.2.2.2.2.2.1.1) = svF a.2.2.2.2.2.2.1.1 a.2.2.2.2.2.2.1.1 a.2.2.2.2.2.2.2.1.1 a.2.2.2.2.2.2.2.2.1 from svF_up0 _ _ _ _ _] at hP hD
    have hP : va_P D vwCl (sysQ I O a.1 a.2.1 a.2.2.1 a.2.2.2.1.1 a.2.2.2.2.1.1 a.2.2.2.2.2.2.1.1 a.2.2.2.2.2.2.1.1 a.2.2.2.2.2.2.2.1.1 a.2.2.2.2.2.2.2.2.1 (sC x) (sE x) ++ (welB I a.2.2.2.1 (sW x) ++ (welB I a.2.2.2.2.1 (sT x) ++ (welB I a.2.2.2.2.2.1 (s0 x) ++ (welB I a.2.2.2.2.2.2.1 (s1 x) ++ (welB I a.2.2.2.2.2.2.2.1 (s2 x) ++ welB I a.2.2.2.2.2.2.2.2 (s3 x))))))) H := hP
    have hD : va_D (va_A (sysW I O a x) sz) (sysQ I O a.1 a.2.1 a.2.2.1 a.2.2.2.1.1 a.2.2.2.2.1.1 a.2.2.2.2.2.2.1.1 a.2.2.2.2.2.2.1.1 a.2.2.2.2.2.2.2.1.1 a.2.2.2.2.2.2.2.2.1 (sC x) (sE x) ++ (welB I a.2.2.2.1 (sW x) ++ (welB I a.2.2.2.2.1 (sT x) ++ (welB I a.2.2.2.2.2.1 (s0 x) ++ (welB I a.2.2.2.2.2.2.1 (s1 x) ++ (welB I a.2.2.2.2.2.2.2.1 (s2 x) ++ welB I a.2.2.2.2.2.2.2.2 (s3 x))))))) := hD
    refine lv_iinc (v := 2) (lv' := [(2, .int 2), (1, .ref a.2.2.2.2.2.1.1), (0, .ref a.1)]) hx hb dX2_dropOldestSaved_28 hl (k := 0) rfl (by decide) (by decide) rfl (fun ls hl => ?_)
    refine lv_goto (tgt := 9) hx hb dX2_dropOldestSaved_31 (by decide) ?_
    refine lv_iload_n hx hb dX2_dropOldestSaved_9 rfl (lv_at hl 0 rfl) ?_
    refine lv_iconst (v := 4) hx hb dX2_dropOldestSaved_10 (by decide) ?_
    refine lv_icmp_ge (tgt := 34) hx hb dX2_dropOldestSaved_11 (by decide) (fun c2 => ?_) (fun c2 => ?_)
    · exact absurd c2 (show ¬ ((4 : Int32) ≤ (2 : Int32)) from by decide)
    · refine lv_aload_n hx hb dX2_dropOldestSaved_14 rfl (lv_at hl 2 rfl) ?_
      refine va_get (ci := 2) (v := .ref a.2.1) (C := RX2) (T := TX2) (N := 5) hx hb hts hiX2 hown hK.1 hP 0 rfl rfl 2 (by decide) f0 (fun _ h9 => h9) rfl dX2_dropOldestSaved_15 ?_
      refine lv_iload_n hx hb dX2_dropOldestSaved_18 rfl (lv_at hl 0 rfl) ?_
      refine lv_iconst (v := 1) hx hb dX2_dropOldestSaved_19 (by decide) ?_
      refine lv_isub hx hb dX2_dropOldestSaved_20 ?_
      rw [show ((2 : Int32) - 1) = 1 from by decide]
      refine lv_aload_n hx hb dX2_dropOldestSaved_21 rfl (lv_at hl 2 rfl) ?_
      refine va_get (ci := 2) (v := .ref a.2.1) (C := RX2) (T := TX2) (N := 5) hx hb hts hiX2 hown hK.1 hP 0 rfl rfl 2 (by decide) f0 (fun _ h9 => h9) rfl dX2_dropOldestSaved_22 ?_
      refine lv_iload_n hx hb dX2_dropOldestSaved_25 rfl (lv_at hl 0 rfl) ?_
      refine va_aldq hx hb hK.1 hP 1 1 rfl rfl (vp_c 2 4 (by decide)) dX2_dropOldestSaved_26 ?_
      refine W.eq (g2 := F0 m 27 ls [.ref a.2.2.2.2.2.2.2.1.1, .int 1, .ref a.2.1]) rfl ?_
      refine va_astq hx hb hK.1 hP hD hS 1 1 31 1 rfl rfl rfl rfl (vp_c 1 4 (by decide)) dX2_dropOldestSaved_27 (fun H locs hP hD hS => ?_)
      rw [show va_up (svF a.2.2.2.2.2.2.1.1 a.2.2.2.2.2.2.1.1 a.2.2.2.2.2.2.2.1.1 a.2.2.2.2.2.2.2.2.1) (Int32.toNatClampNeg 1) (some a.2.2.2.2.2.2.2.1.1) = svF a.2.2.2.2.2.2.1.1 a.2.2.2.2.2.2.2.1.1 a.2.2.2.2.2.2.2.1.1 a.2.2.2.2.2.2.2.2.1 from svF_up1 _ _ _ _ _] at hP hD
      have hP : va_P D vwCl (sysQ I O a.1 a.2.1 a.2.2.1 a.2.2.2.1.1 a.2.2.2.2.1.1 a.2.2.2.2.2.2.1.1 a.2.2.2.2.2.2.2.1.1 a.2.2.2.2.2.2.2.1.1 a.2.2.2.2.2.2.2.2.1 (sC x) (sE x) ++ (welB I a.2.2.2.1 (sW x) ++ (welB I a.2.2.2.2.1 (sT x) ++ (welB I a.2.2.2.2.2.1 (s0 x) ++ (welB I a.2.2.2.2.2.2.1 (s1 x) ++ (welB I a.2.2.2.2.2.2.2.1 (s2 x) ++ welB I a.2.2.2.2.2.2.2.2 (s3 x))))))) H := hP
      have hD : va_D (va_A (sysW I O a x) sz) (sysQ I O a.1 a.2.1 a.2.2.1 a.2.2.2.1.1 a.2.2.2.2.1.1 a.2.2.2.2.2.2.1.1 a.2.2.2.2.2.2.2.1.1 a.2.2.2.2.2.2.2.1.1 a.2.2.2.2.2.2.2.2.1 (sC x) (sE x) ++ (welB I a.2.2.2.1 (sW x) ++ (welB I a.2.2.2.2.1 (sT x) ++ (welB I a.2.2.2.2.2.1 (s0 x) ++ (welB I a.2.2.2.2.2.2.1 (s1 x) ++ (welB I a.2.2.2.2.2.2.2.1 (s2 x) ++ welB I a.2.2.2.2.2.2.2.2 (s3 x))))))) := hD
      refine lv_iinc (v := 3) (lv' := [(2, .int 3), (1, .ref a.2.2.2.2.2.1.1), (0, .ref a.1)]) hx hb dX2_dropOldestSaved_28 hl (k := 0) rfl (by decide) (by decide) rfl (fun ls hl => ?_)
      refine lv_goto (tgt := 9) hx hb dX2_dropOldestSaved_31 (by decide) ?_
      refine lv_iload_n hx hb dX2_dropOldestSaved_9 rfl (lv_at hl 0 rfl) ?_
      refine lv_iconst (v := 4) hx hb dX2_dropOldestSaved_10 (by decide) ?_
      refine lv_icmp_ge (tgt := 34) hx hb dX2_dropOldestSaved_11 (by decide) (fun c3 => ?_) (fun c3 => ?_)
      · exact absurd c3 (show ¬ ((4 : Int32) ≤ (3 : Int32)) from by decide)
      · refine lv_aload_n hx hb dX2_dropOldestSaved_14 rfl (lv_at hl 2 rfl) ?_
        refine va_get (ci := 2) (v := .ref a.2.1) (C := RX2) (T := TX2) (N := 5) hx hb hts hiX2 hown hK.1 hP 0 rfl rfl 2 (by decide) f0 (fun _ h9 => h9) rfl dX2_dropOldestSaved_15 ?_
        refine lv_iload_n hx hb dX2_dropOldestSaved_18 rfl (lv_at hl 0 rfl) ?_
        refine lv_iconst (v := 1) hx hb dX2_dropOldestSaved_19 (by decide) ?_
        refine lv_isub hx hb dX2_dropOldestSaved_20 ?_
        rw [show ((3 : Int32) - 1) = 2 from by decide]
        refine lv_aload_n hx hb dX2_dropOldestSaved_21 rfl (lv_at hl 2 rfl) ?_
        refine va_get (ci := 2) (v := .ref a.2.1) (C := RX2) (T := TX2) (N := 5) hx hb hts hiX2 hown hK.1 hP 0 rfl rfl 2 (by decide) f0 (fun _ h9 => h9) rfl dX2_dropOldestSaved_22 ?_
        refine lv_iload_n hx hb dX2_dropOldestSaved_25 rfl (lv_at hl 0 rfl) ?_
        refine va_aldq hx hb hK.1 hP 1 1 rfl rfl (vp_c 3 4 (by decide)) dX2_dropOldestSaved_26 ?_
        refine W.eq (g2 := F0 m 27 ls [.ref a.2.2.2.2.2.2.2.2.1, .int 2, .ref a.2.1]) rfl ?_
        refine va_astq hx hb hK.1 hP hD hS 1 1 38 1 rfl rfl rfl rfl (vp_c 2 4 (by decide)) dX2_dropOldestSaved_27 (fun H locs hP hD hS => ?_)
        rw [show va_up (svF a.2.2.2.2.2.2.1.1 a.2.2.2.2.2.2.2.1.1 a.2.2.2.2.2.2.2.1.1 a.2.2.2.2.2.2.2.2.1) (Int32.toNatClampNeg 2) (some a.2.2.2.2.2.2.2.2.1) = svF a.2.2.2.2.2.2.1.1 a.2.2.2.2.2.2.2.1.1 a.2.2.2.2.2.2.2.2.1 a.2.2.2.2.2.2.2.2.1 from svF_up2 _ _ _ _ _] at hP hD
        have hP : va_P D vwCl (sysQ I O a.1 a.2.1 a.2.2.1 a.2.2.2.1.1 a.2.2.2.2.1.1 a.2.2.2.2.2.2.1.1 a.2.2.2.2.2.2.2.1.1 a.2.2.2.2.2.2.2.2.1 a.2.2.2.2.2.2.2.2.1 (sC x) (sE x) ++ (welB I a.2.2.2.1 (sW x) ++ (welB I a.2.2.2.2.1 (sT x) ++ (welB I a.2.2.2.2.2.1 (s0 x) ++ (welB I a.2.2.2.2.2.2.1 (s1 x) ++ (welB I a.2.2.2.2.2.2.2.1 (s2 x) ++ welB I a.2.2.2.2.2.2.2.2 (s3 x))))))) H := hP
        have hD : va_D (va_A (sysW I O a x) sz) (sysQ I O a.1 a.2.1 a.2.2.1 a.2.2.2.1.1 a.2.2.2.2.1.1 a.2.2.2.2.2.2.1.1 a.2.2.2.2.2.2.2.1.1 a.2.2.2.2.2.2.2.2.1 a.2.2.2.2.2.2.2.2.1 (sC x) (sE x) ++ (welB I a.2.2.2.1 (sW x) ++ (welB I a.2.2.2.2.1 (sT x) ++ (welB I a.2.2.2.2.2.1 (s0 x) ++ (welB I a.2.2.2.2.2.2.1 (s1 x) ++ (welB I a.2.2.2.2.2.2.2.1 (s2 x) ++ welB I a.2.2.2.2.2.2.2.2 (s3 x))))))) := hD
        refine lv_iinc (v := 4) (lv' := [(2, .int 4), (1, .ref a.2.2.2.2.2.1.1), (0, .ref a.1)]) hx hb dX2_dropOldestSaved_28 hl (k := 0) rfl (by decide) (by decide) rfl (fun ls hl => ?_)
        refine lv_goto (tgt := 9) hx hb dX2_dropOldestSaved_31 (by decide) ?_
        refine lv_iload_n hx hb dX2_dropOldestSaved_9 rfl (lv_at hl 0 rfl) ?_
        refine lv_iconst (v := 4) hx hb dX2_dropOldestSaved_10 (by decide) ?_
        refine lv_icmp_ge (tgt := 34) hx hb dX2_dropOldestSaved_11 (by decide) (fun c4 => ?_) (fun c4 => ?_)
        · refine lv_aload_n hx hb dX2_dropOldestSaved_34 rfl (lv_at hl 2 rfl) ?_
          refine va_get (ci := 2) (v := .ref a.2.1) (C := RX2) (T := TX2) (N := 5) hx hb hts hiX2 hown hK.1 hP 0 rfl rfl 2 (by decide) f0 (fun _ h9 => h9) rfl dX2_dropOldestSaved_35 ?_
          refine lv_iconst (v := 3) hx hb dX2_dropOldestSaved_38 (by decide) ?_
          refine lv_aload_n hx hb dX2_dropOldestSaved_39 rfl (lv_at hl 1 rfl) ?_
          refine va_astq hx hb hK.1 hP hD hS 1 1 17 1 rfl rfl rfl rfl (vp_c 3 4 (by decide)) dX2_dropOldestSaved_40 (fun H locs hP hD hS => ?_)
          rw [show va_up (svF a.2.2.2.2.2.2.1.1 a.2.2.2.2.2.2.2.1.1 a.2.2.2.2.2.2.2.2.1 a.2.2.2.2.2.2.2.2.1) (Int32.toNatClampNeg 3) (some a.2.2.2.2.2.1.1) = svF a.2.2.2.2.2.2.1.1 a.2.2.2.2.2.2.2.1.1 a.2.2.2.2.2.2.2.2.1 a.2.2.2.2.2.1.1 from svF_up3 _ _ _ _ _] at hP hD
          have hP : va_P D vwCl (sysQ I O a.1 a.2.1 a.2.2.1 a.2.2.2.1.1 a.2.2.2.2.1.1 a.2.2.2.2.2.2.1.1 a.2.2.2.2.2.2.2.1.1 a.2.2.2.2.2.2.2.2.1 a.2.2.2.2.2.1.1 (sC x) (sE x) ++ (welB I a.2.2.2.1 (sW x) ++ (welB I a.2.2.2.2.1 (sT x) ++ (welB I a.2.2.2.2.2.1 (s0 x) ++ (welB I a.2.2.2.2.2.2.1 (s1 x) ++ (welB I a.2.2.2.2.2.2.2.1 (s2 x) ++ welB I a.2.2.2.2.2.2.2.2 (s3 x))))))) H := hP
          have hD : va_D (va_A (sysW I O a x) sz) (sysQ I O a.1 a.2.1 a.2.2.1 a.2.2.2.1.1 a.2.2.2.2.1.1 a.2.2.2.2.2.2.1.1 a.2.2.2.2.2.2.2.1.1 a.2.2.2.2.2.2.2.2.1 a.2.2.2.2.2.1.1 (sC x) (sE x) ++ (welB I a.2.2.2.1 (sW x) ++ (welB I a.2.2.2.2.1 (sT x) ++ (welB I a.2.2.2.2.2.1 (s0 x) ++ (welB I a.2.2.2.2.2.2.1 (s1 x) ++ (welB I a.2.2.2.2.2.2.2.1 (s2 x) ++ welB I a.2.2.2.2.2.2.2.2 (s3 x))))))) := hD
          refine lv_aload_n hx hb dX2_dropOldestSaved_41 rfl (lv_at hl 2 rfl) ?_
          refine lv_iconst (v := 3) hx hb dX2_dropOldestSaved_42 (by decide) ?_
          refine va_put (ci := 2) (v := .int 3) (ty := .int) (C := RX2) (T := TX2) (N := 5) hx hb hts hiX2 tyX2 tyX2_ok nmX2 hown hK.1 hP hD hS 0 rfl rfl 3 (by decide) f1 (fun _ h9 => h9) rfl (by decide +kernel) rfl rfl (Nat.le_of_ble_eq_true rfl) dX2_dropOldestSaved_43 (fun H locs hP hD hS => ?_)
          have hP : va_P D vwCl (sysQ I O a.1 a.2.1 a.2.2.1 a.2.2.2.1.1 a.2.2.2.2.1.1 a.2.2.2.2.2.2.1.1 a.2.2.2.2.2.2.2.1.1 a.2.2.2.2.2.2.2.2.1 a.2.2.2.2.2.1.1 3 (sE x) ++ (welB I a.2.2.2.1 (sW x) ++ (welB I a.2.2.2.2.1 (sT x) ++ (welB I a.2.2.2.2.2.1 (s0 x) ++ (welB I a.2.2.2.2.2.2.1 (s1 x) ++ (welB I a.2.2.2.2.2.2.2.1 (s2 x) ++ welB I a.2.2.2.2.2.2.2.2 (s3 x))))))) H := hP
          have hD : va_D (va_A (sysW I O a x) sz) (sysQ I O a.1 a.2.1 a.2.2.1 a.2.2.2.1.1 a.2.2.2.2.1.1 a.2.2.2.2.2.2.1.1 a.2.2.2.2.2.2.2.1.1 a.2.2.2.2.2.2.2.2.1 a.2.2.2.2.2.1.1 3 (sE x) ++ (welB I a.2.2.2.1 (sW x) ++ (welB I a.2.2.2.2.1 (sT x) ++ (welB I a.2.2.2.2.2.1 (s0 x) ++ (welB I a.2.2.2.2.2.2.1 (s1 x) ++ (welB I a.2.2.2.2.2.2.2.1 (s2 x) ++ welB I a.2.2.2.2.2.2.2.2 (s3 x))))))) := hD
          have hP := hP.sub (ws' := sysW I O (a.1, (a.2.1, a.2.2.1, a.2.2.2.1, a.2.2.2.2.1, a.2.2.2.2.2.2.1, a.2.2.2.2.2.2.2.1, a.2.2.2.2.2.2.2.2, a.2.2.2.2.2.1)) (sW x, sT x, s1 x, s2 x, s3 x, s0 x, 3, sE x)) [0, 1, 2, 3, 4, 5, 6, 7, 8, 9, 10, 11, 12, 13, 14, 15, 16, 24, 25, 26, 27, 28, 29, 30, 31, 32, 33, 34, 35, 36, 37, 38, 39, 40, 41, 42, 43, 44, 17, 18, 19, 20, 21, 22, 23] rfl
          have hD := hD.sub (ws' := sysW I O (a.1, (a.2.1, a.2.2.1, a.2.2.2.1, a.2.2.2.2.1, a.2.2.2.2.2.2.1, a.2.2.2.2.2.2.2.1, a.2.2.2.2.2.2.2.2, a.2.2.2.2.2.1)) (sW x, sT x, s1 x, s2 x, s3 x, s0 x, 3, sE x)) [0, 1, 2, 3, 4, 5, 6, 7, 8, 9, 10, 11, 12, 13, 14, 15, 16, 24, 25, 26, 27, 28, 29, 30, 31, 32, 33, 34, 35, 36, 37, 38, 39, 40, 41, 42, 43, 44, 17, 18, 19, 20, 21, 22, 23] (by decide) rfl
          exact m_vret (u := ((a.2.1, a.2.2.1, a.2.2.2.1, a.2.2.2.2.1, a.2.2.2.2.2.2.1, a.2.2.2.2.2.2.2.1, a.2.2.2.2.2.2.2.2, a.2.2.2.2.2.1), (sW x, sT x, s1 x, s2 x, s3 x, s0 x, 3, sE x))) hx hb hr hlocks hS hP hD dX2_dropOldestSaved_46 hw
        · exact absurd (show (4 : Int32) ≤ (4 : Int32) from by decide) c4
def qX2_save (x : Sys) (Q : Sys → Prop) : Prop := (((sC x) < 4 → (((sC x) = 0 → (qX1_copyFrom (sW x) (s0 x) (fun u3 => Q (sW x, sT x, u3, s1 x, s2 x, s3 x, (sC x) + 1, sE x)))) ∧ ((sC x) = 1 → (qX1_copyFrom (sW x) (s1 x) (fun u4 => Q (sW x, sT x, s0 x, u4, s2 x, s3 x, (sC x) + 1, sE x)))) ∧ ((sC x) = 2 → (qX1_copyFrom (sW x) (s2 x) (fun u5 => Q (sW x, sT x, s0 x, s1 x, u5, s3 x, (sC x) + 1, sE x)))) ∧ ((sC x) = 3 → (qX1_copyFrom (sW x) (s3 x) (fun u6 => Q (sW x, sT x, s0 x, s1 x, s2 x, u6, (sC x) + 1, sE x)))) ∧ ((sC x) = 0 ∨ (sC x) = 1 ∨ (sC x) = 2 ∨ (sC x) = 3))) ∧ (¬ (sC x) < 4 → (qX2_dropOldestSaved x (fun u7 => (((sC u7) = 0 → (qX1_copyFrom (sW u7) (s0 u7) (fun u9 => Q (sW u7, sT u7, u9, s1 u7, s2 u7, s3 u7, (sC u7) + 1, sE u7)))) ∧ ((sC u7) = 1 → (qX1_copyFrom (sW u7) (s1 u7) (fun u10 => Q (sW u7, sT u7, s0 u7, u10, s2 u7, s3 u7, (sC u7) + 1, sE u7)))) ∧ ((sC u7) = 2 → (qX1_copyFrom (sW u7) (s2 u7) (fun u11 => Q (sW u7, sT u7, s0 u7, s1 u7, u11, s3 u7, (sC u7) + 1, sE u7)))) ∧ ((sC u7) = 3 → (qX1_copyFrom (sW u7) (s3 u7) (fun u12 => Q (sW u7, sT u7, s0 u7, s1 u7, s2 u7, u12, (sC u7) + 1, sE u7)))) ∧ ((sC u7) = 0 ∨ (sC u7) = 1 ∨ (sC u7) = 2 ∨ (sC u7) = 3))))))
set_option maxHeartbeats 4000000 in
set_option maxRecDepth 100000 in
theorem kX2_save (l : Launch) (D : va_G) (I O : ClassId) (a : SA) (sz : Nat) (x : Sys) (Q : Sys → Prop) (hw : qX2_save x Q) : Met l yX2_save wsX2_save rX2_save (mPc D I O [.ref a.1] (sysW I O a x) sz) (va_Qv (fun (u : (Nat × Nat × WA × WA × WA × WA × WA × WA) × Sys) => Q u.2) (mB D (va_A (sysW I O a x) sz) (fun u => sysW I O (a.1, u.1) u.2)) (va_A (sysW I O a x) sz)) 0 0 (va_A (sysW I O a x) sz) := by
  refine m_start (by decide) rfl (Nat.le_of_ble_eq_true rfl) (fun p e s m below meth c ls H locs hx hb hr hml hts hown hlocks hnm hK hP hD hA hS hl => ?_)
  have hown : s.vm.findClass RX2 = some m.cls := hown
  have hl : lv_has ls 1 [(0, .ref a.1)] := hl
  have hiX2 : ∀ w ∈ wsX20, w ∈ wsX2_save := by decide +kernel
  have f0 := hts (.fieldLink RX2 23 "WellControl" "savedCount" "I") (by decide +kernel)
  have f1 := hts (.fieldLink RX2 19 "WellControl" "saved" "[LWellControl$Well;") (by decide +kernel)
  have f2 := hts (.fieldLink RX2 10 "WellControl" "well" "LWellControl$Well;") (by decide +kernel)
  unfold qX2_save at hw
  refine lv_aload_n hx hb dX2_save_0 rfl (lv_at hl 0 rfl) ?_
  refine va_get (ci := 2) (v := .int (sC x)) (C := RX2) (T := TX2) (N := 5) hx hb hts hiX2 hown hK.1 hP 0 rfl rfl 3 (by decide) f0 (fun _ h9 => h9) rfl dX2_save_1 ?_
  refine lv_iconst (v := 4) hx hb dX2_save_4 (by decide) ?_
  refine lv_icmp_lt (tgt := 12) hx hb dX2_save_5 (by decide) (fun c1 => ?_) (fun c1 => ?_)
  · have hw := hw.1 c1
    refine lv_aload_n hx hb dX2_save_12 rfl (lv_at hl 0 rfl) ?_
    refine va_get (ci := 2) (v := .ref a.2.1) (C := RX2) (T := TX2) (N := 5) hx hb hts hiX2 hown hK.1 hP 0 rfl rfl 2 (by decide) f1 (fun _ h9 => h9) rfl dX2_save_13 ?_
    refine lv_aload_n hx hb dX2_save_16 rfl (lv_at hl 0 rfl) ?_
    refine va_get (ci := 2) (v := .int (sC x)) (C := RX2) (T := TX2) (N := 5) hx hb hts hiX2 hown hK.1 hP 0 rfl rfl 3 (by decide) f0 (fun _ h9 => h9) rfl dX2_save_17 ?_
    rcases hw.2.2.2.2 with c2 | c2 | c2 | c2
    · have hw := hw.1 c2
      refine va_aldq hx hb hK.1 hP 1 1 rfl rfl (show vp_in (sC x) 4 from by rw [c2]; exact vp_c 0 4 (by decide)) dX2_save_20 ?_
      refine W.eq (g2 := F0 m 21 ls [.ref a.2.2.2.2.2.1.1]) (by rw [c2]; rfl) ?_
      refine lv_aload_n hx hb dX2_save_21 rfl (lv_at hl 0 rfl) ?_
      refine va_get (ci := 2) (v := .ref a.2.2.2.1.1) (C := RX2) (T := TX2) (N := 5) hx hb hts hiX2 hown hK.1 hP 0 rfl rfl 0 (by decide) f2 (fun _ h9 => h9) rfl dX2_save_22 ?_
      have hP := hP.sub (ws' := (welB I a.2.2.2.1 (sW x) ++ welB I a.2.2.2.2.2.1 (s0 x)) ++ (sysH I O a x ++ (welB I a.2.2.2.2.1 (sT x) ++ (welB I a.2.2.2.2.2.2.1 (s1 x) ++ (welB I a.2.2.2.2.2.2.2.1 (s2 x) ++ welB I a.2.2.2.2.2.2.2.2 (s3 x)))))) [3, 4, 5, 6, 7, 8, 9, 17, 18, 19, 20, 21, 22, 23, 0, 1, 2, 10, 11, 12, 13, 14, 15, 16, 24, 25, 26, 27, 28, 29, 30, 31, 32, 33, 34, 35, 36, 37, 38, 39, 40, 41, 42, 43, 44] rfl
      have hD := hD.sub (ws' := (welB I a.2.2.2.1 (sW x) ++ welB I a.2.2.2.2.2.1 (s0 x)) ++ (sysH I O a x ++ (welB I a.2.2.2.2.1 (sT x) ++ (welB I a.2.2.2.2.2.2.1 (s1 x) ++ (welB I a.2.2.2.2.2.2.2.1 (s2 x) ++ welB I a.2.2.2.2.2.2.2.2 (s3 x)))))) [3, 4, 5, 6, 7, 8, 9, 17, 18, 19, 20, 21, 22, 23, 0, 1, 2, 10, 11, 12, 13, 14, 15, 16, 24, 25, 26, 27, 28, 29, 30, 31, 32, 33, 34, 35, 36, 37, 38, 39, 40, 41, 42, 43, 44] (by decide) rfl
      have hPc := va_P.mid (X := []) (wc := welB I a.2.2.2.1 (sW x) ++ welB I a.2.2.2.2.2.1 (s0 x)) (Y := sysH I O a x ++ (welB I a.2.2.2.2.1 (sT x) ++ (welB I a.2.2.2.2.2.2.1 (s1 x) ++ (welB I a.2.2.2.2.2.2.2.1 (s2 x) ++ welB I a.2.2.2.2.2.2.2.2 (s3 x))))) hP
      have hDc := va_D.mid (X := []) (wc := welB I a.2.2.2.1 (sW x) ++ welB I a.2.2.2.2.2.1 (s0 x)) (Y := sysH I O a x ++ (welB I a.2.2.2.2.1 (sT x) ++ (welB I a.2.2.2.2.2.2.1 (s1 x) ++ (welB I a.2.2.2.2.2.2.2.1 (s2 x) ++ welB I a.2.2.2.2.2.2.2.2 (s3 x))))) hD
      refine mc_v ([]) (sysH I O a x ++ (welB I a.2.2.2.2.1 (sT x) ++ (welB I a.2.2.2.2.2.2.1 (s1 x) ++ (welB I a.2.2.2.2.2.2.2.1 (s2 x) ++ welB I a.2.2.2.2.2.2.2.2 (s3 x))))) (mv_V (As := [.ref a.2.2.2.1.1]) (rest := []) ⟨hx, hb, hml, hown, hts⟩ (kX1_copyFrom l D I O a.2.2.2.1 a.2.2.2.2.2.1 H.size (sW x) (s0 x) _ hw) (cwV 1 hts gX2_save_X1_copyFrom rfl rfl rfl hdVX1_copyFrom ⟨(Nat.le_of_ble_eq_true rfl), (Nat.le_of_ble_eq_true rfl)⟩) hK hPc hDc 7 1 rfl rfl rfl rfl hl.1 rfl (Nat.le_of_ble_eq_true rfl) dX2_save_25 ⟨(Nat.le_of_ble_eq_true rfl), (Nat.le_of_ble_eq_true rfl)⟩) hP hD hS hA (fun u3 H locs hw hP hD hS => ?_)
      have hP := hP.sub (ws' := sysW I O a (sW x, sT x, u3, s1 x, s2 x, s3 x, sC x, sE x)) [14, 15, 16, 0, 1, 2, 3, 4, 5, 6, 17, 18, 19, 20, 21, 22, 23, 7, 8, 9, 10, 11, 12, 13, 24, 25, 26, 27, 28, 29, 30, 31, 32, 33, 34, 35, 36, 37, 38, 39, 40, 41, 42, 43, 44] rfl
      have hD := hD.sub (ws' := sysW I O a (sW x, sT x, u3, s1 x, s2 x, s3 x, sC x, sE x)) [14, 15, 16, 0, 1, 2, 3, 4, 5, 6, 17, 18, 19, 20, 21, 22, 23, 7, 8, 9, 10, 11, 12, 13, 24, 25, 26, 27, 28, 29, 30, 31, 32, 33, 34, 35, 36, 37, 38, 39, 40, 41, 42, 43, 44] (by decide) rfl
      have hP : va_P D vwCl (sysW I O a (sW x, sT x, u3, s1 x, s2 x, s3 x, sC x, sE x)) H := hP
      have hD : va_D (va_A (sysW I O a x) sz) (sysW I O a (sW x, sT x, u3, s1 x, s2 x, s3 x, sC x, sE x)) := hD
      refine lv_aload_n hx hb dX2_save_28 rfl (lv_at hl 0 rfl) ?_
      refine lv_dup hx hb dX2_save_29 rfl ?_
      refine va_get (ci := 2) (v := .int (sC x)) (C := RX2) (T := TX2) (N := 5) hx hb hts hiX2 hown hK.1 hP 0 rfl rfl 3 (by decide) f0 (fun _ h9 => h9) rfl dX2_save_30 ?_
      refine lv_iconst (v := 1) hx hb dX2_save_33 (by decide) ?_
      refine lv_iadd hx hb dX2_save_34 ?_
      refine va_put (ci := 2) (v := .int ((sC x) + 1)) (ty := .int) (C := RX2) (T := TX2) (N := 5) hx hb hts hiX2 tyX2 tyX2_ok nmX2 hown hK.1 hP hD hS 0 rfl rfl 3 (by decide) f0 (fun _ h9 => h9) rfl (by decide +kernel) rfl rfl (Nat.le_of_ble_eq_true rfl) dX2_save_35 (fun H locs hP hD hS => ?_)
      have hP : va_P D vwCl (sysW I O a (sW x, sT x, u3, s1 x, s2 x, s3 x, (sC x) + 1, sE x)) H := hP
      have hD : va_D (va_A (sysW I O a x) sz) (sysW I O a (sW x, sT x, u3, s1 x, s2 x, s3 x, (sC x) + 1, sE x)) := hD
      exact m_vret (u := (a.2, (sW x, sT x, u3, s1 x, s2 x, s3 x, (sC x) + 1, sE x))) hx hb hr hlocks hS hP hD dX2_save_38 hw
    · have hw := hw.2.1 c2
      refine va_aldq hx hb hK.1 hP 1 1 rfl rfl (show vp_in (sC x) 4 from by rw [c2]; exact vp_c 1 4 (by decide)) dX2_save_20 ?_
      refine W.eq (g2 := F0 m 21 ls [.ref a.2.2.2.2.2.2.1.1]) (by rw [c2]; rfl) ?_
      refine lv_aload_n hx hb dX2_save_21 rfl (lv_at hl 0 rfl) ?_
      refine va_get (ci := 2) (v := .ref a.2.2.2.1.1) (C := RX2) (T := TX2) (N := 5) hx hb hts hiX2 hown hK.1 hP 0 rfl rfl 0 (by decide) f2 (fun _ h9 => h9) rfl dX2_save_22 ?_
      have hP := hP.sub (ws' := (welB I a.2.2.2.1 (sW x) ++ welB I a.2.2.2.2.2.2.1 (s1 x)) ++ (sysH I O a x ++ (welB I a.2.2.2.2.1 (sT x) ++ (welB I a.2.2.2.2.2.1 (s0 x) ++ (welB I a.2.2.2.2.2.2.2.1 (s2 x) ++ welB I a.2.2.2.2.2.2.2.2 (s3 x)))))) [3, 4, 5, 6, 7, 8, 9, 24, 25, 26, 27, 28, 29, 30, 0, 1, 2, 10, 11, 12, 13, 14, 15, 16, 17, 18, 19, 20, 21, 22, 23, 31, 32, 33, 34, 35, 36, 37, 38, 39, 40, 41, 42, 43, 44] rfl
      have hD := hD.sub (ws' := (welB I a.2.2.2.1 (sW x) ++ welB I a.2.2.2.2.2.2.1 (s1 x)) ++ (sysH I O a x ++ (welB I a.2.2.2.2.1 (sT x) ++ (welB I a.2.2.2.2.2.1 (s0 x) ++ (welB I a.2.2.2.2.2.2.2.1 (s2 x) ++ welB I a.2.2.2.2.2.2.2.2 (s3 x)))))) [3, 4, 5, 6, 7, 8, 9, 24, 25, 26, 27, 28, 29, 30, 0, 1, 2, 10, 11, 12, 13, 14, 15, 16, 17, 18, 19, 20, 21, 22, 23, 31, 32, 33, 34, 35, 36, 37, 38, 39, 40, 41, 42, 43, 44] (by decide) rfl
      have hPc := va_P.mid (X := []) (wc := welB I a.2.2.2.1 (sW x) ++ welB I a.2.2.2.2.2.2.1 (s1 x)) (Y := sysH I O a x ++ (welB I a.2.2.2.2.1 (sT x) ++ (welB I a.2.2.2.2.2.1 (s0 x) ++ (welB I a.2.2.2.2.2.2.2.1 (s2 x) ++ welB I a.2.2.2.2.2.2.2.2 (s3 x))))) hP
      have hDc := va_D.mid (X := []) (wc := welB I a.2.2.2.1 (sW x) ++ welB I a.2.2.2.2.2.2.1 (s1 x)) (Y := sysH I O a x ++ (welB I a.2.2.2.2.1 (sT x) ++ (welB I a.2.2.2.2.2.1 (s0 x) ++ (welB I a.2.2.2.2.2.2.2.1 (s2 x) ++ welB I a.2.2.2.2.2.2.2.2 (s3 x))))) hD
      refine mc_v ([]) (sysH I O a x ++ (welB I a.2.2.2.2.1 (sT x) ++ (welB I a.2.2.2.2.2.1 (s0 x) ++ (welB I a.2.2.2.2.2.2.2.1 (s2 x) ++ welB I a.2.2.2.2.2.2.2.2 (s3 x))))) (mv_V (As := [.ref a.2.2.2.1.1]) (rest := []) ⟨hx, hb, hml, hown, hts⟩ (kX1_copyFrom l D I O a.2.2.2.1 a.2.2.2.2.2.2.1 H.size (sW x) (s1 x) _ hw) (cwV 1 hts gX2_save_X1_copyFrom rfl rfl rfl hdVX1_copyFrom ⟨(Nat.le_of_ble_eq_true rfl), (Nat.le_of_ble_eq_true rfl)⟩) hK hPc hDc 7 1 rfl rfl rfl rfl hl.1 rfl (Nat.le_of_ble_eq_true rfl) dX2_save_25 ⟨(Nat.le_of_ble_eq_true rfl), (Nat.le_of_ble_eq_true rfl)⟩) hP hD hS hA (fun u4 H locs hw hP hD hS => ?_)
      have hP := hP.sub (ws' := sysW I O a (sW x, sT x, s0 x, u4, s2 x, s3 x, sC x, sE x)) [14, 15, 16, 0, 1, 2, 3, 4, 5, 6, 17, 18, 19, 20, 21, 22, 23, 24, 25, 26, 27, 28, 29, 30, 7, 8, 9, 10, 11, 12, 13, 31, 32, 33, 34, 35, 36, 37, 38, 39, 40, 41, 42, 43, 44] rfl
      have hD := hD.sub (ws' := sysW I O a (sW x, sT x, s0 x, u4, s2 x, s3 x, sC x, sE x)) [14, 15, 16, 0, 1, 2, 3, 4, 5, 6, 17, 18, 19, 20, 21, 22, 23, 24, 25, 26, 27, 28, 29, 30, 7, 8, 9, 10, 11, 12, 13, 31, 32, 33, 34, 35, 36, 37, 38, 39, 40, 41, 42, 43, 44] (by decide) rfl
      have hP : va_P D vwCl (sysW I O a (sW x, sT x, s0 x, u4, s2 x, s3 x, sC x, sE x)) H := hP
      have hD : va_D (va_A (sysW I O a x) sz) (sysW I O a (sW x, sT x, s0 x, u4, s2 x, s3 x, sC x, sE x)) := hD
      refine lv_aload_n hx hb dX2_save_28 rfl (lv_at hl 0 rfl) ?_
      refine lv_dup hx hb dX2_save_29 rfl ?_
      refine va_get (ci := 2) (v := .int (sC x)) (C := RX2) (T := TX2) (N := 5) hx hb hts hiX2 hown hK.1 hP 0 rfl rfl 3 (by decide) f0 (fun _ h9 => h9) rfl dX2_save_30 ?_
      refine lv_iconst (v := 1) hx hb dX2_save_33 (by decide) ?_
      refine lv_iadd hx hb dX2_save_34 ?_
      refine va_put (ci := 2) (v := .int ((sC x) + 1)) (ty := .int) (C := RX2) (T := TX2) (N := 5) hx hb hts hiX2 tyX2 tyX2_ok nmX2 hown hK.1 hP hD hS 0 rfl rfl 3 (by decide) f0 (fun _ h9 => h9) rfl (by decide +kernel) rfl rfl (Nat.le_of_ble_eq_true rfl) dX2_save_35 (fun H locs hP hD hS => ?_)
      have hP : va_P D vwCl (sysW I O a (sW x, sT x, s0 x, u4, s2 x, s3 x, (sC x) + 1, sE x)) H := hP
      have hD : va_D (va_A (sysW I O a x) sz) (sysW I O a (sW x, sT x, s0 x, u4, s2 x, s3 x, (sC x) + 1, sE x)) := hD
      exact m_vret (u := (a.2, (sW x, sT x, s0 x, u4, s2 x, s3 x, (sC x) + 1, sE x))) hx hb hr hlocks hS hP hD dX2_save_38 hw
    · have hw := hw.2.2.1 c2
      refine va_aldq hx hb hK.1 hP 1 1 rfl rfl (show vp_in (sC x) 4 from by rw [c2]; exact vp_c 2 4 (by decide)) dX2_save_20 ?_
      refine W.eq (g2 := F0 m 21 ls [.ref a.2.2.2.2.2.2.2.1.1]) (by rw [c2]; rfl) ?_
      refine lv_aload_n hx hb dX2_save_21 rfl (lv_at hl 0 rfl) ?_
      refine va_get (ci := 2) (v := .ref a.2.2.2.1.1) (C := RX2) (T := TX2) (N := 5) hx hb hts hiX2 hown hK.1 hP 0 rfl rfl 0 (by decide) f2 (fun _ h9 => h9) rfl dX2_save_22 ?_
      have hP := hP.sub (ws' := (welB I a.2.2.2.1 (sW x) ++ welB I a.2.2.2.2.2.2.2.1 (s2 x)) ++ (sysH I O a x ++ (welB I a.2.2.2.2.1 (sT x) ++ (welB I a.2.2.2.2.2.1 (s0 x) ++ (welB I a.2.2.2.2.2.2.1 (s1 x) ++ welB I a.2.2.2.2.2.2.2.2 (s3 x)))))) [3, 4, 5, 6, 7, 8, 9, 31, 32, 33, 34, 35, 36, 37, 0, 1, 2, 10, 11, 12, 13, 14, 15, 16, 17, 18, 19, 20, 21, 22, 23, 24, 25, 26, 27, 28, 29, 30, 38, 39, 40, 41, 42, 43, 44] rfl
      have hD := hD.sub (ws' := (welB I a.2.2.2.1 (sW x) ++ welB I a.2.2.2.2.2.2.2.1 (s2 x)) ++ (sysH I O a x ++ (welB I a.2.2.2.2.1 (sT x) ++ (welB I a.2.2.2.2.2.1 (s0 x) ++ (welB I a.2.2.2.2.2.2.1 (s1 x) ++ welB I a.2.2.2.2.2.2.2.2 (s3 x)))))) [3, 4, 5, 6, 7, 8, 9, 31, 32, 33, 34, 35, 36, 37, 0, 1, 2, 10, 11, 12, 13, 14, 15, 16, 17, 18, 19, 20, 21, 22, 23, 24, 25, 26, 27, 28, 29, 30, 38, 39, 40, 41, 42, 43, 44] (by decide) rfl
      have hPc := va_P.mid (X := []) (wc := welB I a.2.2.2.1 (sW x) ++ welB I a.2.2.2.2.2.2.2.1 (s2 x)) (Y := sysH I O a x ++ (welB I a.2.2.2.2.1 (sT x) ++ (welB I a.2.2.2.2.2.1 (s0 x) ++ (welB I a.2.2.2.2.2.2.1 (s1 x) ++ welB I a.2.2.2.2.2.2.2.2 (s3 x))))) hP
      have hDc := va_D.mid (X := []) (wc := welB I a.2.2.2.1 (sW x) ++ welB I a.2.2.2.2.2.2.2.1 (s2 x)) (Y := sysH I O a x ++ (welB I a.2.2.2.2.1 (sT x) ++ (welB I a.2.2.2.2.2.1 (s0 x) ++ (welB I a.2.2.2.2.2.2.1 (s1 x) ++ welB I a.2.2.2.2.2.2.2.2 (s3 x))))) hD
      refine mc_v ([]) (sysH I O a x ++ (welB I a.2.2.2.2.1 (sT x) ++ (welB I a.2.2.2.2.2.1 (s0 x) ++ (welB I a.2.2.2.2.2.2.1 (s1 x) ++ welB I a.2.2.2.2.2.2.2.2 (s3 x))))) (mv_V (As := [.ref a.2.2.2.1.1]) (rest := []) ⟨hx, hb, hml, hown, hts⟩ (kX1_copyFrom l D I O a.2.2.2.1 a.2.2.2.2.2.2.2.1 H.size (sW x) (s2 x) _ hw) (cwV 1 hts gX2_save_X1_copyFrom rfl rfl rfl hdVX1_copyFrom ⟨(Nat.le_of_ble_eq_true rfl), (Nat.le_of_ble_eq_true rfl)⟩) hK hPc hDc 7 1 rfl rfl rfl rfl hl.1 rfl (Nat.le_of_ble_eq_true rfl) dX2_save_25 ⟨(Nat.le_of_ble_eq_true rfl), (Nat.le_of_ble_eq_true rfl)⟩) hP hD hS hA (fun u5 H locs hw hP hD hS => ?_)
      have hP := hP.sub (ws' := sysW I O a (sW x, sT x, s0 x, s1 x, u5, s3 x, sC x, sE x)) [14, 15, 16, 0, 1, 2, 3, 4, 5, 6, 17, 18, 19, 20, 21, 22, 23, 24, 25, 26, 27, 28, 29, 30, 31, 32, 33, 34, 35, 36, 37, 7, 8, 9, 10, 11, 12, 13, 38, 39, 40, 41, 42, 43, 44] rfl
      have hD := hD.sub (ws' := sysW I O a (sW x, sT x, s0 x, s1 x, u5, s3 x, sC x, sE x)) [14, 15, 16, 0, 1, 2, 3, 4, 5, 6, 17, 18, 19, 20, 21, 22, 23, 24, 25, 26, 27, 28, 29, 30, 31, 32, 33, 34, 35, 36, 37, 7, 8, 9, 10, 11, 12, 13, 38, 39, 40, 41, 42, 43, 44] (by decide) rfl
      have hP : va_P D vwCl (sysW I O a (sW x, sT x, s0 x, s1 x, u5, s3 x, sC x, sE x)) H := hP
      have hD : va_D (va_A (sysW I O a x) sz) (sysW I O a (sW x, sT x, s0 x, s1 x, u5, s3 x, sC x, sE x)) := hD
      refine lv_aload_n hx hb dX2_save_28 rfl (lv_at hl 0 rfl) ?_
      refine lv_dup hx hb dX2_save_29 rfl ?_
      refine va_get (ci := 2) (v := .int (sC x)) (C := RX2) (T := TX2) (N := 5) hx hb hts hiX2 hown hK.1 hP 0 rfl rfl 3 (by decide) f0 (fun _ h9 => h9) rfl dX2_save_30 ?_
      refine lv_iconst (v := 1) hx hb dX2_save_33 (by decide) ?_
      refine lv_iadd hx hb dX2_save_34 ?_
      refine va_put (ci := 2) (v := .int ((sC x) + 1)) (ty := .int) (C := RX2) (T := TX2) (N := 5) hx hb hts hiX2 tyX2 tyX2_ok nmX2 hown hK.1 hP hD hS 0 rfl rfl 3 (by decide) f0 (fun _ h9 => h9) rfl (by decide +kernel) rfl rfl (Nat.le_of_ble_eq_true rfl) dX2_save_35 (fun H locs hP hD hS => ?_)
      have hP : va_P D vwCl (sysW I O a (sW x, sT x, s0 x, s1 x, u5, s3 x, (sC x) + 1, sE x)) H := hP
      have hD : va_D (va_A (sysW I O a x) sz) (sysW I O a (sW x, sT x, s0 x, s1 x, u5, s3 x, (sC x) + 1, sE x)) := hD
      exact m_vret (u := (a.2, (sW x, sT x, s0 x, s1 x, u5, s3 x, (sC x) + 1, sE x))) hx hb hr hlocks hS hP hD dX2_save_38 hw
    · have hw := hw.2.2.2.1 c2
      refine va_aldq hx hb hK.1 hP 1 1 rfl rfl (show vp_in (sC x) 4 from by rw [c2]; exact vp_c 3 4 (by decide)) dX2_save_20 ?_
      refine W.eq (g2 := F0 m 21 ls [.ref a.2.2.2.2.2.2.2.2.1]) (by rw [c2]; rfl) ?_
      refine lv_aload_n hx hb dX2_save_21 rfl (lv_at hl 0 rfl) ?_
      refine va_get (ci := 2) (v := .ref a.2.2.2.1.1) (C := RX2) (T := TX2) (N := 5) hx hb hts hiX2 hown hK.1 hP 0 rfl rfl 0 (by decide) f2 (fun _ h9 => h9) rfl dX2_save_22 ?_
      have hP := hP.sub (ws' := (welB I a.2.2.2.1 (sW x) ++ welB I a.2.2.2.2.2.2.2.2 (s3 x)) ++ (sysH I O a x ++ (welB I a.2.2.2.2.1 (sT x) ++ (welB I a.2.2.2.2.2.1 (s0 x) ++ (welB I a.2.2.2.2.2.2.1 (s1 x) ++ welB I a.2.2.2.2.2.2.2.1 (s2 x)))))) [3, 4, 5, 6, 7, 8, 9, 38, 39, 40, 41, 42, 43, 44, 0, 1, 2, 10, 11, 12, 13, 14, 15, 16, 17, 18, 19, 20, 21, 22, 23, 24, 25, 26, 27, 28, 29, 30, 31, 32, 33, 34, 35, 36, 37] rfl
      have hD := hD.sub (ws' := (welB I a.2.2.2.1 (sW x) ++ welB I a.2.2.2.2.2.2.2.2 (s3 x)) ++ (sysH I O a x ++ (welB I a.2.2.2.2.1 (sT x) ++ (welB I a.2.2.2.2.2.1 (s0 x) ++ (welB I a.2.2.2.2.2.2.1 (s1 x) ++ welB I a.2.2.2.2.2.2.2.1 (s2 x)))))) [3, 4, 5, 6, 7, 8, 9, 38, 39, 40, 41, 42, 43, 44, 0, 1, 2, 10, 11, 12, 13, 14, 15, 16, 17, 18, 19, 20, 21, 22, 23, 24, 25, 26, 27, 28, 29, 30, 31, 32, 33, 34, 35, 36, 37] (by decide) rfl
      have hPc := va_P.mid (X := []) (wc := welB I a.2.2.2.1 (sW x) ++ welB I a.2.2.2.2.2.2.2.2 (s3 x)) (Y := sysH I O a x ++ (welB I a.2.2.2.2.1 (sT x) ++ (welB I a.2.2.2.2.2.1 (s0 x) ++ (welB I a.2.2.2.2.2.2.1 (s1 x) ++ welB I a.2.2.2.2.2.2.2.1 (s2 x))))) hP
      have hDc := va_D.mid (X := []) (wc := welB I a.2.2.2.1 (sW x) ++ welB I a.2.2.2.2.2.2.2.2 (s3 x)) (Y := sysH I O a x ++ (welB I a.2.2.2.2.1 (sT x) ++ (welB I a.2.2.2.2.2.1 (s0 x) ++ (welB I a.2.2.2.2.2.2.1 (s1 x) ++ welB I a.2.2.2.2.2.2.2.1 (s2 x))))) hD
      refine mc_v ([]) (sysH I O a x ++ (welB I a.2.2.2.2.1 (sT x) ++ (welB I a.2.2.2.2.2.1 (s0 x) ++ (welB I a.2.2.2.2.2.2.1 (s1 x) ++ welB I a.2.2.2.2.2.2.2.1 (s2 x))))) (mv_V (As := [.ref a.2.2.2.1.1]) (rest := []) ⟨hx, hb, hml, hown, hts⟩ (kX1_copyFrom l D I O a.2.2.2.1 a.2.2.2.2.2.2.2.2 H.size (sW x) (s3 x) _ hw) (cwV 1 hts gX2_save_X1_copyFrom rfl rfl rfl hdVX1_copyFrom ⟨(Nat.le_of_ble_eq_true rfl), (Nat.le_of_ble_eq_true rfl)⟩) hK hPc hDc 7 1 rfl rfl rfl rfl hl.1 rfl (Nat.le_of_ble_eq_true rfl) dX2_save_25 ⟨(Nat.le_of_ble_eq_true rfl), (Nat.le_of_ble_eq_true rfl)⟩) hP hD hS hA (fun u6 H locs hw hP hD hS => ?_)
      have hP := hP.sub (ws' := sysW I O a (sW x, sT x, s0 x, s1 x, s2 x, u6, sC x, sE x)) [14, 15, 16, 0, 1, 2, 3, 4, 5, 6, 17, 18, 19, 20, 21, 22, 23, 24, 25, 26, 27, 28, 29, 30, 31, 32, 33, 34, 35, 36, 37, 38, 39, 40, 41, 42, 43, 44, 7, 8, 9, 10, 11, 12, 13] rfl
      have hD := hD.sub (ws' := sysW I O a (sW x, sT x, s0 x, s1 x, s2 x, u6, sC x, sE x)) [14, 15, 16, 0, 1, 2, 3, 4, 5, 6, 17, 18, 19, 20, 21, 22, 23, 24, 25, 26, 27, 28, 29, 30, 31, 32, 33, 34, 35, 36, 37, 38, 39, 40, 41, 42, 43, 44, 7, 8, 9, 10, 11, 12, 13] (by decide) rfl
      have hP : va_P D vwCl (sysW I O a (sW x, sT x, s0 x, s1 x, s2 x, u6, sC x, sE x)) H := hP
      have hD : va_D (va_A (sysW I O a x) sz) (sysW I O a (sW x, sT x, s0 x, s1 x, s2 x, u6, sC x, sE x)) := hD
      refine lv_aload_n hx hb dX2_save_28 rfl (lv_at hl 0 rfl) ?_
      refine lv_dup hx hb dX2_save_29 rfl ?_
      refine va_get (ci := 2) (v := .int (sC x)) (C := RX2) (T := TX2) (N := 5) hx hb hts hiX2 hown hK.1 hP 0 rfl rfl 3 (by decide) f0 (fun _ h9 => h9) rfl dX2_save_30 ?_
      refine lv_iconst (v := 1) hx hb dX2_save_33 (by decide) ?_
      refine lv_iadd hx hb dX2_save_34 ?_
      refine va_put (ci := 2) (v := .int ((sC x) + 1)) (ty := .int) (C := RX2) (T := TX2) (N := 5) hx hb hts hiX2 tyX2 tyX2_ok nmX2 hown hK.1 hP hD hS 0 rfl rfl 3 (by decide) f0 (fun _ h9 => h9) rfl (by decide +kernel) rfl rfl (Nat.le_of_ble_eq_true rfl) dX2_save_35 (fun H locs hP hD hS => ?_)
      have hP : va_P D vwCl (sysW I O a (sW x, sT x, s0 x, s1 x, s2 x, u6, (sC x) + 1, sE x)) H := hP
      have hD : va_D (va_A (sysW I O a x) sz) (sysW I O a (sW x, sT x, s0 x, s1 x, s2 x, u6, (sC x) + 1, sE x)) := hD
      exact m_vret (u := (a.2, (sW x, sT x, s0 x, s1 x, s2 x, u6, (sC x) + 1, sE x))) hx hb hr hlocks hS hP hD dX2_save_38 hw
  · have hw := hw.2 c1
    refine lv_aload_n hx hb dX2_save_8 rfl (lv_at hl 0 rfl) ?_
    refine mw_v (mv_V (As := []) (rest := []) ⟨hx, hb, hml, hown, hts⟩ (kX2_dropOldestSaved l D I O a H.size x _ hw) (cwV 0 hts gX2_save_X2_dropOldestSaved rfl rfl rfl hdVX2_dropOldestSaved ⟨(Nat.le_of_ble_eq_true rfl), (Nat.le_of_ble_eq_true rfl)⟩) hK hP hD 0 2 rfl rfl rfl rfl hl.1 rfl (Nat.le_of_ble_eq_true rfl) dX2_save_9 ⟨(Nat.le_of_ble_eq_true rfl), (Nat.le_of_ble_eq_true rfl)⟩) hP hD hS hA (fun u7 H locs hw hP hD hS => ?_)
    obtain ⟨du7, u7⟩ := u7
    have hP : va_P D vwCl (sysW I O (a.1, du7) u7) H := hP
    have hD : va_D (va_A (sysW I O a x) sz) (sysW I O (a.1, du7) u7) := hD
    refine lv_aload_n hx hb dX2_save_12 rfl (lv_at hl 0 rfl) ?_
    refine va_get (ci := 2) (v := .ref du7.1) (C := RX2) (T := TX2) (N := 5) hx hb hts hiX2 hown hK.1 hP 0 rfl rfl 2 (by decide) f1 (fun _ h9 => h9) rfl dX2_save_13 ?_
    refine lv_aload_n hx hb dX2_save_16 rfl (lv_at hl 0 rfl) ?_
    refine va_get (ci := 2) (v := .int (sC u7)) (C := RX2) (T := TX2) (N := 5) hx hb hts hiX2 hown hK.1 hP 0 rfl rfl 3 (by decide) f0 (fun _ h9 => h9) rfl dX2_save_17 ?_
    rcases hw.2.2.2.2 with c8 | c8 | c8 | c8
    · have hw := hw.1 c8
      refine va_aldq hx hb hK.1 hP 1 1 rfl rfl (show vp_in (sC u7) 4 from by rw [c8]; exact vp_c 0 4 (by decide)) dX2_save_20 ?_
      refine W.eq (g2 := F0 m 21 ls [.ref du7.2.2.2.2.1.1]) (by rw [c8]; rfl) ?_
      refine lv_aload_n hx hb dX2_save_21 rfl (lv_at hl 0 rfl) ?_
      refine va_get (ci := 2) (v := .ref du7.2.2.1.1) (C := RX2) (T := TX2) (N := 5) hx hb hts hiX2 hown hK.1 hP 0 rfl rfl 0 (by decide) f2 (fun _ h9 => h9) rfl dX2_save_22 ?_
      have hP := hP.sub (ws' := (welB I du7.2.2.1 (sW u7) ++ welB I du7.2.2.2.2.1 (s0 u7)) ++ (sysH I O (a.1, du7) u7 ++ (welB I du7.2.2.2.1 (sT u7) ++ (welB I du7.2.2.2.2.2.1 (s1 u7) ++ (welB I du7.2.2.2.2.2.2.1 (s2 u7) ++ welB I du7.2.2.2.2.2.2.2 (s3 u7)))))) [3, 4, 5, 6, 7, 8, 9, 17, 18, 19, 20, 21, 22, 23, 0, 1, 2, 10, 11, 12, 13, 14, 15, 16, 24, 25, 26, 27, 28, 29, 30, 31, 32, 33, 34, 35, 36, 37, 38, 39, 40, 41, 42, 43, 44] rfl
      have hD := hD.sub (ws' := (welB I du7.2.2.1 (sW u7) ++ welB I du7.2.2.2.2.1 (s0 u7)) ++ (sysH I O (a.1, du7) u7 ++ (welB I du7.2.2.2.1 (sT u7) ++ (welB I du7.2.2.2.2.2.1 (s1 u7) ++ (welB I du7.2.2.2.2.2.2.1 (s2 u7) ++ welB I du7.2.2.2.2.2.2.2 (s3 u7)))))) [3, 4, 5, 6, 7, 8, 9, 17, 18, 19, 20, 21, 22, 23, 0, 1, 2, 10, 11, 12, 13, 14, 15, 16, 24, 25, 26, 27, 28, 29, 30, 31, 32, 33, 34, 35, 36, 37, 38, 39, 40, 41, 42, 43, 44] (by decide) rfl
      have hPc := va_P.mid (X := []) (wc := welB I du7.2.2.1 (sW u7) ++ welB I du7.2.2.2.2.1 (s0 u7)) (Y := sysH I O (a.1, du7) u7 ++ (welB I du7.2.2.2.1 (sT u7) ++ (welB I du7.2.2.2.2.2.1 (s1 u7) ++ (welB I du7.2.2.2.2.2.2.1 (s2 u7) ++ welB I du7.2.2.2.2.2.2.2 (s3 u7))))) hP
      have hDc := va_D.mid (X := []) (wc := welB I du7.2.2.1 (sW u7) ++ welB I du7.2.2.2.2.1 (s0 u7)) (Y := sysH I O (a.1, du7) u7 ++ (welB I du7.2.2.2.1 (sT u7) ++ (welB I du7.2.2.2.2.2.1 (s1 u7) ++ (welB I du7.2.2.2.2.2.2.1 (s2 u7) ++ welB I du7.2.2.2.2.2.2.2 (s3 u7))))) hD
      refine mc_v ([]) (sysH I O (a.1, du7) u7 ++ (welB I du7.2.2.2.1 (sT u7) ++ (welB I du7.2.2.2.2.2.1 (s1 u7) ++ (welB I du7.2.2.2.2.2.2.1 (s2 u7) ++ welB I du7.2.2.2.2.2.2.2 (s3 u7))))) (mv_V (As := [.ref du7.2.2.1.1]) (rest := []) ⟨hx, hb, hml, hown, hts⟩ (kX1_copyFrom l D I O du7.2.2.1 du7.2.2.2.2.1 H.size (sW u7) (s0 u7) _ hw) (cwV 1 hts gX2_save_X1_copyFrom rfl rfl rfl hdVX1_copyFrom ⟨(Nat.le_of_ble_eq_true rfl), (Nat.le_of_ble_eq_true rfl)⟩) hK hPc hDc 7 1 rfl rfl rfl rfl hl.1 rfl (Nat.le_of_ble_eq_true rfl) dX2_save_25 ⟨(Nat.le_of_ble_eq_true rfl), (Nat.le_of_ble_eq_true rfl)⟩) hP hD hS hA (fun u9 H locs hw hP hD hS => ?_)
      have hP := hP.sub (ws' := sysW I O (a.1, du7) (sW u7, sT u7, u9, s1 u7, s2 u7, s3 u7, sC u7, sE u7)) [14, 15, 16, 0, 1, 2, 3, 4, 5, 6, 17, 18, 19, 20, 21, 22, 23, 7, 8, 9, 10, 11, 12, 13, 24, 25, 26, 27, 28, 29, 30, 31, 32, 33, 34, 35, 36, 37, 38, 39, 40, 41, 42, 43, 44] rfl
      have hD := hD.sub (ws' := sysW I O (a.1, du7) (sW u7, sT u7, u9, s1 u7, s2 u7, s3 u7, sC u7, sE u7)) [14, 15, 16, 0, 1, 2, 3, 4, 5, 6, 17, 18, 19, 20, 21, 22, 23, 7, 8, 9, 10, 11, 12, 13, 24, 25, 26, 27, 28, 29, 30, 31, 32, 33, 34, 35, 36, 37, 38, 39, 40, 41, 42, 43, 44] (by decide) rfl
      have hP : va_P D vwCl (sysW I O (a.1, du7) (sW u7, sT u7, u9, s1 u7, s2 u7, s3 u7, sC u7, sE u7)) H := hP
      have hD : va_D (va_A (sysW I O a x) sz) (sysW I O (a.1, du7) (sW u7, sT u7, u9, s1 u7, s2 u7, s3 u7, sC u7, sE u7)) := hD
      refine lv_aload_n hx hb dX2_save_28 rfl (lv_at hl 0 rfl) ?_
      refine lv_dup hx hb dX2_save_29 rfl ?_
      refine va_get (ci := 2) (v := .int (sC u7)) (C := RX2) (T := TX2) (N := 5) hx hb hts hiX2 hown hK.1 hP 0 rfl rfl 3 (by decide) f0 (fun _ h9 => h9) rfl dX2_save_30 ?_
      refine lv_iconst (v := 1) hx hb dX2_save_33 (by decide) ?_
      refine lv_iadd hx hb dX2_save_34 ?_
      refine va_put (ci := 2) (v := .int ((sC u7) + 1)) (ty := .int) (C := RX2) (T := TX2) (N := 5) hx hb hts hiX2 tyX2 tyX2_ok nmX2 hown hK.1 hP hD hS 0 rfl rfl 3 (by decide) f0 (fun _ h9 => h9) rfl (by decide +kernel) rfl rfl (Nat.le_of_ble_eq_true rfl) dX2_save_35 (fun H locs hP hD hS => ?_)
      have hP : va_P D vwCl (sysW I O (a.1, du7) (sW u7, sT u7, u9, s1 u7, s2 u7, s3 u7, (sC u7) + 1, sE u7)) H := hP
      have hD : va_D (va_A (sysW I O a x) sz) (sysW I O (a.1, du7) (sW u7, sT u7, u9, s1 u7, s2 u7, s3 u7, (sC u7) + 1, sE u7)) := hD
      exact m_vret (u := (du7, (sW u7, sT u7, u9, s1 u7, s2 u7, s3 u7, (sC u7) + 1, sE u7))) hx hb hr hlocks hS hP hD dX2_save_38 hw
    · have hw := hw.2.1 c8
      refine va_aldq hx hb hK.1 hP 1 1 rfl rfl (show vp_in (sC u7) 4 from by rw [c8]; exact vp_c 1 4 (by decide)) dX2_save_20 ?_
      refine W.eq (g2 := F0 m 21 ls [.ref du7.2.2.2.2.2.1.1]) (by rw [c8]; rfl) ?_
      refine lv_aload_n hx hb dX2_save_21 rfl (lv_at hl 0 rfl) ?_
      refine va_get (ci := 2) (v := .ref du7.2.2.1.1) (C := RX2) (T := TX2) (N := 5) hx hb hts hiX2 hown hK.1 hP 0 rfl rfl 0 (by decide) f2 (fun _ h9 => h9) rfl dX2_save_22 ?_
      have hP := hP.sub (ws' := (welB I du7.2.2.1 (sW u7) ++ welB I du7.2.2.2.2.2.1 (s1 u7)) ++ (sysH I O (a.1, du7) u7 ++ (welB I du7.2.2.2.1 (sT u7) ++ (welB I du7.2.2.2.2.1 (s0 u7) ++ (welB I du7.2.2.2.2.2.2.1 (s2 u7) ++ welB I du7.2.2.2.2.2.2.2 (s3 u7)))))) [3, 4, 5, 6, 7, 8, 9, 24, 25, 26, 27, 28, 29, 30, 0, 1, 2, 10, 11, 12, 13, 14, 15, 16, 17, 18, 19, 20, 21, 22, 23, 31, 32, 33, 34, 35, 36, 37, 38, 39, 40, 41, 42, 43, 44] rfl
      have hD := hD.sub (ws' := (welB I du7.2.2.1 (sW u7) ++ welB I du7.2.2.2.2.2.1 (s1 u7)) ++ (sysH I O (a.1, du7) u7 ++ (welB I du7.2.2.2.1 (sT u7) ++ (welB I du7.2.2.2.2.1 (s0 u7) ++ (welB I du7.2.2.2.2.2.2.1 (s2 u7) ++ welB I du7.2.2.2.2.2.2.2 (s3 u7)))))) [3, 4, 5, 6, 7, 8, 9, 24, 25, 26, 27, 28, 29, 30, 0, 1, 2, 10, 11, 12, 13, 14, 15, 16, 17, 18, 19, 20, 21, 22, 23, 31, 32, 33, 34, 35, 36, 37, 38, 39, 40, 41, 42, 43, 44] (by decide) rfl
      have hPc := va_P.mid (X := []) (wc := welB I du7.2.2.1 (sW u7) ++ welB I du7.2.2.2.2.2.1 (s1 u7)) (Y := sysH I O (a.1, du7) u7 ++ (welB I du7.2.2.2.1 (sT u7) ++ (welB I du7.2.2.2.2.1 (s0 u7) ++ (welB I du7.2.2.2.2.2.2.1 (s2 u7) ++ welB I du7.2.2.2.2.2.2.2 (s3 u7))))) hP
      have hDc := va_D.mid (X := []) (wc := welB I du7.2.2.1 (sW u7) ++ welB I du7.2.2.2.2.2.1 (s1 u7)) (Y := sysH I O (a.1, du7) u7 ++ (welB I du7.2.2.2.1 (sT u7) ++ (welB I du7.2.2.2.2.1 (s0 u7) ++ (welB I du7.2.2.2.2.2.2.1 (s2 u7) ++ welB I du7.2.2.2.2.2.2.2 (s3 u7))))) hD
      refine mc_v ([]) (sysH I O (a.1, du7) u7 ++ (welB I du7.2.2.2.1 (sT u7) ++ (welB I du7.2.2.2.2.1 (s0 u7) ++ (welB I du7.2.2.2.2.2.2.1 (s2 u7) ++ welB I du7.2.2.2.2.2.2.2 (s3 u7))))) (mv_V (As := [.ref du7.2.2.1.1]) (rest := []) ⟨hx, hb, hml, hown, hts⟩ (kX1_copyFrom l D I O du7.2.2.1 du7.2.2.2.2.2.1 H.size (sW u7) (s1 u7) _ hw) (cwV 1 hts gX2_save_X1_copyFrom rfl rfl rfl hdVX1_copyFrom ⟨(Nat.le_of_ble_eq_true rfl), (Nat.le_of_ble_eq_true rfl)⟩) hK hPc hDc 7 1 rfl rfl rfl rfl hl.1 rfl (Nat.le_of_ble_eq_true rfl) dX2_save_25 ⟨(Nat.le_of_ble_eq_true rfl), (Nat.le_of_ble_eq_true rfl)⟩) hP hD hS hA (fun u10 H locs hw hP hD hS => ?_)
      have hP := hP.sub (ws' := sysW I O (a.1, du7) (sW u7, sT u7, s0 u7, u10, s2 u7, s3 u7, sC u7, sE u7)) [14, 15, 16, 0, 1, 2, 3, 4, 5, 6, 17, 18, 19, 20, 21, 22, 23, 24, 25, 26, 27, 28, 29, 30, 7, 8, 9, 10, 11, 12, 13, 31, 32, 33, 34, 35, 36, 37, 38, 39, 40, 41, 42, 43, 44] rfl
      have hD := hD.sub (ws' := sysW I O (a.1, du7) (sW u7, sT u7, s0 u7, u10, s2 u7, s3 u7, sC u7, sE u7)) [14, 15, 16, 0, 1, 2, 3, 4, 5, 6, 17, 18, 19, 20, 21, 22, 23, 24, 25, 26, 27, 28, 29, 30, 7, 8, 9, 10, 11, 12, 13, 31, 32, 33, 34, 35, 36, 37, 38, 39, 40, 41, 42, 43, 44] (by decide) rfl
      have hP : va_P D vwCl (sysW I O (a.1, du7) (sW u7, sT u7, s0 u7, u10, s2 u7, s3 u7, sC u7, sE u7)) H := hP
      have hD : va_D (va_A (sysW I O a x) sz) (sysW I O (a.1, du7) (sW u7, sT u7, s0 u7, u10, s2 u7, s3 u7, sC u7, sE u7)) := hD
      refine lv_aload_n hx hb dX2_save_28 rfl (lv_at hl 0 rfl) ?_
      refine lv_dup hx hb dX2_save_29 rfl ?_
      refine va_get (ci := 2) (v := .int (sC u7)) (C := RX2) (T := TX2) (N := 5) hx hb hts hiX2 hown hK.1 hP 0 rfl rfl 3 (by decide) f0 (fun _ h9 => h9) rfl dX2_save_30 ?_
      refine lv_iconst (v := 1) hx hb dX2_save_33 (by decide) ?_
      refine lv_iadd hx hb dX2_save_34 ?_
      refine va_put (ci := 2) (v := .int ((sC u7) + 1)) (ty := .int) (C := RX2) (T := TX2) (N := 5) hx hb hts hiX2 tyX2 tyX2_ok nmX2 hown hK.1 hP hD hS 0 rfl rfl 3 (by decide) f0 (fun _ h9 => h9) rfl (by decide +kernel) rfl rfl (Nat.le_of_ble_eq_true rfl) dX2_save_35 (fun H locs hP hD hS => ?_)
      have hP : va_P D vwCl (sysW I O (a.1, du7) (sW u7, sT u7, s0 u7, u10, s2 u7, s3 u7, (sC u7) + 1, sE u7)) H := hP
      have hD : va_D (va_A (sysW I O a x) sz) (sysW I O (a.1, du7) (sW u7, sT u7, s0 u7, u10, s2 u7, s3 u7, (sC u7) + 1, sE u7)) := hD
      exact m_vret (u := (du7, (sW u7, sT u7, s0 u7, u10, s2 u7, s3 u7, (sC u7) + 1, sE u7))) hx hb hr hlocks hS hP hD dX2_save_38 hw
    · have hw := hw.2.2.1 c8
      refine va_aldq hx hb hK.1 hP 1 1 rfl rfl (show vp_in (sC u7) 4 from by rw [c8]; exact vp_c 2 4 (by decide)) dX2_save_20 ?_
      refine W.eq (g2 := F0 m 21 ls [.ref du7.2.2.2.2.2.2.1.1]) (by rw [c8]; rfl) ?_
      refine lv_aload_n hx hb dX2_save_21 rfl (lv_at hl 0 rfl) ?_
      refine va_get (ci := 2) (v := .ref du7.2.2.1.1) (C := RX2) (T := TX2) (N := 5) hx hb hts hiX2 hown hK.1 hP 0 rfl rfl 0 (by decide) f2 (fun _ h9 => h9) rfl dX2_save_22 ?_
      have hP := hP.sub (ws' := (welB I du7.2.2.1 (sW u7) ++ welB I du7.2.2.2.2.2.2.1 (s2 u7)) ++ (sysH I O (a.1, du7) u7 ++ (welB I du7.2.2.2.1 (sT u7) ++ (welB I du7.2.2.2.2.1 (s0 u7) ++ (welB I du7.2.2.2.2.2.1 (s1 u7) ++ welB I du7.2.2.2.2.2.2.2 (s3 u7)))))) [3, 4, 5, 6, 7, 8, 9, 31, 32, 33, 34, 35, 36, 37, 0, 1, 2, 10, 11, 12, 13, 14, 15, 16, 17, 18, 19, 20, 21, 22, 23, 24, 25, 26, 27, 28, 29, 30, 38, 39, 40, 41, 42, 43, 44] rfl
      have hD := hD.sub (ws' := (welB I du7.2.2.1 (sW u7) ++ welB I du7.2.2.2.2.2.2.1 (s2 u7)) ++ (sysH I O (a.1, du7) u7 ++ (welB I du7.2.2.2.1 (sT u7) ++ (welB I du7.2.2.2.2.1 (s0 u7) ++ (welB I du7.2.2.2.2.2.1 (s1 u7) ++ welB I du7.2.2.2.2.2.2.2 (s3 u7)))))) [3, 4, 5, 6, 7, 8, 9, 31, 32, 33, 34, 35, 36, 37, 0, 1, 2, 10, 11, 12, 13, 14, 15, 16, 17, 18, 19, 20, 21, 22, 23, 24, 25, 26, 27, 28, 29, 30, 38, 39, 40, 41, 42, 43, 44] (by decide) rfl
      have hPc := va_P.mid (X := []) (wc := welB I du7.2.2.1 (sW u7) ++ welB I du7.2.2.2.2.2.2.1 (s2 u7)) (Y := sysH I O (a.1, du7) u7 ++ (welB I du7.2.2.2.1 (sT u7) ++ (welB I du7.2.2.2.2.1 (s0 u7) ++ (welB I du7.2.2.2.2.2.1 (s1 u7) ++ welB I du7.2.2.2.2.2.2.2 (s3 u7))))) hP
      have hDc := va_D.mid (X := []) (wc := welB I du7.2.2.1 (sW u7) ++ welB I du7.2.2.2.2.2.2.1 (s2 u7)) (Y := sysH I O (a.1, du7) u7 ++ (welB I du7.2.2.2.1 (sT u7) ++ (welB I du7.2.2.2.2.1 (s0 u7) ++ (welB I du7.2.2.2.2.2.1 (s1 u7) ++ welB I du7.2.2.2.2.2.2.2 (s3 u7))))) hD
      refine mc_v ([]) (sysH I O (a.1, du7) u7 ++ (welB I du7.2.2.2.1 (sT u7) ++ (welB I du7.2.2.2.2.1 (s0 u7) ++ (welB I du7.2.2.2.2.2.1 (s1 u7) ++ welB I du7.2.2.2.2.2.2.2 (s3 u7))))) (mv_V (As := [.ref du7.2.2.1.1]) (rest := []) ⟨hx, hb, hml, hown, hts⟩ (kX1_copyFrom l D I O du7.2.2.1 du7.2.2.2.2.2.2.1 H.size (sW u7) (s2 u7) _ hw) (cwV 1 hts gX2_save_X1_copyFrom rfl rfl rfl hdVX1_copyFrom ⟨(Nat.le_of_ble_eq_true rfl), (Nat.le_of_ble_eq_true rfl)⟩) hK hPc hDc 7 1 rfl rfl rfl rfl hl.1 rfl (Nat.le_of_ble_eq_true rfl) dX2_save_25 ⟨(Nat.le_of_ble_eq_true rfl), (Nat.le_of_ble_eq_true rfl)⟩) hP hD hS hA (fun u11 H locs hw hP hD hS => ?_)
      have hP := hP.sub (ws' := sysW I O (a.1, du7) (sW u7, sT u7, s0 u7, s1 u7, u11, s3 u7, sC u7, sE u7)) [14, 15, 16, 0, 1, 2, 3, 4, 5, 6, 17, 18, 19, 20, 21, 22, 23, 24, 25, 26, 27, 28, 29, 30, 31, 32, 33, 34, 35, 36, 37, 7, 8, 9, 10, 11, 12, 13, 38, 39, 40, 41, 42, 43, 44] rfl
      have hD := hD.sub (ws' := sysW I O (a.1, du7) (sW u7, sT u7, s0 u7, s1 u7, u11, s3 u7, sC u7, sE u7)) [14, 15, 16, 0, 1, 2, 3, 4, 5, 6, 17, 18, 19, 20, 21, 22, 23, 24, 25, 26, 27, 28, 29, 30, 31, 32, 33, 34, 35, 36, 37, 7, 8, 9, 10, 11, 12, 13, 38, 39, 40, 41, 42, 43, 44] (by decide) rfl
      have hP : va_P D vwCl (sysW I O (a.1, du7) (sW u7, sT u7, s0 u7, s1 u7, u11, s3 u7, sC u7, sE u7)) H := hP
      have hD : va_D (va_A (sysW I O a x) sz) (sysW I O (a.1, du7) (sW u7, sT u7, s0 u7, s1 u7, u11, s3 u7, sC u7, sE u7)) := hD
      refine lv_aload_n hx hb dX2_save_28 rfl (lv_at hl 0 rfl) ?_
      refine lv_dup hx hb dX2_save_29 rfl ?_
      refine va_get (ci := 2) (v := .int (sC u7)) (C := RX2) (T := TX2) (N := 5) hx hb hts hiX2 hown hK.1 hP 0 rfl rfl 3 (by decide) f0 (fun _ h9 => h9) rfl dX2_save_30 ?_
      refine lv_iconst (v := 1) hx hb dX2_save_33 (by decide) ?_
      refine lv_iadd hx hb dX2_save_34 ?_
      refine va_put (ci := 2) (v := .int ((sC u7) + 1)) (ty := .int) (C := RX2) (T := TX2) (N := 5) hx hb hts hiX2 tyX2 tyX2_ok nmX2 hown hK.1 hP hD hS 0 rfl rfl 3 (by decide) f0 (fun _ h9 => h9) rfl (by decide +kernel) rfl rfl (Nat.le_of_ble_eq_true rfl) dX2_save_35 (fun H locs hP hD hS => ?_)
      have hP : va_P D vwCl (sysW I O (a.1, du7) (sW u7, sT u7, s0 u7, s1 u7, u11, s3 u7, (sC u7) + 1, sE u7)) H := hP
      have hD : va_D (va_A (sysW I O a x) sz) (sysW I O (a.1, du7) (sW u7, sT u7, s0 u7, s1 u7, u11, s3 u7, (sC u7) + 1, sE u7)) := hD
      exact m_vret (u := (du7, (sW u7, sT u7, s0 u7, s1 u7, u11, s3 u7, (sC u7) + 1, sE u7))) hx hb hr hlocks hS hP hD dX2_save_38 hw
    · have hw := hw.2.2.2.1 c8
      refine va_aldq hx hb hK.1 hP 1 1 rfl rfl (show vp_in (sC u7) 4 from by rw [c8]; exact vp_c 3 4 (by decide)) dX2_save_20 ?_
      refine W.eq (g2 := F0 m 21 ls [.ref du7.2.2.2.2.2.2.2.1]) (by rw [c8]; rfl) ?_
      refine lv_aload_n hx hb dX2_save_21 rfl (lv_at hl 0 rfl) ?_
      refine va_get (ci := 2) (v := .ref du7.2.2.1.1) (C := RX2) (T := TX2) (N := 5) hx hb hts hiX2 hown hK.1 hP 0 rfl rfl 0 (by decide) f2 (fun _ h9 => h9) rfl dX2_save_22 ?_
      have hP := hP.sub (ws' := (welB I du7.2.2.1 (sW u7) ++ welB I du7.2.2.2.2.2.2.2 (s3 u7)) ++ (sysH I O (a.1, du7) u7 ++ (welB I du7.2.2.2.1 (sT u7) ++ (welB I du7.2.2.2.2.1 (s0 u7) ++ (welB I du7.2.2.2.2.2.1 (s1 u7) ++ welB I du7.2.2.2.2.2.2.1 (s2 u7)))))) [3, 4, 5, 6, 7, 8, 9, 38, 39, 40, 41, 42, 43, 44, 0, 1, 2, 10, 11, 12, 13, 14, 15, 16, 17, 18, 19, 20, 21, 22, 23, 24, 25, 26, 27, 28, 29, 30, 31, 32, 33, 34, 35, 36, 37] rfl
      have hD := hD.sub (ws' := (welB I du7.2.2.1 (sW u7) ++ welB I du7.2.2.2.2.2.2.2 (s3 u7)) ++ (sysH I O (a.1, du7) u7 ++ (welB I du7.2.2.2.1 (sT u7) ++ (welB I du7.2.2.2.2.1 (s0 u7) ++ (welB I du7.2.2.2.2.2.1 (s1 u7) ++ welB I du7.2.2.2.2.2.2.1 (s2 u7)))))) [3, 4, 5, 6, 7, 8, 9, 38, 39, 40, 41, 42, 43, 44, 0, 1, 2, 10, 11, 12, 13, 14, 15, 16, 17, 18, 19, 20, 21, 22, 23, 24, 25, 26, 27, 28, 29, 30, 31, 32, 33, 34, 35, 36, 37] (by decide) rfl
      have hPc := va_P.mid (X := []) (wc := welB I du7.2.2.1 (sW u7) ++ welB I du7.2.2.2.2.2.2.2 (s3 u7)) (Y := sysH I O (a.1, du7) u7 ++ (welB I du7.2.2.2.1 (sT u7) ++ (welB I du7.2.2.2.2.1 (s0 u7) ++ (welB I du7.2.2.2.2.2.1 (s1 u7) ++ welB I du7.2.2.2.2.2.2.1 (s2 u7))))) hP
      have hDc := va_D.mid (X := []) (wc := welB I du7.2.2.1 (sW u7) ++ welB I du7.2.2.2.2.2.2.2 (s3 u7)) (Y := sysH I O (a.1, du7) u7 ++ (welB I du7.2.2.2.1 (sT u7) ++ (welB I du7.2.2.2.2.1 (s0 u7) ++ (welB I du7.2.2.2.2.2.1 (s1 u7) ++ welB I du7.2.2.2.2.2.2.1 (s2 u7))))) hD
      refine mc_v ([]) (sysH I O (a.1, du7) u7 ++ (welB I du7.2.2.2.1 (sT u7) ++ (welB I du7.2.2.2.2.1 (s0 u7) ++ (welB I du7.2.2.2.2.2.1 (s1 u7) ++ welB I du7.2.2.2.2.2.2.1 (s2 u7))))) (mv_V (As := [.ref du7.2.2.1.1]) (rest := []) ⟨hx, hb, hml, hown, hts⟩ (kX1_copyFrom l D I O du7.2.2.1 du7.2.2.2.2.2.2.2 H.size (sW u7) (s3 u7) _ hw) (cwV 1 hts gX2_save_X1_copyFrom rfl rfl rfl hdVX1_copyFrom ⟨(Nat.le_of_ble_eq_true rfl), (Nat.le_of_ble_eq_true rfl)⟩) hK hPc hDc 7 1 rfl rfl rfl rfl hl.1 rfl (Nat.le_of_ble_eq_true rfl) dX2_save_25 ⟨(Nat.le_of_ble_eq_true rfl), (Nat.le_of_ble_eq_true rfl)⟩) hP hD hS hA (fun u12 H locs hw hP hD hS => ?_)
      have hP := hP.sub (ws' := sysW I O (a.1, du7) (sW u7, sT u7, s0 u7, s1 u7, s2 u7, u12, sC u7, sE u7)) [14, 15, 16, 0, 1, 2, 3, 4, 5, 6, 17, 18, 19, 20, 21, 22, 23, 24, 25, 26, 27, 28, 29, 30, 31, 32, 33, 34, 35, 36, 37, 38, 39, 40, 41, 42, 43, 44, 7, 8, 9, 10, 11, 12, 13] rfl
      have hD := hD.sub (ws' := sysW I O (a.1, du7) (sW u7, sT u7, s0 u7, s1 u7, s2 u7, u12, sC u7, sE u7)) [14, 15, 16, 0, 1, 2, 3, 4, 5, 6, 17, 18, 19, 20, 21, 22, 23, 24, 25, 26, 27, 28, 29, 30, 31, 32, 33, 34, 35, 36, 37, 38, 39, 40, 41, 42, 43, 44, 7, 8, 9, 10, 11, 12, 13] (by decide) rfl
      have hP : va_P D vwCl (sysW I O (a.1, du7) (sW u7, sT u7, s0 u7, s1 u7, s2 u7, u12, sC u7, sE u7)) H := hP
      have hD : va_D (va_A (sysW I O a x) sz) (sysW I O (a.1, du7) (sW u7, sT u7, s0 u7, s1 u7, s2 u7, u12, sC u7, sE u7)) := hD
      refine lv_aload_n hx hb dX2_save_28 rfl (lv_at hl 0 rfl) ?_
      refine lv_dup hx hb dX2_save_29 rfl ?_
      refine va_get (ci := 2) (v := .int (sC u7)) (C := RX2) (T := TX2) (N := 5) hx hb hts hiX2 hown hK.1 hP 0 rfl rfl 3 (by decide) f0 (fun _ h9 => h9) rfl dX2_save_30 ?_
      refine lv_iconst (v := 1) hx hb dX2_save_33 (by decide) ?_
      refine lv_iadd hx hb dX2_save_34 ?_
      refine va_put (ci := 2) (v := .int ((sC u7) + 1)) (ty := .int) (C := RX2) (T := TX2) (N := 5) hx hb hts hiX2 tyX2 tyX2_ok nmX2 hown hK.1 hP hD hS 0 rfl rfl 3 (by decide) f0 (fun _ h9 => h9) rfl (by decide +kernel) rfl rfl (Nat.le_of_ble_eq_true rfl) dX2_save_35 (fun H locs hP hD hS => ?_)
      have hP : va_P D vwCl (sysW I O (a.1, du7) (sW u7, sT u7, s0 u7, s1 u7, s2 u7, u12, (sC u7) + 1, sE u7)) H := hP
      have hD : va_D (va_A (sysW I O a x) sz) (sysW I O (a.1, du7) (sW u7, sT u7, s0 u7, s1 u7, s2 u7, u12, (sC u7) + 1, sE u7)) := hD
      exact m_vret (u := (du7, (sW u7, sT u7, s0 u7, s1 u7, s2 u7, u12, (sC u7) + 1, sE u7))) hx hb hr hlocks hS hP hD dX2_save_38 hw
def qX2_undo (x : Sys) (Q : Int32 → Sys → Prop) : Prop := ((1 ≤ (sC x) → ((((sC x) - 1) = 0 → Q ((sC x) - 1) (s0 x, sT x, sW x, s1 x, s2 x, s3 x, (sC x) - 1, sE x)) ∧ (((sC x) - 1) = 1 → Q ((sC x) - 1) (s1 x, sT x, s0 x, sW x, s2 x, s3 x, (sC x) - 1, sE x)) ∧ (((sC x) - 1) = 2 → Q ((sC x) - 1) (s2 x, sT x, s0 x, s1 x, sW x, s3 x, (sC x) - 1, sE x)) ∧ (((sC x) - 1) = 3 → Q ((sC x) - 1) (s3 x, sT x, s0 x, s1 x, s2 x, sW x, (sC x) - 1, sE x)) ∧ (((sC x) - 1) = 0 ∨ ((sC x) - 1) = 1 ∨ ((sC x) - 1) = 2 ∨ ((sC x) - 1) = 3))) ∧ (¬ 1 ≤ (sC x) → (qX2_refuse x (-5) (fun r3 u4 => Q r3 u4))))
set_option maxHeartbeats 4000000 in
set_option maxRecDepth 100000 in
theorem kX2_undo (l : Launch) (D : va_G) (I O : ClassId) (a : SA) (sz : Nat) (x : Sys) (Q : Int32 → Sys → Prop) (hw : qX2_undo x Q) : Met l yX2_undo wsX2_undo rX2_undo (mPc D I O [.ref a.1] (sysW I O a x) sz) (va_Qi (fun r (u : (Nat × Nat × WA × WA × WA × WA × WA × WA) × Sys) => Q r u.2) (mB D (va_A (sysW I O a x) sz) (fun u => sysW I O (a.1, u.1) u.2)) (va_A (sysW I O a x) sz)) 0 0 (va_A (sysW I O a x) sz) := by
  refine m_start (by decide) rfl (Nat.le_of_ble_eq_true rfl) (fun p e s m below meth c ls H locs hx hb hr hml hts hown hlocks hnm hK hP hD hA hS hl => ?_)
  have hown : s.vm.findClass RX2 = some m.cls := hown
  have hl : lv_has ls 2 [(0, .ref a.1)] := hl
  have hiX2 : ∀ w ∈ wsX20, w ∈ wsX2_undo := by decide +kernel
  have f0 := hts (.fieldLink RX2 23 "WellControl" "savedCount" "I") (by decide +kernel)
  have f1 := hts (.fieldLink RX2 19 "WellControl" "saved" "[LWellControl$Well;") (by decide +kernel)
  have f2 := hts (.fieldLink RX2 10 "WellControl" "well" "LWellControl$Well;") (by decide +kernel)
  unfold qX2_undo at hw
  refine lv_aload_n hx hb dX2_undo_0 rfl (lv_at hl 0 rfl) ?_
  refine va_get (ci := 2) (v := .int (sC x)) (C := RX2) (T := TX2) (N := 5) hx hb hts hiX2 hown hK.1 hP 0 rfl rfl 3 (by decide) f0 (fun _ h9 => h9) rfl dX2_undo_1 ?_
  refine lv_iconst (v := 1) hx hb dX2_undo_4 (by decide) ?_
  refine lv_icmp_ge (tgt := 15) hx hb dX2_undo_5 (by decide) (fun c1 => ?_) (fun c1 => ?_)
  · have hw := hw.1 c1
    refine lv_aload_n hx hb dX2_undo_15 rfl (lv_at hl 0 rfl) ?_
    refine lv_dup hx hb dX2_undo_16 rfl ?_
    refine va_get (ci := 2) (v := .int (sC x)) (C := RX2) (T := TX2) (N := 5) hx hb hts hiX2 hown hK.1 hP 0 rfl rfl 3 (by decide) f0 (fun _ h9 => h9) rfl dX2_undo_17 ?_
    refine lv_iconst (v := 1) hx hb dX2_undo_20 (by decide) ?_
    refine lv_isub hx hb dX2_undo_21 ?_
    refine va_put (ci := 2) (v := .int ((sC x) - 1)) (ty := .int) (C := RX2) (T := TX2) (N := 5) hx hb hts hiX2 tyX2 tyX2_ok nmX2 hown hK.1 hP hD hS 0 rfl rfl 3 (by decide) f0 (fun _ h9 => h9) rfl (by decide +kernel) rfl rfl (Nat.le_of_ble_eq_true rfl) dX2_undo_22 (fun H locs hP hD hS => ?_)
    have hP : va_P D vwCl (sysW I O a (sW x, sT x, s0 x, s1 x, s2 x, s3 x, (sC x) - 1, sE x)) H := hP
    have hD : va_D (va_A (sysW I O a x) sz) (sysW I O a (sW x, sT x, s0 x, s1 x, s2 x, s3 x, (sC x) - 1, sE x)) := hD
    refine lv_aload_n hx hb dX2_undo_25 rfl (lv_at hl 0 rfl) ?_
    refine va_get (ci := 2) (v := .ref a.2.1) (C := RX2) (T := TX2) (N := 5) hx hb hts hiX2 hown hK.1 hP 0 rfl rfl 2 (by decide) f1 (fun _ h9 => h9) rfl dX2_undo_26 ?_
    refine lv_aload_n hx hb dX2_undo_29 rfl (lv_at hl 0 rfl) ?_
    refine va_get (ci := 2) (v := .int ((sC x) - 1)) (C := RX2) (T := TX2) (N := 5) hx hb hts hiX2 hown hK.1 hP 0 rfl rfl 3 (by decide) f0 (fun _ h9 => h9) rfl dX2_undo_30 ?_
    rcases hw.2.2.2.2 with c2 | c2 | c2 | c2
    · have hw := hw.1 c2
      refine va_aldq hx hb hK.1 hP 1 1 rfl rfl (show vp_in ((sC x) - 1) 4 from by rw [c2]; exact vp_c 0 4 (by decide)) dX2_undo_33 ?_
      refine W.eq (g2 := F0 m 34 ls [.ref a.2.2.2.2.2.1.1]) (by rw [c2]; rfl) ?_
      refine lv_astore_n (lv' := [(1, .ref a.2.2.2.2.2.1.1), (0, .ref a.1)]) hx hb dX2_undo_34 rfl hl (by decide) rfl (fun ls hl => ?_)
      refine lv_aload_n hx hb dX2_undo_35 rfl (lv_at hl 1 rfl) ?_
      refine va_get (ci := 2) (v := .ref a.2.1) (C := RX2) (T := TX2) (N := 5) hx hb hts hiX2 hown hK.1 hP 0 rfl rfl 2 (by decide) f1 (fun _ h9 => h9) rfl dX2_undo_36 ?_
      refine lv_aload_n hx hb dX2_undo_39 rfl (lv_at hl 1 rfl) ?_
      refine va_get (ci := 2) (v := .int ((sC x) - 1)) (C := RX2) (T := TX2) (N := 5) hx hb hts hiX2 hown hK.1 hP 0 rfl rfl 3 (by decide) f0 (fun _ h9 => h9) rfl dX2_undo_40 ?_
      refine lv_aload_n hx hb dX2_undo_43 rfl (lv_at hl 1 rfl) ?_
      refine va_get (ci := 2) (v := .ref a.2.2.2.1.1) (C := RX2) (T := TX2) (N := 5) hx hb hts hiX2 hown hK.1 hP 0 rfl rfl 0 (by decide) f2 (fun _ h9 => h9) rfl dX2_undo_44 ?_
      refine va_astq hx hb hK.1 hP hD hS 1 1 3 1 rfl rfl rfl rfl (show vp_in ((sC x) - 1) 4 from by rw [c2]; exact vp_c 0 4 (by decide)) dX2_undo_47 (fun H locs hP hD hS => ?_)
      rw [show va_up (svF a.2.2.2.2.2.1.1 a.2.2.2.2.2.2.1.1 a.2.2.2.2.2.2.2.1.1 a.2.2.2.2.2.2.2.2.1) (Int32.toNatClampNeg ((sC x) - 1)) (some a.2.2.2.1.1) = svF a.2.2.2.1.1 a.2.2.2.2.2.2.1.1 a.2.2.2.2.2.2.2.1.1 a.2.2.2.2.2.2.2.2.1 from by rw [c2]; exact svF_up0 _ _ _ _ _] at hP hD
      have hP : va_P D vwCl (sysQ I O a.1 a.2.1 a.2.2.1 a.2.2.2.1.1 a.2.2.2.2.1.1 a.2.2.2.1.1 a.2.2.2.2.2.2.1.1 a.2.2.2.2.2.2.2.1.1 a.2.2.2.2.2.2.2.2.1 ((sC x) - 1) (sE x) ++ (welB I a.2.2.2.1 (sW x) ++ (welB I a.2.2.2.2.1 (sT x) ++ (welB I a.2.2.2.2.2.1 (s0 x) ++ (welB I a.2.2.2.2.2.2.1 (s1 x) ++ (welB I a.2.2.2.2.2.2.2.1 (s2 x) ++ welB I a.2.2.2.2.2.2.2.2 (s3 x))))))) H := hP
      have hD : va_D (va_A (sysW I O a x) sz) (sysQ I O a.1 a.2.1 a.2.2.1 a.2.2.2.1.1 a.2.2.2.2.1.1 a.2.2.2.1.1 a.2.2.2.2.2.2.1.1 a.2.2.2.2.2.2.2.1.1 a.2.2.2.2.2.2.2.2.1 ((sC x) - 1) (sE x) ++ (welB I a.2.2.2.1 (sW x) ++ (welB I a.2.2.2.2.1 (sT x) ++ (welB I a.2.2.2.2.2.1 (s0 x) ++ (welB I a.2.2.2.2.2.2.1 (s1 x) ++ (welB I a.2.2.2.2.2.2.2.1 (s2 x) ++ welB I a.2.2.2.2.2.2.2.2 (s3 x))))))) := hD
      refine lv_aload_n hx hb dX2_undo_48 rfl (lv_at hl 1 rfl) ?_
      refine lv_aload_n hx hb dX2_undo_49 rfl (lv_at hl 0 rfl) ?_
      refine va_put (ci := 2) (v := .ref a.2.2.2.2.2.1.1) (ty := .object "WellControl$Well") (C := RX2) (T := TX2) (N := 5) hx hb hts hiX2 tyX2 tyX2_ok nmX2 hown hK.1 hP hD hS 0 rfl rfl 0 (by decide) f2 (fun _ h9 => h9) rfl (by decide +kernel) rfl rfl (Nat.le_of_ble_eq_true rfl) dX2_undo_50 (fun H locs hP hD hS => ?_)
      have hP : va_P D vwCl (sysQ I O a.1 a.2.1 a.2.2.1 a.2.2.2.2.2.1.1 a.2.2.2.2.1.1 a.2.2.2.1.1 a.2.2.2.2.2.2.1.1 a.2.2.2.2.2.2.2.1.1 a.2.2.2.2.2.2.2.2.1 ((sC x) - 1) (sE x) ++ (welB I a.2.2.2.1 (sW x) ++ (welB I a.2.2.2.2.1 (sT x) ++ (welB I a.2.2.2.2.2.1 (s0 x) ++ (welB I a.2.2.2.2.2.2.1 (s1 x) ++ (welB I a.2.2.2.2.2.2.2.1 (s2 x) ++ welB I a.2.2.2.2.2.2.2.2 (s3 x))))))) H := hP
      have hD : va_D (va_A (sysW I O a x) sz) (sysQ I O a.1 a.2.1 a.2.2.1 a.2.2.2.2.2.1.1 a.2.2.2.2.1.1 a.2.2.2.1.1 a.2.2.2.2.2.2.1.1 a.2.2.2.2.2.2.2.1.1 a.2.2.2.2.2.2.2.2.1 ((sC x) - 1) (sE x) ++ (welB I a.2.2.2.1 (sW x) ++ (welB I a.2.2.2.2.1 (sT x) ++ (welB I a.2.2.2.2.2.1 (s0 x) ++ (welB I a.2.2.2.2.2.2.1 (s1 x) ++ (welB I a.2.2.2.2.2.2.2.1 (s2 x) ++ welB I a.2.2.2.2.2.2.2.2 (s3 x))))))) := hD
      refine lv_aload_n hx hb dX2_undo_53 rfl (lv_at hl 1 rfl) ?_
      refine va_get (ci := 2) (v := .int ((sC x) - 1)) (C := RX2) (T := TX2) (N := 5) hx hb hts hiX2 hown hK.1 hP 0 rfl rfl 3 (by decide) f0 (fun _ h9 => h9) rfl dX2_undo_54 ?_
      have hP := hP.sub (ws' := sysW I O (a.1, (a.2.1, a.2.2.1, a.2.2.2.2.2.1, a.2.2.2.2.1, a.2.2.2.1, a.2.2.2.2.2.2.1, a.2.2.2.2.2.2.2.1, a.2.2.2.2.2.2.2.2)) (s0 x, sT x, sW x, s1 x, s2 x, s3 x, (sC x) - 1, sE x)) [0, 1, 2, 17, 18, 19, 20, 21, 22, 23, 10, 11, 12, 13, 14, 15, 16, 3, 4, 5, 6, 7, 8, 9, 24, 25, 26, 27, 28, 29, 30, 31, 32, 33, 34, 35, 36, 37, 38, 39, 40, 41, 42, 43, 44] rfl
      have hD := hD.sub (ws' := sysW I O (a.1, (a.2.1, a.2.2.1, a.2.2.2.2.2.1, a.2.2.2.2.1, a.2.2.2.1, a.2.2.2.2.2.2.1, a.2.2.2.2.2.2.2.1, a.2.2.2.2.2.2.2.2)) (s0 x, sT x, sW x, s1 x, s2 x, s3 x, (sC x) - 1, sE x)) [0, 1, 2, 17, 18, 19, 20, 21, 22, 23, 10, 11, 12, 13, 14, 15, 16, 3, 4, 5, 6, 7, 8, 9, 24, 25, 26, 27, 28, 29, 30, 31, 32, 33, 34, 35, 36, 37, 38, 39, 40, 41, 42, 43, 44] (by decide) rfl
      exact m_iret (u := ((a.2.1, a.2.2.1, a.2.2.2.2.2.1, a.2.2.2.2.1, a.2.2.2.1, a.2.2.2.2.2.2.1, a.2.2.2.2.2.2.2.1, a.2.2.2.2.2.2.2.2), (s0 x, sT x, sW x, s1 x, s2 x, s3 x, (sC x) - 1, sE x))) hx hb hr hlocks hS hP hD dX2_undo_57 hw
    · have hw := hw.2.1 c2
      refine va_aldq hx hb hK.1 hP 1 1 rfl rfl (show vp_in ((sC x) - 1) 4 from by rw [c2]; exact vp_c 1 4 (by decide)) dX2_undo_33 ?_
      refine W.eq (g2 := F0 m 34 ls [.ref a.2.2.2.2.2.2.1.1]) (by rw [c2]; rfl) ?_
      refine lv_astore_n (lv' := [(1, .ref a.2.2.2.2.2.2.1.1), (0, .ref a.1)]) hx hb dX2_undo_34 rfl hl (by decide) rfl (fun ls hl => ?_)
      refine lv_aload_n hx hb dX2_undo_35 rfl (lv_at hl 1 rfl) ?_
      refine va_get (ci := 2) (v := .ref a.2.1) (C := RX2) (T := TX2) (N := 5) hx hb hts hiX2 hown hK.1 hP 0 rfl rfl 2 (by decide) f1 (fun _ h9 => h9) rfl dX2_undo_36 ?_
      refine lv_aload_n hx hb dX2_undo_39 rfl (lv_at hl 1 rfl) ?_
      refine va_get (ci := 2) (v := .int ((sC x) - 1)) (C := RX2) (T := TX2) (N := 5) hx hb hts hiX2 hown hK.1 hP 0 rfl rfl 3 (by decide) f0 (fun _ h9 => h9) rfl dX2_undo_40 ?_
      refine lv_aload_n hx hb dX2_undo_43 rfl (lv_at hl 1 rfl) ?_
      refine va_get (ci := 2) (v := .ref a.2.2.2.1.1) (C := RX2) (T := TX2) (N := 5) hx hb hts hiX2 hown hK.1 hP 0 rfl rfl 0 (by decide) f2 (fun _ h9 => h9) rfl dX2_undo_44 ?_
      refine va_astq hx hb hK.1 hP hD hS 1 1 3 1 rfl rfl rfl rfl (show vp_in ((sC x) - 1) 4 from by rw [c2]; exact vp_c 1 4 (by decide)) dX2_undo_47 (fun H locs hP hD hS => ?_)
      rw [show va_up (svF a.2.2.2.2.2.1.1 a.2.2.2.2.2.2.1.1 a.2.2.2.2.2.2.2.1.1 a.2.2.2.2.2.2.2.2.1) (Int32.toNatClampNeg ((sC x) - 1)) (some a.2.2.2.1.1) = svF a.2.2.2.2.2.1.1 a.2.2.2.1.1 a.2.2.2.2.2.2.2.1.1 a.2.2.2.2.2.2.2.2.1 from by rw [c2]; exact svF_up1 _ _ _ _ _] at hP hD
      have hP : va_P D vwCl (sysQ I O a.1 a.2.1 a.2.2.1 a.2.2.2.1.1 a.2.2.2.2.1.1 a.2.2.2.2.2.1.1 a.2.2.2.1.1 a.2.2.2.2.2.2.2.1.1 a.2.2.2.2.2.2.2.2.1 ((sC x) - 1) (sE x) ++ (welB I a.2.2.2.1 (sW x) ++ (welB I a.2.2.2.2.1 (sT x) ++ (welB I a.2.2.2.2.2.1 (s0 x) ++ (welB I a.2.2.2.2.2.2.1 (s1 x) ++ (welB I a.2.2.2.2.2.2.2.1 (s2 x) ++ welB I a.2.2.2.2.2.2.2.2 (s3 x))))))) H := hP
      have hD : va_D (va_A (sysW I O a x) sz) (sysQ I O a.1 a.2.1 a.2.2.1 a.2.2.2.1.1 a.2.2.2.2.1.1 a.2.2.2.2.2.1.1 a.2.2.2.1.1 a.2.2.2.2.2.2.2.1.1 a.2.2.2.2.2.2.2.2.1 ((sC x) - 1) (sE x) ++ (welB I a.2.2.2.1 (sW x) ++ (welB I a.2.2.2.2.1 (sT x) ++ (welB I a.2.2.2.2.2.1 (s0 x) ++ (welB I a.2.2.2.2.2.2.1 (s1 x) ++ (welB I a.2.2.2.2.2.2.2.1 (s2 x) ++ welB I a.2.2.2.2.2.2.2.2 (s3 x))))))) := hD
      refine lv_aload_n hx hb dX2_undo_48 rfl (lv_at hl 1 rfl) ?_
      refine lv_aload_n hx hb dX2_undo_49 rfl (lv_at hl 0 rfl) ?_
      refine va_put (ci := 2) (v := .ref a.2.2.2.2.2.2.1.1) (ty := .object "WellControl$Well") (C := RX2) (T := TX2) (N := 5) hx hb hts hiX2 tyX2 tyX2_ok nmX2 hown hK.1 hP hD hS 0 rfl rfl 0 (by decide) f2 (fun _ h9 => h9) rfl (by decide +kernel) rfl rfl (Nat.le_of_ble_eq_true rfl) dX2_undo_50 (fun H locs hP hD hS => ?_)
      have hP : va_P D vwCl (sysQ I O a.1 a.2.1 a.2.2.1 a.2.2.2.2.2.2.1.1 a.2.2.2.2.1.1 a.2.2.2.2.2.1.1 a.2.2.2.1.1 a.2.2.2.2.2.2.2.1.1 a.2.2.2.2.2.2.2.2.1 ((sC x) - 1) (sE x) ++ (welB I a.2.2.2.1 (sW x) ++ (welB I a.2.2.2.2.1 (sT x) ++ (welB I a.2.2.2.2.2.1 (s0 x) ++ (welB I a.2.2.2.2.2.2.1 (s1 x) ++ (welB I a.2.2.2.2.2.2.2.1 (s2 x) ++ welB I a.2.2.2.2.2.2.2.2 (s3 x))))))) H := hP
      have hD : va_D (va_A (sysW I O a x) sz) (sysQ I O a.1 a.2.1 a.2.2.1 a.2.2.2.2.2.2.1.1 a.2.2.2.2.1.1 a.2.2.2.2.2.1.1 a.2.2.2.1.1 a.2.2.2.2.2.2.2.1.1 a.2.2.2.2.2.2.2.2.1 ((sC x) - 1) (sE x) ++ (welB I a.2.2.2.1 (sW x) ++ (welB I a.2.2.2.2.1 (sT x) ++ (welB I a.2.2.2.2.2.1 (s0 x) ++ (welB I a.2.2.2.2.2.2.1 (s1 x) ++ (welB I a.2.2.2.2.2.2.2.1 (s2 x) ++ welB I a.2.2.2.2.2.2.2.2 (s3 x))))))) := hD
      refine lv_aload_n hx hb dX2_undo_53 rfl (lv_at hl 1 rfl) ?_
      refine va_get (ci := 2) (v := .int ((sC x) - 1)) (C := RX2) (T := TX2) (N := 5) hx hb hts hiX2 hown hK.1 hP 0 rfl rfl 3 (by decide) f0 (fun _ h9 => h9) rfl dX2_undo_54 ?_
      have hP := hP.sub (ws' := sysW I O (a.1, (a.2.1, a.2.2.1, a.2.2.2.2.2.2.1, a.2.2.2.2.1, a.2.2.2.2.2.1, a.2.2.2.1, a.2.2.2.2.2.2.2.1, a.2.2.2.2.2.2.2.2)) (s1 x, sT x, s0 x, sW x, s2 x, s3 x, (sC x) - 1, sE x)) [0, 1, 2, 24, 25, 26, 27, 28, 29, 30, 10, 11, 12, 13, 14, 15, 16, 17, 18, 19, 20, 21, 22, 23, 3, 4, 5, 6, 7, 8, 9, 31, 32, 33, 34, 35, 36, 37, 38, 39, 40, 41, 42, 43, 44] rfl
      have hD := hD.sub (ws' := sysW I O (a.1, (a.2.1, a.2.2.1, a.2.2.2.2.2.2.1, a.2.2.2.2.1, a.2.2.2.2.2.1, a.2.2.2.1, a.2.2.2.2.2.2.2.1, a.2.2.2.2.2.2.2.2)) (s1 x, sT x, s0 x, sW x, s2 x, s3 x, (sC x) - 1, sE x)) [0, 1, 2, 24, 25, 26, 27, 28, 29, 30, 10, 11, 12, 13, 14, 15, 16, 17, 18, 19, 20, 21, 22, 23, 3, 4, 5, 6, 7, 8, 9, 31, 32, 33, 34, 35, 36, 37, 38, 39, 40, 41, 42, 43, 44] (by decide) rfl
      exact m_iret (u := ((a.2.1, a.2.2.1, a.2.2.2.2.2.2.1, a.2.2.2.2.1, a.2.2.2.2.2.1, a.2.2.2.1, a.2.2.2.2.2.2.2.1, a.2.2.2.2.2.2.2.2), (s1 x, sT x, s0 x, sW x, s2 x, s3 x, (sC x) - 1, sE x))) hx hb hr hlocks hS hP hD dX2_undo_57 hw
    · have hw := hw.2.2.1 c2
      refine va_aldq hx hb hK.1 hP 1 1 rfl rfl (show vp_in ((sC x) - 1) 4 from by rw [c2]; exact vp_c 2 4 (by decide)) dX2_undo_33 ?_
      refine W.eq (g2 := F0 m 34 ls [.ref a.2.2.2.2.2.2.2.1.1]) (by rw [c2]; rfl) ?_
      refine lv_astore_n (lv' := [(1, .ref a.2.2.2.2.2.2.2.1.1), (0, .ref a.1)]) hx hb dX2_undo_34 rfl hl (by decide) rfl (fun ls hl => ?_)
      refine lv_aload_n hx hb dX2_undo_35 rfl (lv_at hl 1 rfl) ?_
      refine va_get (ci := 2) (v := .ref a.2.1) (C := RX2) (T := TX2) (N := 5) hx hb hts hiX2 hown hK.1 hP 0 rfl rfl 2 (by decide) f1 (fun _ h9 => h9) rfl dX2_undo_36 ?_
      refine lv_aload_n hx hb dX2_undo_39 rfl (lv_at hl 1 rfl) ?_
      refine va_get (ci := 2) (v := .int ((sC x) - 1)) (C := RX2) (T := TX2) (N := 5) hx hb hts hiX2 hown hK.1 hP 0 rfl rfl 3 (by decide) f0 (fun _ h9 => h9) rfl dX2_undo_40 ?_
      refine lv_aload_n hx hb dX2_undo_43 rfl (lv_at hl 1 rfl) ?_
      refine va_get (ci := 2) (v := .ref a.2.2.2.1.1) (C := RX2) (T := TX2) (N := 5) hx hb hts hiX2 hown hK.1 hP 0 rfl rfl 0 (by decide) f2 (fun _ h9 => h9) rfl dX2_undo_44 ?_
      refine va_astq hx hb hK.1 hP hD hS 1 1 3 1 rfl rfl rfl rfl (show vp_in ((sC x) - 1) 4 from by rw [c2]; exact vp_c 2 4 (by decide)) dX2_undo_47 (fun H locs hP hD hS => ?_)
      rw [show va_up (svF a.2.2.2.2.2.1.1 a.2.2.2.2.2.2.1.1 a.2.2.2.2.2.2.2.1.1 a.2.2.2.2.2.2.2.2.1) (Int32.toNatClampNeg ((sC x) - 1)) (some a.2.2.2.1.1) = svF a.2.2.2.2.2.1.1 a.2.2.2.2.2.2.1.1 a.2.2.2.1.1 a.2.2.2.2.2.2.2.2.1 from by rw [c2]; exact svF_up2 _ _ _ _ _] at hP hD
      have hP : va_P D vwCl (sysQ I O a.1 a.2.1 a.2.2.1 a.2.2.2.1.1 a.2.2.2.2.1.1 a.2.2.2.2.2.1.1 a.2.2.2.2.2.2.1.1 a.2.2.2.1.1 a.2.2.2.2.2.2.2.2.1 ((sC x) - 1) (sE x) ++ (welB I a.2.2.2.1 (sW x) ++ (welB I a.2.2.2.2.1 (sT x) ++ (welB I a.2.2.2.2.2.1 (s0 x) ++ (welB I a.2.2.2.2.2.2.1 (s1 x) ++ (welB I a.2.2.2.2.2.2.2.1 (s2 x) ++ welB I a.2.2.2.2.2.2.2.2 (s3 x))))))) H := hP
      have hD : va_D (va_A (sysW I O a x) sz) (sysQ I O a.1 a.2.1 a.2.2.1 a.2.2.2.1.1 a.2.2.2.2.1.1 a.2.2.2.2.2.1.1 a.2.2.2.2.2.2.1.1 a.2.2.2.1.1 a.2.2.2.2.2.2.2.2.1 ((sC x) - 1) (sE x) ++ (welB I a.2.2.2.1 (sW x) ++ (welB I a.2.2.2.2.1 (sT x) ++ (welB I a.2.2.2.2.2.1 (s0 x) ++ (welB I a.2.2.2.2.2.2.1 (s1 x) ++ (welB I a.2.2.2.2.2.2.2.1 (s2 x) ++ welB I a.2.2.2.2.2.2.2.2 (s3 x))))))) := hD
      refine lv_aload_n hx hb dX2_undo_48 rfl (lv_at hl 1 rfl) ?_
      refine lv_aload_n hx hb dX2_undo_49 rfl (lv_at hl 0 rfl) ?_
      refine va_put (ci := 2) (v := .ref a.2.2.2.2.2.2.2.1.1) (ty := .object "WellControl$Well") (C := RX2) (T := TX2) (N := 5) hx hb hts hiX2 tyX2 tyX2_ok nmX2 hown hK.1 hP hD hS 0 rfl rfl 0 (by decide) f2 (fun _ h9 => h9) rfl (by decide +kernel) rfl rfl (Nat.le_of_ble_eq_true rfl) dX2_undo_50 (fun H locs hP hD hS => ?_)
      have hP : va_P D vwCl (sysQ I O a.1 a.2.1 a.2.2.1 a.2.2.2.2.2.2.2.1.1 a.2.2.2.2.1.1 a.2.2.2.2.2.1.1 a.2.2.2.2.2.2.1.1 a.2.2.2.1.1 a.2.2.2.2.2.2.2.2.1 ((sC x) - 1) (sE x) ++ (welB I a.2.2.2.1 (sW x) ++ (welB I a.2.2.2.2.1 (sT x) ++ (welB I a.2.2.2.2.2.1 (s0 x) ++ (welB I a.2.2.2.2.2.2.1 (s1 x) ++ (welB I a.2.2.2.2.2.2.2.1 (s2 x) ++ welB I a.2.2.2.2.2.2.2.2 (s3 x))))))) H := hP
      have hD : va_D (va_A (sysW I O a x) sz) (sysQ I O a.1 a.2.1 a.2.2.1 a.2.2.2.2.2.2.2.1.1 a.2.2.2.2.1.1 a.2.2.2.2.2.1.1 a.2.2.2.2.2.2.1.1 a.2.2.2.1.1 a.2.2.2.2.2.2.2.2.1 ((sC x) - 1) (sE x) ++ (welB I a.2.2.2.1 (sW x) ++ (welB I a.2.2.2.2.1 (sT x) ++ (welB I a.2.2.2.2.2.1 (s0 x) ++ (welB I a.2.2.2.2.2.2.1 (s1 x) ++ (welB I a.2.2.2.2.2.2.2.1 (s2 x) ++ welB I a.2.2.2.2.2.2.2.2 (s3 x))))))) := hD
      refine lv_aload_n hx hb dX2_undo_53 rfl (lv_at hl 1 rfl) ?_
      refine va_get (ci := 2) (v := .int ((sC x) - 1)) (C := RX2) (T := TX2) (N := 5) hx hb hts hiX2 hown hK.1 hP 0 rfl rfl 3 (by decide) f0 (fun _ h9 => h9) rfl dX2_undo_54 ?_
      have hP := hP.sub (ws' := sysW I O (a.1, (a.2.1, a.2.2.1, a.2.2.2.2.2.2.2.1, a.2.2.2.2.1, a.2.2.2.2.2.1, a.2.2.2.2.2.2.1, a.2.2.2.1, a.2.2.2.2.2.2.2.2)) (s2 x, sT x, s0 x, s1 x, sW x, s3 x, (sC x) - 1, sE x)) [0, 1, 2, 31, 32, 33, 34, 35, 36, 37, 10, 11, 12, 13, 14, 15, 16, 17, 18, 19, 20, 21, 22, 23, 24, 25, 26, 27, 28, 29, 30, 3, 4, 5, 6, 7, 8, 9, 38, 39, 40, 41, 42, 43, 44] rfl
      have hD := hD.sub (ws' := sysW I O (a.1, (a.2.1, a.2.2.1, a.2.2.2.2.2.2.2.1, a.2.2.2.2.1, a.2.2.2.2.2.1, a.2.2.2.2.2.2.1, a.2.2.2.1, a.2.2.2.2.2.2.2.2)) (s2 x, sT x, s0 x, s1 x, sW x, s3 x, (sC x) - 1, sE x)) [0, 1, 2, 31, 32, 33, 34, 35, 36, 37, 10, 11, 12, 13, 14, 15, 16, 17, 18, 19, 20, 21, 22, 23, 24, 25, 26, 27, 28, 29, 30, 3, 4, 5, 6, 7, 8, 9, 38, 39, 40, 41, 42, 43, 44] (by decide) rfl
      exact m_iret (u := ((a.2.1, a.2.2.1, a.2.2.2.2.2.2.2.1, a.2.2.2.2.1, a.2.2.2.2.2.1, a.2.2.2.2.2.2.1, a.2.2.2.1, a.2.2.2.2.2.2.2.2), (s2 x, sT x, s0 x, s1 x, sW x, s3 x, (sC x) - 1, sE x))) hx hb hr hlocks hS hP hD dX2_undo_57 hw
    · have hw := hw.2.2.2.1 c2
      refine va_aldq hx hb hK.1 hP 1 1 rfl rfl (show vp_in ((sC x) - 1) 4 from by rw [c2]; exact vp_c 3 4 (by decide)) dX2_undo_33 ?_
      refine W.eq (g2 := F0 m 34 ls [.ref a.2.2.2.2.2.2.2.2.1]) (by rw [c2]; rfl) ?_
      refine lv_astore_n (lv' := [(1, .ref a.2.2.2.2.2.2.2.2.1), (0, .ref a.1)]) hx hb dX2_undo_34 rfl hl (by decide) rfl (fun ls hl => ?_)
      refine lv_aload_n hx hb dX2_undo_35 rfl (lv_at hl 1 rfl) ?_
      refine va_get (ci := 2) (v := .ref a.2.1) (C := RX2) (T := TX2) (N := 5) hx hb hts hiX2 hown hK.1 hP 0 rfl rfl 2 (by decide) f1 (fun _ h9 => h9) rfl dX2_undo_36 ?_
      refine lv_aload_n hx hb dX2_undo_39 rfl (lv_at hl 1 rfl) ?_
      refine va_get (ci := 2) (v := .int ((sC x) - 1)) (C := RX2) (T := TX2) (N := 5) hx hb hts hiX2 hown hK.1 hP 0 rfl rfl 3 (by decide) f0 (fun _ h9 => h9) rfl dX2_undo_40 ?_
      refine lv_aload_n hx hb dX2_undo_43 rfl (lv_at hl 1 rfl) ?_
      refine va_get (ci := 2) (v := .ref a.2.2.2.1.1) (C := RX2) (T := TX2) (N := 5) hx hb hts hiX2 hown hK.1 hP 0 rfl rfl 0 (by decide) f2 (fun _ h9 => h9) rfl dX2_undo_44 ?_
      refine va_astq hx hb hK.1 hP hD hS 1 1 3 1 rfl rfl rfl rfl (show vp_in ((sC x) - 1) 4 from by rw [c2]; exact vp_c 3 4 (by decide)) dX2_undo_47 (fun H locs hP hD hS => ?_)
      rw [show va_up (svF a.2.2.2.2.2.1.1 a.2.2.2.2.2.2.1.1 a.2.2.2.2.2.2.2.1.1 a.2.2.2.2.2.2.2.2.1) (Int32.toNatClampNeg ((sC x) - 1)) (some a.2.2.2.1.1) = svF a.2.2.2.2.2.1.1 a.2.2.2.2.2.2.1.1 a.2.2.2.2.2.2.2.1.1 a.2.2.2.1.1 from by rw [c2]; exact svF_up3 _ _ _ _ _] at hP hD
      have hP : va_P D vwCl (sysQ I O a.1 a.2.1 a.2.2.1 a.2.2.2.1.1 a.2.2.2.2.1.1 a.2.2.2.2.2.1.1 a.2.2.2.2.2.2.1.1 a.2.2.2.2.2.2.2.1.1 a.2.2.2.1.1 ((sC x) - 1) (sE x) ++ (welB I a.2.2.2.1 (sW x) ++ (welB I a.2.2.2.2.1 (sT x) ++ (welB I a.2.2.2.2.2.1 (s0 x) ++ (welB I a.2.2.2.2.2.2.1 (s1 x) ++ (welB I a.2.2.2.2.2.2.2.1 (s2 x) ++ welB I a.2.2.2.2.2.2.2.2 (s3 x))))))) H := hP
      have hD : va_D (va_A (sysW I O a x) sz) (sysQ I O a.1 a.2.1 a.2.2.1 a.2.2.2.1.1 a.2.2.2.2.1.1 a.2.2.2.2.2.1.1 a.2.2.2.2.2.2.1.1 a.2.2.2.2.2.2.2.1.1 a.2.2.2.1.1 ((sC x) - 1) (sE x) ++ (welB I a.2.2.2.1 (sW x) ++ (welB I a.2.2.2.2.1 (sT x) ++ (welB I a.2.2.2.2.2.1 (s0 x) ++ (welB I a.2.2.2.2.2.2.1 (s1 x) ++ (welB I a.2.2.2.2.2.2.2.1 (s2 x) ++ welB I a.2.2.2.2.2.2.2.2 (s3 x))))))) := hD
      refine lv_aload_n hx hb dX2_undo_48 rfl (lv_at hl 1 rfl) ?_
      refine lv_aload_n hx hb dX2_undo_49 rfl (lv_at hl 0 rfl) ?_
      refine va_put (ci := 2) (v := .ref a.2.2.2.2.2.2.2.2.1) (ty := .object "WellControl$Well") (C := RX2) (T := TX2) (N := 5) hx hb hts hiX2 tyX2 tyX2_ok nmX2 hown hK.1 hP hD hS 0 rfl rfl 0 (by decide) f2 (fun _ h9 => h9) rfl (by decide +kernel) rfl rfl (Nat.le_of_ble_eq_true rfl) dX2_undo_50 (fun H locs hP hD hS => ?_)
      have hP : va_P D vwCl (sysQ I O a.1 a.2.1 a.2.2.1 a.2.2.2.2.2.2.2.2.1 a.2.2.2.2.1.1 a.2.2.2.2.2.1.1 a.2.2.2.2.2.2.1.1 a.2.2.2.2.2.2.2.1.1 a.2.2.2.1.1 ((sC x) - 1) (sE x) ++ (welB I a.2.2.2.1 (sW x) ++ (welB I a.2.2.2.2.1 (sT x) ++ (welB I a.2.2.2.2.2.1 (s0 x) ++ (welB I a.2.2.2.2.2.2.1 (s1 x) ++ (welB I a.2.2.2.2.2.2.2.1 (s2 x) ++ welB I a.2.2.2.2.2.2.2.2 (s3 x))))))) H := hP
      have hD : va_D (va_A (sysW I O a x) sz) (sysQ I O a.1 a.2.1 a.2.2.1 a.2.2.2.2.2.2.2.2.1 a.2.2.2.2.1.1 a.2.2.2.2.2.1.1 a.2.2.2.2.2.2.1.1 a.2.2.2.2.2.2.2.1.1 a.2.2.2.1.1 ((sC x) - 1) (sE x) ++ (welB I a.2.2.2.1 (sW x) ++ (welB I a.2.2.2.2.1 (sT x) ++ (welB I a.2.2.2.2.2.1 (s0 x) ++ (welB I a.2.2.2.2.2.2.1 (s1 x) ++ (welB I a.2.2.2.2.2.2.2.1 (s2 x) ++ welB I a.2.2.2.2.2.2.2.2 (s3 x))))))) := hD
      refine lv_aload_n hx hb dX2_undo_53 rfl (lv_at hl 1 rfl) ?_
      refine va_get (ci := 2) (v := .int ((sC x) - 1)) (C := RX2) (T := TX2) (N := 5) hx hb hts hiX2 hown hK.1 hP 0 rfl rfl 3 (by decide) f0 (fun _ h9 => h9) rfl dX2_undo_54 ?_
      have hP := hP.sub (ws' := sysW I O (a.1, (a.2.1, a.2.2.1, a.2.2.2.2.2.2.2.2, a.2.2.2.2.1, a.2.2.2.2.2.1, a.2.2.2.2.2.2.1, a.2.2.2.2.2.2.2.1, a.2.2.2.1)) (s3 x, sT x, s0 x, s1 x, s2 x, sW x, (sC x) - 1, sE x)) [0, 1, 2, 38, 39, 40, 41, 42, 43, 44, 10, 11, 12, 13, 14, 15, 16, 17, 18, 19, 20, 21, 22, 23, 24, 25, 26, 27, 28, 29, 30, 31, 32, 33, 34, 35, 36, 37, 3, 4, 5, 6, 7, 8, 9] rfl
      have hD := hD.sub (ws' := sysW I O (a.1, (a.2.1, a.2.2.1, a.2.2.2.2.2.2.2.2, a.2.2.2.2.1, a.2.2.2.2.2.1, a.2.2.2.2.2.2.1, a.2.2.2.2.2.2.2.1, a.2.2.2.1)) (s3 x, sT x, s0 x, s1 x, s2 x, sW x, (sC x) - 1, sE x)) [0, 1, 2, 38, 39, 40, 41, 42, 43, 44, 10, 11, 12, 13, 14, 15, 16, 17, 18, 19, 20, 21, 22, 23, 24, 25, 26, 27, 28, 29, 30, 31, 32, 33, 34, 35, 36, 37, 3, 4, 5, 6, 7, 8, 9] (by decide) rfl
      exact m_iret (u := ((a.2.1, a.2.2.1, a.2.2.2.2.2.2.2.2, a.2.2.2.2.1, a.2.2.2.2.2.1, a.2.2.2.2.2.2.1, a.2.2.2.2.2.2.2.1, a.2.2.2.1), (s3 x, sT x, s0 x, s1 x, s2 x, sW x, (sC x) - 1, sE x))) hx hb hr hlocks hS hP hD dX2_undo_57 hw
  · have hw := hw.2 c1
    refine lv_aload_n hx hb dX2_undo_8 rfl (lv_at hl 0 rfl) ?_
    refine lv_bipush (v := (-5)) hx hb dX2_undo_9 (by decide) ?_
    refine mw_i (mv_V (As := [.int (-5)]) (rest := []) ⟨hx, hb, hml, hown, hts⟩ (kX2_refuse l D I O a H.size x (-5) _ hw) (cwV 1 hts gX2_undo_X2_refuse rfl rfl rfl hdVX2_refuse ⟨(Nat.le_of_ble_eq_true rfl), (Nat.le_of_ble_eq_true rfl)⟩) hK hP hD 0 2 rfl rfl rfl rfl hl.1 rfl (Nat.le_of_ble_eq_true rfl) dX2_undo_11 ⟨(Nat.le_of_ble_eq_true rfl), (Nat.le_of_ble_eq_true rfl)⟩) hP hD hS hA (fun r3 u4 H locs hw hP hD hS => ?_)
    have hP : va_P D vwCl (sysW I O a u4) H := hP
    have hD : va_D (va_A (sysW I O a x) sz) (sysW I O a u4) := hD
    exact m_iret (u := (a.2, u4)) hx hb hr hlocks hS hP hD dX2_undo_14 hw
def qX2_setMud (x : Sys) (p1 : Int32) (Q : Int32 → Sys → Prop) : Prop := (qX2_within p1 1 2500 (fun r1 => ((¬ r1 = 0 → (qX2_save x (fun u3 => (∀ v4 : Int32, v4 = y4 (sW u3) → Q v4 ((y0 (sW u3), y1 (sW u3), y2 (sW u3), y3 (sW u3), p1, y5 (sW u3), y6 (sW u3), y7 (sW u3), y8 (sW u3), y9 (sW u3), y10 (sW u3), yP (sW u3), yA (sW u3)), sT u3, s0 u3, s1 u3, s2 u3, s3 u3, sC u3, sE u3))))) ∧ (r1 = 0 → (qX2_refuse x (-2) (fun r5 u6 => Q r5 u6))))))
set_option maxHeartbeats 4000000 in
set_option maxRecDepth 100000 in
theorem kX2_setMud (l : Launch) (D : va_G) (I O : ClassId) (a : SA) (sz : Nat) (x : Sys) (p1 : Int32) (Q : Int32 → Sys → Prop) (hw : qX2_setMud x p1 Q) : Met l yX2_setMud wsX2_setMud rX2_setMud (mPc D I O [.ref a.1, .int p1] (sysW I O a x) sz) (va_Qi (fun r (u : (Nat × Nat × WA × WA × WA × WA × WA × WA) × Sys) => Q r u.2) (mB D (va_A (sysW I O a x) sz) (fun u => sysW I O (a.1, u.1) u.2)) (va_A (sysW I O a x) sz)) 0 0 (va_A (sysW I O a x) sz) := by
  refine m_start (by decide) rfl (Nat.le_of_ble_eq_true rfl) (fun p e s m below meth c ls H locs hx hb hr hml hts hown hlocks hnm hK hP hD hA hS hl => ?_)
  have hown : s.vm.findClass RX2 = some m.cls := hown
  have hl : lv_has ls 3 [(0, .ref a.1), (1, .int p1)] := hl
  have hiX1 : ∀ w ∈ wsX10, w ∈ wsX2_setMud := by decide +kernel
  have hiX2 : ∀ w ∈ wsX20, w ∈ wsX2_setMud := by decide +kernel
  have f0 := hts (.fieldLink RX2 10 "WellControl" "well" "LWellControl$Well;") (by decide +kernel)
  have f1 := hts (.fieldLink RX2 64 "WellControl$Well" "mud" "I") (by decide +kernel)
  unfold qX2_setMud at hw
  refine lv_iload_n hx hb dX2_setMud_0 rfl (lv_at hl 1 rfl) ?_
  refine lv_iconst (v := 1) hx hb dX2_setMud_1 (by decide) ?_
  refine lv_sipush (v := 2500) hx hb dX2_setMud_2 (by decide) ?_
  refine m0_i (mv_S (As := [.int p1, .int 1, .int 2500]) (rest := []) ⟨hx, hb, hml, hown, hts⟩ (kX2_within l D I O H.size p1 1 2500 _ hw) (va_cwS 3 hts gX2_setMud_X2_within rfl rfl rfl hdSX2_within ⟨(Nat.le_of_ble_eq_true rfl), (Nat.le_of_ble_eq_true rfl)⟩) hK (nil_P (D := D) (H := H)) (nil_D (A := va_A (sysW I O a x) sz)) rfl hl.1 rfl (Nat.le_of_ble_eq_true rfl) dX2_setMud_5 ⟨(Nat.le_of_ble_eq_true rfl), (Nat.le_of_ble_eq_true rfl)⟩) hP hD hS hA (fun r1 _ H locs hw hP hD hS => ?_)
  refine lv_if_ne (tgt := 18) hx hb dX2_setMud_8 (by decide) (fun c2 => ?_) (fun c2 => ?_)
  · have hw := hw.1 c2
    refine lv_aload_n hx hb dX2_setMud_18 rfl (lv_at hl 0 rfl) ?_
    refine mw_v (mv_V (As := []) (rest := []) ⟨hx, hb, hml, hown, hts⟩ (kX2_save l D I O a H.size x _ hw) (cwV 0 hts gX2_setMud_X2_save rfl rfl rfl hdVX2_save ⟨(Nat.le_of_ble_eq_true rfl), (Nat.le_of_ble_eq_true rfl)⟩) hK hP hD 0 2 rfl rfl rfl rfl hl.1 rfl (Nat.le_of_ble_eq_true rfl) dX2_setMud_19 ⟨(Nat.le_of_ble_eq_true rfl), (Nat.le_of_ble_eq_true rfl)⟩) hP hD hS hA (fun u3 H locs hw hP hD hS => ?_)
    obtain ⟨du3, u3⟩ := u3
    have hP : va_P D vwCl (sysW I O (a.1, du3) u3) H := hP
    have hD : va_D (va_A (sysW I O a x) sz) (sysW I O (a.1, du3) u3) := hD
    refine lv_aload_n hx hb dX2_setMud_22 rfl (lv_at hl 0 rfl) ?_
    refine va_get (ci := 2) (v := .ref du3.2.2.1.1) (C := RX2) (T := TX2) (N := 5) hx hb hts hiX2 hown hK.1 hP 0 rfl rfl 0 (by decide) f0 (fun _ h9 => h9) rfl dX2_setMud_23 ?_
    refine va_get (ci := 1) (v := .int (y4 (sW u3))) (C := RX1) (T := TX1) (N := 13) hx hb hts hiX1 hown hK.1 hP 3 rfl rfl 4 (by decide) f1 (fun _ h9 => h9) rfl dX2_setMud_26 ?_
    refine lv_topi (fun v4 ev4 => ?_)
    have hw := hw v4 ev4
    refine lv_istore_n (lv' := [(2, .int v4), (0, .ref a.1), (1, .int p1)]) hx hb dX2_setMud_29 rfl hl (by decide) rfl (fun ls hl => ?_)
    refine lv_aload_n hx hb dX2_setMud_30 rfl (lv_at hl 1 rfl) ?_
    refine va_get (ci := 2) (v := .ref du3.2.2.1.1) (C := RX2) (T := TX2) (N := 5) hx hb hts hiX2 hown hK.1 hP 0 rfl rfl 0 (by decide) f0 (fun _ h9 => h9) rfl dX2_setMud_31 ?_
    refine lv_iload_n hx hb dX2_setMud_34 rfl (lv_at hl 2 rfl) ?_
    refine va_put (ci := 1) (v := .int p1) (ty := .int) (C := RX1) (T := TX1) (N := 13) hx hb hts hiX1 tyX1 tyX1_ok nmX1 hown hK.1 hP hD hS 3 rfl rfl 4 (by decide) f1 (fun _ h9 => h9) rfl (by decide +kernel) rfl rfl (Nat.le_of_ble_eq_true rfl) dX2_setMud_35 (fun H locs hP hD hS => ?_)
    have hP : va_P D vwCl (sysW I O (a.1, du3) ((y0 (sW u3), y1 (sW u3), y2 (sW u3), y3 (sW u3), p1, y5 (sW u3), y6 (sW u3), y7 (sW u3), y8 (sW u3), y9 (sW u3), y10 (sW u3), yP (sW u3), yA (sW u3)), sT u3, s0 u3, s1 u3, s2 u3, s3 u3, sC u3, sE u3)) H := hP
    have hD : va_D (va_A (sysW I O a x) sz) (sysW I O (a.1, du3) ((y0 (sW u3), y1 (sW u3), y2 (sW u3), y3 (sW u3), p1, y5 (sW u3), y6 (sW u3), y7 (sW u3), y8 (sW u3), y9 (sW u3), y10 (sW u3), yP (sW u3), yA (sW u3)), sT u3, s0 u3, s1 u3, s2 u3, s3 u3, sC u3, sE u3)) := hD
    refine lv_iload_n hx hb dX2_setMud_38 rfl (lv_at hl 0 rfl) ?_
    exact m_iret (u := (du3, ((y0 (sW u3), y1 (sW u3), y2 (sW u3), y3 (sW u3), p1, y5 (sW u3), y6 (sW u3), y7 (sW u3), y8 (sW u3), y9 (sW u3), y10 (sW u3), yP (sW u3), yA (sW u3)), sT u3, s0 u3, s1 u3, s2 u3, s3 u3, sC u3, sE u3))) hx hb hr hlocks hS hP hD dX2_setMud_39 hw
  · have hw := hw.2 c2
    refine lv_aload_n hx hb dX2_setMud_11 rfl (lv_at hl 0 rfl) ?_
    refine lv_bipush (v := (-2)) hx hb dX2_setMud_12 (by decide) ?_
    refine mw_i (mv_V (As := [.int (-2)]) (rest := []) ⟨hx, hb, hml, hown, hts⟩ (kX2_refuse l D I O a H.size x (-2) _ hw) (cwV 1 hts gX2_setMud_X2_refuse rfl rfl rfl hdVX2_refuse ⟨(Nat.le_of_ble_eq_true rfl), (Nat.le_of_ble_eq_true rfl)⟩) hK hP hD 0 2 rfl rfl rfl rfl hl.1 rfl (Nat.le_of_ble_eq_true rfl) dX2_setMud_14 ⟨(Nat.le_of_ble_eq_true rfl), (Nat.le_of_ble_eq_true rfl)⟩) hP hD hS hA (fun r5 u6 H locs hw hP hD hS => ?_)
    have hP : va_P D vwCl (sysW I O a u6) H := hP
    have hD : va_D (va_A (sysW I O a x) sz) (sysW I O a u6) := hD
    exact m_iret (u := (a.2, u6)) hx hb hr hlocks hS hP hD dX2_setMud_17 hw
def qX2_setFormation (x : Sys) (p1 : Int32) (Q : Int32 → Sys → Prop) : Prop := (qX2_within p1 0 60000 (fun r1 => ((¬ r1 = 0 → (qX2_save x (fun u3 => (∀ v4 : Int32, v4 = y5 (sW u3) → Q v4 ((y0 (sW u3), y1 (sW u3), y2 (sW u3), y3 (sW u3), y4 (sW u3), p1, y6 (sW u3), y7 (sW u3), y8 (sW u3), y9 (sW u3), y10 (sW u3), yP (sW u3), yA (sW u3)), sT u3, s0 u3, s1 u3, s2 u3, s3 u3, sC u3, sE u3))))) ∧ (r1 = 0 → (qX2_refuse x (-2) (fun r5 u6 => Q r5 u6))))))
set_option maxHeartbeats 4000000 in
set_option maxRecDepth 100000 in
theorem kX2_setFormation (l : Launch) (D : va_G) (I O : ClassId) (a : SA) (sz : Nat) (x : Sys) (p1 : Int32) (Q : Int32 → Sys → Prop) (hw : qX2_setFormation x p1 Q) : Met l yX2_setFormation wsX2_setFormation rX2_setFormation (mPc D I O [.ref a.1, .int p1] (sysW I O a x) sz) (va_Qi (fun r (u : (Nat × Nat × WA × WA × WA × WA × WA × WA) × Sys) => Q r u.2) (mB D (va_A (sysW I O a x) sz) (fun u => sysW I O (a.1, u.1) u.2)) (va_A (sysW I O a x) sz)) 0 0 (va_A (sysW I O a x) sz) := by
  refine m_start (by decide) rfl (Nat.le_of_ble_eq_true rfl) (fun p e s m below meth c ls H locs hx hb hr hml hts hown hlocks hnm hK hP hD hA hS hl => ?_)
  have hown : s.vm.findClass RX2 = some m.cls := hown
  have hl : lv_has ls 3 [(0, .ref a.1), (1, .int p1)] := hl
  have hiX1 : ∀ w ∈ wsX10, w ∈ wsX2_setFormation := by decide +kernel
  have hiX2 : ∀ w ∈ wsX20, w ∈ wsX2_setFormation := by decide +kernel
  have f0 := hts (.constant RX2 67 (60000)) (by decide +kernel)
  have f1 := hts (.fieldLink RX2 10 "WellControl" "well" "LWellControl$Well;") (by decide +kernel)
  have f2 := hts (.fieldLink RX2 68 "WellControl$Well" "formation" "I") (by decide +kernel)
  unfold qX2_setFormation at hw
  refine lv_iload_n hx hb dX2_setFormation_0 rfl (lv_at hl 1 rfl) ?_
  refine lv_iconst (v := 0) hx hb dX2_setFormation_1 (by decide) ?_
  refine lv_ldc (v := 60000) hx hb hown f0 dX2_setFormation_2 ?_
  refine m0_i (mv_S (As := [.int p1, .int 0, .int 60000]) (rest := []) ⟨hx, hb, hml, hown, hts⟩ (kX2_within l D I O H.size p1 0 60000 _ hw) (va_cwS 3 hts gX2_setFormation_X2_within rfl rfl rfl hdSX2_within ⟨(Nat.le_of_ble_eq_true rfl), (Nat.le_of_ble_eq_true rfl)⟩) hK (nil_P (D := D) (H := H)) (nil_D (A := va_A (sysW I O a x) sz)) rfl hl.1 rfl (Nat.le_of_ble_eq_true rfl) dX2_setFormation_4 ⟨(Nat.le_of_ble_eq_true rfl), (Nat.le_of_ble_eq_true rfl)⟩) hP hD hS hA (fun r1 _ H locs hw hP hD hS => ?_)
  refine lv_if_ne (tgt := 17) hx hb dX2_setFormation_7 (by decide) (fun c2 => ?_) (fun c2 => ?_)
  · have hw := hw.1 c2
    refine lv_aload_n hx hb dX2_setFormation_17 rfl (lv_at hl 0 rfl) ?_
    refine mw_v (mv_V (As := []) (rest := []) ⟨hx, hb, hml, hown, hts⟩ (kX2_save l D I O a H.size x _ hw) (cwV 0 hts gX2_setFormation_X2_save rfl rfl rfl hdVX2_save ⟨(Nat.le_of_ble_eq_true rfl), (Nat.le_of_ble_eq_true rfl)⟩) hK hP hD 0 2 rfl rfl rfl rfl hl.1 rfl (Nat.le_of_ble_eq_true rfl) dX2_setFormation_18 ⟨(Nat.le_of_ble_eq_true rfl), (Nat.le_of_ble_eq_true rfl)⟩) hP hD hS hA (fun u3 H locs hw hP hD hS => ?_)
    obtain ⟨du3, u3⟩ := u3
    have hP : va_P D vwCl (sysW I O (a.1, du3) u3) H := hP
    have hD : va_D (va_A (sysW I O a x) sz) (sysW I O (a.1, du3) u3) := hD
    refine lv_aload_n hx hb dX2_setFormation_21 rfl (lv_at hl 0 rfl) ?_
    refine va_get (ci := 2) (v := .ref du3.2.2.1.1) (C := RX2) (T := TX2) (N := 5) hx hb hts hiX2 hown hK.1 hP 0 rfl rfl 0 (by decide) f1 (fun _ h9 => h9) rfl dX2_setFormation_22 ?_
    refine va_get (ci := 1) (v := .int (y5 (sW u3))) (C := RX1) (T := TX1) (N := 13) hx hb hts hiX1 hown hK.1 hP 3 rfl rfl 5 (by decide) f2 (fun _ h9 => h9) rfl dX2_setFormation_25 ?_
    refine lv_topi (fun v4 ev4 => ?_)
    have hw := hw v4 ev4
    refine lv_istore_n (lv' := [(2, .int v4), (0, .ref a.1), (1, .int p1)]) hx hb dX2_setFormation_28 rfl hl (by decide) rfl (fun ls hl => ?_)
    refine lv_aload_n hx hb dX2_setFormation_29 rfl (lv_at hl 1 rfl) ?_
    refine va_get (ci := 2) (v := .ref du3.2.2.1.1) (C := RX2) (T := TX2) (N := 5) hx hb hts hiX2 hown hK.1 hP 0 rfl rfl 0 (by decide) f1 (fun _ h9 => h9) rfl dX2_setFormation_30 ?_
    refine lv_iload_n hx hb dX2_setFormation_33 rfl (lv_at hl 2 rfl) ?_
    refine va_put (ci := 1) (v := .int p1) (ty := .int) (C := RX1) (T := TX1) (N := 13) hx hb hts hiX1 tyX1 tyX1_ok nmX1 hown hK.1 hP hD hS 3 rfl rfl 5 (by decide) f2 (fun _ h9 => h9) rfl (by decide +kernel) rfl rfl (Nat.le_of_ble_eq_true rfl) dX2_setFormation_34 (fun H locs hP hD hS => ?_)
    have hP : va_P D vwCl (sysW I O (a.1, du3) ((y0 (sW u3), y1 (sW u3), y2 (sW u3), y3 (sW u3), y4 (sW u3), p1, y6 (sW u3), y7 (sW u3), y8 (sW u3), y9 (sW u3), y10 (sW u3), yP (sW u3), yA (sW u3)), sT u3, s0 u3, s1 u3, s2 u3, s3 u3, sC u3, sE u3)) H := hP
    have hD : va_D (va_A (sysW I O a x) sz) (sysW I O (a.1, du3) ((y0 (sW u3), y1 (sW u3), y2 (sW u3), y3 (sW u3), y4 (sW u3), p1, y6 (sW u3), y7 (sW u3), y8 (sW u3), y9 (sW u3), y10 (sW u3), yP (sW u3), yA (sW u3)), sT u3, s0 u3, s1 u3, s2 u3, s3 u3, sC u3, sE u3)) := hD
    refine lv_iload_n hx hb dX2_setFormation_37 rfl (lv_at hl 0 rfl) ?_
    exact m_iret (u := (du3, ((y0 (sW u3), y1 (sW u3), y2 (sW u3), y3 (sW u3), y4 (sW u3), p1, y6 (sW u3), y7 (sW u3), y8 (sW u3), y9 (sW u3), y10 (sW u3), yP (sW u3), yA (sW u3)), sT u3, s0 u3, s1 u3, s2 u3, s3 u3, sC u3, sE u3))) hx hb hr hlocks hS hP hD dX2_setFormation_38 hw
  · have hw := hw.2 c2
    refine lv_aload_n hx hb dX2_setFormation_10 rfl (lv_at hl 0 rfl) ?_
    refine lv_bipush (v := (-2)) hx hb dX2_setFormation_11 (by decide) ?_
    refine mw_i (mv_V (As := [.int (-2)]) (rest := []) ⟨hx, hb, hml, hown, hts⟩ (kX2_refuse l D I O a H.size x (-2) _ hw) (cwV 1 hts gX2_setFormation_X2_refuse rfl rfl rfl hdVX2_refuse ⟨(Nat.le_of_ble_eq_true rfl), (Nat.le_of_ble_eq_true rfl)⟩) hK hP hD 0 2 rfl rfl rfl rfl hl.1 rfl (Nat.le_of_ble_eq_true rfl) dX2_setFormation_13 ⟨(Nat.le_of_ble_eq_true rfl), (Nat.le_of_ble_eq_true rfl)⟩) hP hD hS hA (fun r5 u6 H locs hw hP hD hS => ?_)
    have hP : va_P D vwCl (sysW I O a u6) H := hP
    have hD : va_D (va_A (sysW I O a x) sz) (sysW I O a u6) := hD
    exact m_iret (u := (a.2, u6)) hx hb hr hlocks hS hP hD dX2_setFormation_16 hw
def qX2_setSlowPump (x : Sys) (p1 : Int32) (Q : Int32 → Sys → Prop) : Prop := (qX2_within p1 0 9999 (fun r1 => ((¬ r1 = 0 → (qX2_save x (fun u3 => (∀ v4 : Int32, v4 = y6 (sW u3) → Q v4 ((y0 (sW u3), y1 (sW u3), y2 (sW u3), y3 (sW u3), y4 (sW u3), y5 (sW u3), p1, y7 (sW u3), y8 (sW u3), y9 (sW u3), y10 (sW u3), yP (sW u3), yA (sW u3)), sT u3, s0 u3, s1 u3, s2 u3, s3 u3, sC u3, sE u3))))) ∧ (r1 = 0 → (qX2_refuse x (-2) (fun r5 u6 => Q r5 u6))))))
set_option maxHeartbeats 4000000 in
set_option maxRecDepth 100000 in
theorem kX2_setSlowPump (l : Launch) (D : va_G) (I O : ClassId) (a : SA) (sz : Nat) (x : Sys) (p1 : Int32) (Q : Int32 → Sys → Prop) (hw : qX2_setSlowPump x p1 Q) : Met l yX2_setSlowPump wsX2_setSlowPump rX2_setSlowPump (mPc D I O [.ref a.1, .int p1] (sysW I O a x) sz) (va_Qi (fun r (u : (Nat × Nat × WA × WA × WA × WA × WA × WA) × Sys) => Q r u.2) (mB D (va_A (sysW I O a x) sz) (fun u => sysW I O (a.1, u.1) u.2)) (va_A (sysW I O a x) sz)) 0 0 (va_A (sysW I O a x) sz) := by
  refine m_start (by decide) rfl (Nat.le_of_ble_eq_true rfl) (fun p e s m below meth c ls H locs hx hb hr hml hts hown hlocks hnm hK hP hD hA hS hl => ?_)
  have hown : s.vm.findClass RX2 = some m.cls := hown
  have hl : lv_has ls 3 [(0, .ref a.1), (1, .int p1)] := hl
  have hiX1 : ∀ w ∈ wsX10, w ∈ wsX2_setSlowPump := by decide +kernel
  have hiX2 : ∀ w ∈ wsX20, w ∈ wsX2_setSlowPump := by decide +kernel
  have f0 := hts (.fieldLink RX2 10 "WellControl" "well" "LWellControl$Well;") (by decide +kernel)
  have f1 := hts (.fieldLink RX2 71 "WellControl$Well" "slowPump" "I") (by decide +kernel)
  unfold qX2_setSlowPump at hw
  refine lv_iload_n hx hb dX2_setSlowPump_0 rfl (lv_at hl 1 rfl) ?_
  refine lv_iconst (v := 0) hx hb dX2_setSlowPump_1 (by decide) ?_
  refine lv_sipush (v := 9999) hx hb dX2_setSlowPump_2 (by decide) ?_
  refine m0_i (mv_S (As := [.int p1, .int 0, .int 9999]) (rest := []) ⟨hx, hb, hml, hown, hts⟩ (kX2_within l D I O H.size p1 0 9999 _ hw) (va_cwS 3 hts gX2_setSlowPump_X2_within rfl rfl rfl hdSX2_within ⟨(Nat.le_of_ble_eq_true rfl), (Nat.le_of_ble_eq_true rfl)⟩) hK (nil_P (D := D) (H := H)) (nil_D (A := va_A (sysW I O a x) sz)) rfl hl.1 rfl (Nat.le_of_ble_eq_true rfl) dX2_setSlowPump_5 ⟨(Nat.le_of_ble_eq_true rfl), (Nat.le_of_ble_eq_true rfl)⟩) hP hD hS hA (fun r1 _ H locs hw hP hD hS => ?_)
  refine lv_if_ne (tgt := 18) hx hb dX2_setSlowPump_8 (by decide) (fun c2 => ?_) (fun c2 => ?_)
  · have hw := hw.1 c2
    refine lv_aload_n hx hb dX2_setSlowPump_18 rfl (lv_at hl 0 rfl) ?_
    refine mw_v (mv_V (As := []) (rest := []) ⟨hx, hb, hml, hown, hts⟩ (kX2_save l D I O a H.size x _ hw) (cwV 0 hts gX2_setSlowPump_X2_save rfl rfl rfl hdVX2_save ⟨(Nat.le_of_ble_eq_true rfl), (Nat.le_of_ble_eq_true rfl)⟩) hK hP hD 0 2 rfl rfl rfl rfl hl.1 rfl (Nat.le_of_ble_eq_true rfl) dX2_setSlowPump_19 ⟨(Nat.le_of_ble_eq_true rfl), (Nat.le_of_ble_eq_true rfl)⟩) hP hD hS hA (fun u3 H locs hw hP hD hS => ?_)
    obtain ⟨du3, u3⟩ := u3
    have hP : va_P D vwCl (sysW I O (a.1, du3) u3) H := hP
    have hD : va_D (va_A (sysW I O a x) sz) (sysW I O (a.1, du3) u3) := hD
    refine lv_aload_n hx hb dX2_setSlowPump_22 rfl (lv_at hl 0 rfl) ?_
    refine va_get (ci := 2) (v := .ref du3.2.2.1.1) (C := RX2) (T := TX2) (N := 5) hx hb hts hiX2 hown hK.1 hP 0 rfl rfl 0 (by decide) f0 (fun _ h9 => h9) rfl dX2_setSlowPump_23 ?_
    refine va_get (ci := 1) (v := .int (y6 (sW u3))) (C := RX1) (T := TX1) (N := 13) hx hb hts hiX1 hown hK.1 hP 3 rfl rfl 6 (by decide) f1 (fun _ h9 => h9) rfl dX2_setSlowPump_26 ?_
    refine lv_topi (fun v4 ev4 => ?_)
    have hw := hw v4 ev4
    refine lv_istore_n (lv' := [(2, .int v4), (0, .ref a.1), (1, .int p1)]) hx hb dX2_setSlowPump_29 rfl hl (by decide) rfl (fun ls hl => ?_)
    refine lv_aload_n hx hb dX2_setSlowPump_30 rfl (lv_at hl 1 rfl) ?_
    refine va_get (ci := 2) (v := .ref du3.2.2.1.1) (C := RX2) (T := TX2) (N := 5) hx hb hts hiX2 hown hK.1 hP 0 rfl rfl 0 (by decide) f0 (fun _ h9 => h9) rfl dX2_setSlowPump_31 ?_
    refine lv_iload_n hx hb dX2_setSlowPump_34 rfl (lv_at hl 2 rfl) ?_
    refine va_put (ci := 1) (v := .int p1) (ty := .int) (C := RX1) (T := TX1) (N := 13) hx hb hts hiX1 tyX1 tyX1_ok nmX1 hown hK.1 hP hD hS 3 rfl rfl 6 (by decide) f1 (fun _ h9 => h9) rfl (by decide +kernel) rfl rfl (Nat.le_of_ble_eq_true rfl) dX2_setSlowPump_35 (fun H locs hP hD hS => ?_)
    have hP : va_P D vwCl (sysW I O (a.1, du3) ((y0 (sW u3), y1 (sW u3), y2 (sW u3), y3 (sW u3), y4 (sW u3), y5 (sW u3), p1, y7 (sW u3), y8 (sW u3), y9 (sW u3), y10 (sW u3), yP (sW u3), yA (sW u3)), sT u3, s0 u3, s1 u3, s2 u3, s3 u3, sC u3, sE u3)) H := hP
    have hD : va_D (va_A (sysW I O a x) sz) (sysW I O (a.1, du3) ((y0 (sW u3), y1 (sW u3), y2 (sW u3), y3 (sW u3), y4 (sW u3), y5 (sW u3), p1, y7 (sW u3), y8 (sW u3), y9 (sW u3), y10 (sW u3), yP (sW u3), yA (sW u3)), sT u3, s0 u3, s1 u3, s2 u3, s3 u3, sC u3, sE u3)) := hD
    refine lv_iload_n hx hb dX2_setSlowPump_38 rfl (lv_at hl 0 rfl) ?_
    exact m_iret (u := (du3, ((y0 (sW u3), y1 (sW u3), y2 (sW u3), y3 (sW u3), y4 (sW u3), y5 (sW u3), p1, y7 (sW u3), y8 (sW u3), y9 (sW u3), y10 (sW u3), yP (sW u3), yA (sW u3)), sT u3, s0 u3, s1 u3, s2 u3, s3 u3, sC u3, sE u3))) hx hb hr hlocks hS hP hD dX2_setSlowPump_39 hw
  · have hw := hw.2 c2
    refine lv_aload_n hx hb dX2_setSlowPump_11 rfl (lv_at hl 0 rfl) ?_
    refine lv_bipush (v := (-2)) hx hb dX2_setSlowPump_12 (by decide) ?_
    refine mw_i (mv_V (As := [.int (-2)]) (rest := []) ⟨hx, hb, hml, hown, hts⟩ (kX2_refuse l D I O a H.size x (-2) _ hw) (cwV 1 hts gX2_setSlowPump_X2_refuse rfl rfl rfl hdVX2_refuse ⟨(Nat.le_of_ble_eq_true rfl), (Nat.le_of_ble_eq_true rfl)⟩) hK hP hD 0 2 rfl rfl rfl rfl hl.1 rfl (Nat.le_of_ble_eq_true rfl) dX2_setSlowPump_14 ⟨(Nat.le_of_ble_eq_true rfl), (Nat.le_of_ble_eq_true rfl)⟩) hP hD hS hA (fun r5 u6 H locs hw hP hD hS => ?_)
    have hP : va_P D vwCl (sysW I O a u6) H := hP
    have hD : va_D (va_A (sysW I O a x) sz) (sysW I O a u6) := hD
    exact m_iret (u := (a.2, u6)) hx hb hr hlocks hS hP hD dX2_setSlowPump_17 hw
def qX2_setFracture (x : Sys) (p1 : Int32) (Q : Int32 → Sys → Prop) : Prop := (qX2_within p1 0 60000 (fun r1 => ((¬ r1 = 0 → (qX2_save x (fun u3 => (∀ v4 : Int32, v4 = y7 (sW u3) → Q v4 ((y0 (sW u3), y1 (sW u3), y2 (sW u3), y3 (sW u3), y4 (sW u3), y5 (sW u3), y6 (sW u3), p1, y8 (sW u3), y9 (sW u3), y10 (sW u3), yP (sW u3), yA (sW u3)), sT u3, s0 u3, s1 u3, s2 u3, s3 u3, sC u3, sE u3))))) ∧ (r1 = 0 → (qX2_refuse x (-2) (fun r5 u6 => Q r5 u6))))))
set_option maxHeartbeats 4000000 in
set_option maxRecDepth 100000 in
theorem kX2_setFracture (l : Launch) (D : va_G) (I O : ClassId) (a : SA) (sz : Nat) (x : Sys) (p1 : Int32) (Q : Int32 → Sys → Prop) (hw : qX2_setFracture x p1 Q) : Met l yX2_setFracture wsX2_setFracture rX2_setFracture (mPc D I O [.ref a.1, .int p1] (sysW I O a x) sz) (va_Qi (fun r (u : (Nat × Nat × WA × WA × WA × WA × WA × WA) × Sys) => Q r u.2) (mB D (va_A (sysW I O a x) sz) (fun u => sysW I O (a.1, u.1) u.2)) (va_A (sysW I O a x) sz)) 0 0 (va_A (sysW I O a x) sz) := by
  refine m_start (by decide) rfl (Nat.le_of_ble_eq_true rfl) (fun p e s m below meth c ls H locs hx hb hr hml hts hown hlocks hnm hK hP hD hA hS hl => ?_)
  have hown : s.vm.findClass RX2 = some m.cls := hown
  have hl : lv_has ls 3 [(0, .ref a.1), (1, .int p1)] := hl
  have hiX1 : ∀ w ∈ wsX10, w ∈ wsX2_setFracture := by decide +kernel
  have hiX2 : ∀ w ∈ wsX20, w ∈ wsX2_setFracture := by decide +kernel
  have f0 := hts (.constant RX2 67 (60000)) (by decide +kernel)
  have f1 := hts (.fieldLink RX2 10 "WellControl" "well" "LWellControl$Well;") (by decide +kernel)
  have f2 := hts (.fieldLink RX2 74 "WellControl$Well" "fracture" "I") (by decide +kernel)
  unfold qX2_setFracture at hw
  refine lv_iload_n hx hb dX2_setFracture_0 rfl (lv_at hl 1 rfl) ?_
  refine lv_iconst (v := 0) hx hb dX2_setFracture_1 (by decide) ?_
  refine lv_ldc (v := 60000) hx hb hown f0 dX2_setFracture_2 ?_
  refine m0_i (mv_S (As := [.int p1, .int 0, .int 60000]) (rest := []) ⟨hx, hb, hml, hown, hts⟩ (kX2_within l D I O H.size p1 0 60000 _ hw) (va_cwS 3 hts gX2_setFracture_X2_within rfl rfl rfl hdSX2_within ⟨(Nat.le_of_ble_eq_true rfl), (Nat.le_of_ble_eq_true rfl)⟩) hK (nil_P (D := D) (H := H)) (nil_D (A := va_A (sysW I O a x) sz)) rfl hl.1 rfl (Nat.le_of_ble_eq_true rfl) dX2_setFracture_4 ⟨(Nat.le_of_ble_eq_true rfl), (Nat.le_of_ble_eq_true rfl)⟩) hP hD hS hA (fun r1 _ H locs hw hP hD hS => ?_)
  refine lv_if_ne (tgt := 17) hx hb dX2_setFracture_7 (by decide) (fun c2 => ?_) (fun c2 => ?_)
  · have hw := hw.1 c2
    refine lv_aload_n hx hb dX2_setFracture_17 rfl (lv_at hl 0 rfl) ?_
    refine mw_v (mv_V (As := []) (rest := []) ⟨hx, hb, hml, hown, hts⟩ (kX2_save l D I O a H.size x _ hw) (cwV 0 hts gX2_setFracture_X2_save rfl rfl rfl hdVX2_save ⟨(Nat.le_of_ble_eq_true rfl), (Nat.le_of_ble_eq_true rfl)⟩) hK hP hD 0 2 rfl rfl rfl rfl hl.1 rfl (Nat.le_of_ble_eq_true rfl) dX2_setFracture_18 ⟨(Nat.le_of_ble_eq_true rfl), (Nat.le_of_ble_eq_true rfl)⟩) hP hD hS hA (fun u3 H locs hw hP hD hS => ?_)
    obtain ⟨du3, u3⟩ := u3
    have hP : va_P D vwCl (sysW I O (a.1, du3) u3) H := hP
    have hD : va_D (va_A (sysW I O a x) sz) (sysW I O (a.1, du3) u3) := hD
    refine lv_aload_n hx hb dX2_setFracture_21 rfl (lv_at hl 0 rfl) ?_
    refine va_get (ci := 2) (v := .ref du3.2.2.1.1) (C := RX2) (T := TX2) (N := 5) hx hb hts hiX2 hown hK.1 hP 0 rfl rfl 0 (by decide) f1 (fun _ h9 => h9) rfl dX2_setFracture_22 ?_
    refine va_get (ci := 1) (v := .int (y7 (sW u3))) (C := RX1) (T := TX1) (N := 13) hx hb hts hiX1 hown hK.1 hP 3 rfl rfl 7 (by decide) f2 (fun _ h9 => h9) rfl dX2_setFracture_25 ?_
    refine lv_topi (fun v4 ev4 => ?_)
    have hw := hw v4 ev4
    refine lv_istore_n (lv' := [(2, .int v4), (0, .ref a.1), (1, .int p1)]) hx hb dX2_setFracture_28 rfl hl (by decide) rfl (fun ls hl => ?_)
    refine lv_aload_n hx hb dX2_setFracture_29 rfl (lv_at hl 1 rfl) ?_
    refine va_get (ci := 2) (v := .ref du3.2.2.1.1) (C := RX2) (T := TX2) (N := 5) hx hb hts hiX2 hown hK.1 hP 0 rfl rfl 0 (by decide) f1 (fun _ h9 => h9) rfl dX2_setFracture_30 ?_
    refine lv_iload_n hx hb dX2_setFracture_33 rfl (lv_at hl 2 rfl) ?_
    refine va_put (ci := 1) (v := .int p1) (ty := .int) (C := RX1) (T := TX1) (N := 13) hx hb hts hiX1 tyX1 tyX1_ok nmX1 hown hK.1 hP hD hS 3 rfl rfl 7 (by decide) f2 (fun _ h9 => h9) rfl (by decide +kernel) rfl rfl (Nat.le_of_ble_eq_true rfl) dX2_setFracture_34 (fun H locs hP hD hS => ?_)
    have hP : va_P D vwCl (sysW I O (a.1, du3) ((y0 (sW u3), y1 (sW u3), y2 (sW u3), y3 (sW u3), y4 (sW u3), y5 (sW u3), y6 (sW u3), p1, y8 (sW u3), y9 (sW u3), y10 (sW u3), yP (sW u3), yA (sW u3)), sT u3, s0 u3, s1 u3, s2 u3, s3 u3, sC u3, sE u3)) H := hP
    have hD : va_D (va_A (sysW I O a x) sz) (sysW I O (a.1, du3) ((y0 (sW u3), y1 (sW u3), y2 (sW u3), y3 (sW u3), y4 (sW u3), y5 (sW u3), y6 (sW u3), p1, y8 (sW u3), y9 (sW u3), y10 (sW u3), yP (sW u3), yA (sW u3)), sT u3, s0 u3, s1 u3, s2 u3, s3 u3, sC u3, sE u3)) := hD
    refine lv_iload_n hx hb dX2_setFracture_37 rfl (lv_at hl 0 rfl) ?_
    exact m_iret (u := (du3, ((y0 (sW u3), y1 (sW u3), y2 (sW u3), y3 (sW u3), y4 (sW u3), y5 (sW u3), y6 (sW u3), p1, y8 (sW u3), y9 (sW u3), y10 (sW u3), yP (sW u3), yA (sW u3)), sT u3, s0 u3, s1 u3, s2 u3, s3 u3, sC u3, sE u3))) hx hb hr hlocks hS hP hD dX2_setFracture_38 hw
  · have hw := hw.2 c2
    refine lv_aload_n hx hb dX2_setFracture_10 rfl (lv_at hl 0 rfl) ?_
    refine lv_bipush (v := (-2)) hx hb dX2_setFracture_11 (by decide) ?_
    refine mw_i (mv_V (As := [.int (-2)]) (rest := []) ⟨hx, hb, hml, hown, hts⟩ (kX2_refuse l D I O a H.size x (-2) _ hw) (cwV 1 hts gX2_setFracture_X2_refuse rfl rfl rfl hdVX2_refuse ⟨(Nat.le_of_ble_eq_true rfl), (Nat.le_of_ble_eq_true rfl)⟩) hK hP hD 0 2 rfl rfl rfl rfl hl.1 rfl (Nat.le_of_ble_eq_true rfl) dX2_setFracture_13 ⟨(Nat.le_of_ble_eq_true rfl), (Nat.le_of_ble_eq_true rfl)⟩) hP hD hS hA (fun r5 u6 H locs hw hP hD hS => ?_)
    have hP : va_P D vwCl (sysW I O a u6) H := hP
    have hD : va_D (va_A (sysW I O a x) sz) (sysW I O a u6) := hD
    exact m_iret (u := (a.2, u6)) hx hb hr hlocks hS hP hD dX2_setFracture_16 hw
def qX2_setGeometry (x : Sys) (p1 : Int32) (p2 : Int32) (p3 : Int32) (p4 : Int32) (Q : Int32 → Sys → Prop) : Prop := (qX2_within p1 100 3000 (fun r1 => ((r1 = 0 → (qX2_refuse x (-2) (fun r4 u5 => Q r4 u5))) ∧ (¬ r1 = 0 → (qX2_within p2 1 20 (fun r6 => ((r6 = 0 → (qX2_refuse x (-2) (fun r9 u10 => Q r9 u10))) ∧ (¬ r6 = 0 → (qX2_within p3 5 60 (fun r11 => ((r11 = 0 → (qX2_refuse x (-2) (fun r14 u15 => Q r14 u15))) ∧ (¬ r11 = 0 → (qX2_within p4 1 p1 (fun r16 => ((r16 = 0 → (qX2_refuse x (-2) (fun r19 u20 => Q r19 u20))) ∧ (¬ r16 = 0 → (qX2_save x (fun u22 => (qX1_startAnew (p1, p2, p3, p4, y4 (sW u22), y5 (sW u22), y6 (sW u22), y7 (sW u22), y8 (sW u22), y9 (sW u22), y10 (sW u22), yP (sW u22), yA (sW u22)) (fun u23 => (qX1_pipeVolume u23 (fun r24 => (qX1_annulusVolume u23 (fun r25 => Q (r24 + r25) (u23, sT u22, s0 u22, s1 u22, s2 u22, s3 u22, sC u22, sE u22)))))))))))))))))))))))))
set_option maxHeartbeats 4000000 in
set_option maxRecDepth 100000 in
theorem kX2_setGeometry (l : Launch) (D : va_G) (I O : ClassId) (a : SA) (sz : Nat) (x : Sys) (p1 : Int32) (p2 : Int32) (p3 : Int32) (p4 : Int32) (Q : Int32 → Sys → Prop) (hw : qX2_setGeometry x p1 p2 p3 p4 Q) : Met l yX2_setGeometry wsX2_setGeometry rX2_setGeometry (mPc D I O [.ref a.1, .int p1, .int p2, .int p3, .int p4] (sysW I O a x) sz) (va_Qi (fun r (u : (Nat × Nat × WA × WA × WA × WA × WA × WA) × Sys) => Q r u.2) (mB D (va_A (sysW I O a x) sz) (fun u => sysW I O (a.1, u.1) u.2)) (va_A (sysW I O a x) sz)) 0 0 (va_A (sysW I O a x) sz) := by
  refine m_start (by decide) rfl (Nat.le_of_ble_eq_true rfl) (fun p e s m below meth c ls H locs hx hb hr hml hts hown hlocks hnm hK hP hD hA hS hl => ?_)
  have hown : s.vm.findClass RX2 = some m.cls := hown
  have hl : lv_has ls 6 [(0, .ref a.1), (1, .int p1), (2, .int p2), (3, .int p3), (4, .int p4)] := hl
  have hiX1 : ∀ w ∈ wsX10, w ∈ wsX2_setGeometry := by decide +kernel
  have hiX2 : ∀ w ∈ wsX20, w ∈ wsX2_setGeometry := by decide +kernel
  have f0 := hts (.fieldLink RX2 10 "WellControl" "well" "LWellControl$Well;") (by decide +kernel)
  have f1 := hts (.fieldLink RX2 42 "WellControl$Well" "depth" "I") (by decide +kernel)
  have f2 := hts (.fieldLink RX2 45 "WellControl$Well" "pipeCapacity" "I") (by decide +kernel)
  have f3 := hts (.fieldLink RX2 48 "WellControl$Well" "annulusCapacity" "I") (by decide +kernel)
  have f4 := hts (.fieldLink RX2 51 "WellControl$Well" "shoe" "I") (by decide +kernel)
  unfold qX2_setGeometry at hw
  refine lv_iload_n hx hb dX2_setGeometry_0 rfl (lv_at hl 1 rfl) ?_
  refine lv_bipush (v := 100) hx hb dX2_setGeometry_1 (by decide) ?_
  refine lv_sipush (v := 3000) hx hb dX2_setGeometry_3 (by decide) ?_
  refine m0_i (mv_S (As := [.int p1, .int 100, .int 3000]) (rest := []) ⟨hx, hb, hml, hown, hts⟩ (kX2_within l D I O H.size p1 100 3000 _ hw) (va_cwS 3 hts gX2_setGeometry_X2_within rfl rfl rfl hdSX2_within ⟨(Nat.le_of_ble_eq_true rfl), (Nat.le_of_ble_eq_true rfl)⟩) hK (nil_P (D := D) (H := H)) (nil_D (A := va_A (sysW I O a x) sz)) rfl hl.1 rfl (Nat.le_of_ble_eq_true rfl) dX2_setGeometry_6 ⟨(Nat.le_of_ble_eq_true rfl), (Nat.le_of_ble_eq_true rfl)⟩) hP hD hS hA (fun r1 _ H locs hw hP hD hS => ?_)
  refine lv_if_eq (tgt := 46) hx hb dX2_setGeometry_9 (by decide) (fun c2 => ?_) (fun c2 => ?_)
  · have hw := hw.1 c2
    refine lv_iconst (v := 0) hx hb dX2_setGeometry_46 (by decide) ?_
    refine lv_istore (lv' := [(5, .int 0), (0, .ref a.1), (1, .int p1), (2, .int p2), (3, .int p3), (4, .int p4)]) hx hb dX2_setGeometry_47 hl (by decide) rfl (fun ls hl => ?_)
    refine lv_iload hx hb dX2_setGeometry_49 (lv_at hl 0 rfl) ?_
    refine lv_if_ne (tgt := 61) hx hb dX2_setGeometry_51 (by decide) (fun c3 => ?_) (fun c3 => ?_)
    · exact absurd (show (0 : Int32) = (0 : Int32) from by decide) c3
    · refine lv_aload_n hx hb dX2_setGeometry_54 rfl (lv_at hl 1 rfl) ?_
      refine lv_bipush (v := (-2)) hx hb dX2_setGeometry_55 (by decide) ?_
      refine mw_i (mv_V (As := [.int (-2)]) (rest := []) ⟨hx, hb, hml, hown, hts⟩ (kX2_refuse l D I O a H.size x (-2) _ hw) (cwV 1 hts gX2_setGeometry_X2_refuse rfl rfl rfl hdVX2_refuse ⟨(Nat.le_of_ble_eq_true rfl), (Nat.le_of_ble_eq_true rfl)⟩) hK hP hD 0 2 rfl rfl rfl rfl hl.1 rfl (Nat.le_of_ble_eq_true rfl) dX2_setGeometry_57 ⟨(Nat.le_of_ble_eq_true rfl), (Nat.le_of_ble_eq_true rfl)⟩) hP hD hS hA (fun r4 u5 H locs hw hP hD hS => ?_)
      have hP : va_P D vwCl (sysW I O a u5) H := hP
      have hD : va_D (va_A (sysW I O a x) sz) (sysW I O a u5) := hD
      exact m_iret (u := (a.2, u5)) hx hb hr hlocks hS hP hD dX2_setGeometry_60 hw
  · have hw := hw.2 c2
    refine lv_iload_n hx hb dX2_setGeometry_12 rfl (lv_at hl 2 rfl) ?_
    refine lv_iconst (v := 1) hx hb dX2_setGeometry_13 (by decide) ?_
    refine lv_bipush (v := 20) hx hb dX2_setGeometry_14 (by decide) ?_
    refine m0_i (mv_S (As := [.int p2, .int 1, .int 20]) (rest := []) ⟨hx, hb, hml, hown, hts⟩ (kX2_within l D I O H.size p2 1 20 _ hw) (va_cwS 3 hts gX2_setGeometry_X2_within rfl rfl rfl hdSX2_within ⟨(Nat.le_of_ble_eq_true rfl), (Nat.le_of_ble_eq_true rfl)⟩) hK (nil_P (D := D) (H := H)) (nil_D (A := va_A (sysW I O a x) sz)) rfl hl.1 rfl (Nat.le_of_ble_eq_true rfl) dX2_setGeometry_16 ⟨(Nat.le_of_ble_eq_true rfl), (Nat.le_of_ble_eq_true rfl)⟩) hP hD hS hA (fun r6 _ H locs hw hP hD hS => ?_)
    refine lv_if_eq (tgt := 46) hx hb dX2_setGeometry_19 (by decide) (fun c7 => ?_) (fun c7 => ?_)
    · have hw := hw.1 c7
      refine lv_iconst (v := 0) hx hb dX2_setGeometry_46 (by decide) ?_
      refine lv_istore (lv' := [(5, .int 0), (0, .ref a.1), (1, .int p1), (2, .int p2), (3, .int p3), (4, .int p4)]) hx hb dX2_setGeometry_47 hl (by decide) rfl (fun ls hl => ?_)
      refine lv_iload hx hb dX2_setGeometry_49 (lv_at hl 0 rfl) ?_
      refine lv_if_ne (tgt := 61) hx hb dX2_setGeometry_51 (by decide) (fun c8 => ?_) (fun c8 => ?_)
      · exact absurd (show (0 : Int32) = (0 : Int32) from by decide) c8
      · refine lv_aload_n hx hb dX2_setGeometry_54 rfl (lv_at hl 1 rfl) ?_
        refine lv_bipush (v := (-2)) hx hb dX2_setGeometry_55 (by decide) ?_
        refine mw_i (mv_V (As := [.int (-2)]) (rest := []) ⟨hx, hb, hml, hown, hts⟩ (kX2_refuse l D I O a H.size x (-2) _ hw) (cwV 1 hts gX2_setGeometry_X2_refuse rfl rfl rfl hdVX2_refuse ⟨(Nat.le_of_ble_eq_true rfl), (Nat.le_of_ble_eq_true rfl)⟩) hK hP hD 0 2 rfl rfl rfl rfl hl.1 rfl (Nat.le_of_ble_eq_true rfl) dX2_setGeometry_57 ⟨(Nat.le_of_ble_eq_true rfl), (Nat.le_of_ble_eq_true rfl)⟩) hP hD hS hA (fun r9 u10 H locs hw hP hD hS => ?_)
        have hP : va_P D vwCl (sysW I O a u10) H := hP
        have hD : va_D (va_A (sysW I O a x) sz) (sysW I O a u10) := hD
        exact m_iret (u := (a.2, u10)) hx hb hr hlocks hS hP hD dX2_setGeometry_60 hw
    · have hw := hw.2 c7
      refine lv_iload_n hx hb dX2_setGeometry_22 rfl (lv_at hl 3 rfl) ?_
      refine lv_iconst (v := 5) hx hb dX2_setGeometry_23 (by decide) ?_
      refine lv_bipush (v := 60) hx hb dX2_setGeometry_24 (by decide) ?_
      refine m0_i (mv_S (As := [.int p3, .int 5, .int 60]) (rest := []) ⟨hx, hb, hml, hown, hts⟩ (kX2_within l D I O H.size p3 5 60 _ hw) (va_cwS 3 hts gX2_setGeometry_X2_within rfl rfl rfl hdSX2_within ⟨(Nat.le_of_ble_eq_true rfl), (Nat.le_of_ble_eq_true rfl)⟩) hK (nil_P (D := D) (H := H)) (nil_D (A := va_A (sysW I O a x) sz)) rfl hl.1 rfl (Nat.le_of_ble_eq_true rfl) dX2_setGeometry_26 ⟨(Nat.le_of_ble_eq_true rfl), (Nat.le_of_ble_eq_true rfl)⟩) hP hD hS hA (fun r11 _ H locs hw hP hD hS => ?_)
      refine lv_if_eq (tgt := 46) hx hb dX2_setGeometry_29 (by decide) (fun c12 => ?_) (fun c12 => ?_)
      · have hw := hw.1 c12
        refine lv_iconst (v := 0) hx hb dX2_setGeometry_46 (by decide) ?_
        refine lv_istore (lv' := [(5, .int 0), (0, .ref a.1), (1, .int p1), (2, .int p2), (3, .int p3), (4, .int p4)]) hx hb dX2_setGeometry_47 hl (by decide) rfl (fun ls hl => ?_)
        refine lv_iload hx hb dX2_setGeometry_49 (lv_at hl 0 rfl) ?_
        refine lv_if_ne (tgt := 61) hx hb dX2_setGeometry_51 (by decide) (fun c13 => ?_) (fun c13 => ?_)
        · exact absurd (show (0 : Int32) = (0 : Int32) from by decide) c13
        · refine lv_aload_n hx hb dX2_setGeometry_54 rfl (lv_at hl 1 rfl) ?_
          refine lv_bipush (v := (-2)) hx hb dX2_setGeometry_55 (by decide) ?_
          refine mw_i (mv_V (As := [.int (-2)]) (rest := []) ⟨hx, hb, hml, hown, hts⟩ (kX2_refuse l D I O a H.size x (-2) _ hw) (cwV 1 hts gX2_setGeometry_X2_refuse rfl rfl rfl hdVX2_refuse ⟨(Nat.le_of_ble_eq_true rfl), (Nat.le_of_ble_eq_true rfl)⟩) hK hP hD 0 2 rfl rfl rfl rfl hl.1 rfl (Nat.le_of_ble_eq_true rfl) dX2_setGeometry_57 ⟨(Nat.le_of_ble_eq_true rfl), (Nat.le_of_ble_eq_true rfl)⟩) hP hD hS hA (fun r14 u15 H locs hw hP hD hS => ?_)
          have hP : va_P D vwCl (sysW I O a u15) H := hP
          have hD : va_D (va_A (sysW I O a x) sz) (sysW I O a u15) := hD
          exact m_iret (u := (a.2, u15)) hx hb hr hlocks hS hP hD dX2_setGeometry_60 hw
      · have hw := hw.2 c12
        refine lv_iload hx hb dX2_setGeometry_32 (lv_at hl 4 rfl) ?_
        refine lv_iconst (v := 1) hx hb dX2_setGeometry_34 (by decide) ?_
        refine lv_iload_n hx hb dX2_setGeometry_35 rfl (lv_at hl 1 rfl) ?_
        refine m0_i (mv_S (As := [.int p4, .int 1, .int p1]) (rest := []) ⟨hx, hb, hml, hown, hts⟩ (kX2_within l D I O H.size p4 1 p1 _ hw) (va_cwS 3 hts gX2_setGeometry_X2_within rfl rfl rfl hdSX2_within ⟨(Nat.le_of_ble_eq_true rfl), (Nat.le_of_ble_eq_true rfl)⟩) hK (nil_P (D := D) (H := H)) (nil_D (A := va_A (sysW I O a x) sz)) rfl hl.1 rfl (Nat.le_of_ble_eq_true rfl) dX2_setGeometry_36 ⟨(Nat.le_of_ble_eq_true rfl), (Nat.le_of_ble_eq_true rfl)⟩) hP hD hS hA (fun r16 _ H locs hw hP hD hS => ?_)
        refine lv_if_eq (tgt := 46) hx hb dX2_setGeometry_39 (by decide) (fun c17 => ?_) (fun c17 => ?_)
        · have hw := hw.1 c17
          refine lv_iconst (v := 0) hx hb dX2_setGeometry_46 (by decide) ?_
          refine lv_istore (lv' := [(5, .int 0), (0, .ref a.1), (1, .int p1), (2, .int p2), (3, .int p3), (4, .int p4)]) hx hb dX2_setGeometry_47 hl (by decide) rfl (fun ls hl => ?_)
          refine lv_iload hx hb dX2_setGeometry_49 (lv_at hl 0 rfl) ?_
          refine lv_if_ne (tgt := 61) hx hb dX2_setGeometry_51 (by decide) (fun c18 => ?_) (fun c18 => ?_)
          · exact absurd (show (0 : Int32) = (0 : Int32) from by decide) c18
          · refine lv_aload_n hx hb dX2_setGeometry_54 rfl (lv_at hl 1 rfl) ?_
            refine lv_bipush (v := (-2)) hx hb dX2_setGeometry_55 (by decide) ?_
            refine mw_i (mv_V (As := [.int (-2)]) (rest := []) ⟨hx, hb, hml, hown, hts⟩ (kX2_refuse l D I O a H.size x (-2) _ hw) (cwV 1 hts gX2_setGeometry_X2_refuse rfl rfl rfl hdVX2_refuse ⟨(Nat.le_of_ble_eq_true rfl), (Nat.le_of_ble_eq_true rfl)⟩) hK hP hD 0 2 rfl rfl rfl rfl hl.1 rfl (Nat.le_of_ble_eq_true rfl) dX2_setGeometry_57 ⟨(Nat.le_of_ble_eq_true rfl), (Nat.le_of_ble_eq_true rfl)⟩) hP hD hS hA (fun r19 u20 H locs hw hP hD hS => ?_)
            have hP : va_P D vwCl (sysW I O a u20) H := hP
            have hD : va_D (va_A (sysW I O a x) sz) (sysW I O a u20) := hD
            exact m_iret (u := (a.2, u20)) hx hb hr hlocks hS hP hD dX2_setGeometry_60 hw
        · have hw := hw.2 c17
          refine lv_iconst (v := 1) hx hb dX2_setGeometry_42 (by decide) ?_
          refine lv_goto (tgt := 47) hx hb dX2_setGeometry_43 (by decide) ?_
          refine lv_istore (lv' := [(5, .int 1), (0, .ref a.1), (1, .int p1), (2, .int p2), (3, .int p3), (4, .int p4)]) hx hb dX2_setGeometry_47 hl (by decide) rfl (fun ls hl => ?_)
          refine lv_iload hx hb dX2_setGeometry_49 (lv_at hl 0 rfl) ?_
          refine lv_if_ne (tgt := 61) hx hb dX2_setGeometry_51 (by decide) (fun c21 => ?_) (fun c21 => ?_)
          · refine lv_aload_n hx hb dX2_setGeometry_61 rfl (lv_at hl 1 rfl) ?_
            refine mw_v (mv_V (As := []) (rest := []) ⟨hx, hb, hml, hown, hts⟩ (kX2_save l D I O a H.size x _ hw) (cwV 0 hts gX2_setGeometry_X2_save rfl rfl rfl hdVX2_save ⟨(Nat.le_of_ble_eq_true rfl), (Nat.le_of_ble_eq_true rfl)⟩) hK hP hD 0 2 rfl rfl rfl rfl hl.1 rfl (Nat.le_of_ble_eq_true rfl) dX2_setGeometry_62 ⟨(Nat.le_of_ble_eq_true rfl), (Nat.le_of_ble_eq_true rfl)⟩) hP hD hS hA (fun u22 H locs hw hP hD hS => ?_)
            obtain ⟨du22, u22⟩ := u22
            have hP : va_P D vwCl (sysW I O (a.1, du22) u22) H := hP
            have hD : va_D (va_A (sysW I O a x) sz) (sysW I O (a.1, du22) u22) := hD
            refine lv_aload_n hx hb dX2_setGeometry_65 rfl (lv_at hl 1 rfl) ?_
            refine va_get (ci := 2) (v := .ref du22.2.2.1.1) (C := RX2) (T := TX2) (N := 5) hx hb hts hiX2 hown hK.1 hP 0 rfl rfl 0 (by decide) f0 (fun _ h9 => h9) rfl dX2_setGeometry_66 ?_
            refine lv_iload_n hx hb dX2_setGeometry_69 rfl (lv_at hl 2 rfl) ?_
            refine va_put (ci := 1) (v := .int p1) (ty := .int) (C := RX1) (T := TX1) (N := 13) hx hb hts hiX1 tyX1 tyX1_ok nmX1 hown hK.1 hP hD hS 3 rfl rfl 0 (by decide) f1 (fun _ h9 => h9) rfl (by decide +kernel) rfl rfl (Nat.le_of_ble_eq_true rfl) dX2_setGeometry_70 (fun H locs hP hD hS => ?_)
            have hP : va_P D vwCl (sysW I O (a.1, du22) ((p1, y1 (sW u22), y2 (sW u22), y3 (sW u22), y4 (sW u22), y5 (sW u22), y6 (sW u22), y7 (sW u22), y8 (sW u22), y9 (sW u22), y10 (sW u22), yP (sW u22), yA (sW u22)), sT u22, s0 u22, s1 u22, s2 u22, s3 u22, sC u22, sE u22)) H := hP
            have hD : va_D (va_A (sysW I O a x) sz) (sysW I O (a.1, du22) ((p1, y1 (sW u22), y2 (sW u22), y3 (sW u22), y4 (sW u22), y5 (sW u22), y6 (sW u22), y7 (sW u22), y8 (sW u22), y9 (sW u22), y10 (sW u22), yP (sW u22), yA (sW u22)), sT u22, s0 u22, s1 u22, s2 u22, s3 u22, sC u22, sE u22)) := hD
            refine lv_aload_n hx hb dX2_setGeometry_73 rfl (lv_at hl 1 rfl) ?_
            refine va_get (ci := 2) (v := .ref du22.2.2.1.1) (C := RX2) (T := TX2) (N := 5) hx hb hts hiX2 hown hK.1 hP 0 rfl rfl 0 (by decide) f0 (fun _ h9 => h9) rfl dX2_setGeometry_74 ?_
            refine lv_iload_n hx hb dX2_setGeometry_77 rfl (lv_at hl 3 rfl) ?_
            refine va_put (ci := 1) (v := .int p2) (ty := .int) (C := RX1) (T := TX1) (N := 13) hx hb hts hiX1 tyX1 tyX1_ok nmX1 hown hK.1 hP hD hS 3 rfl rfl 1 (by decide) f2 (fun _ h9 => h9) rfl (by decide +kernel) rfl rfl (Nat.le_of_ble_eq_true rfl) dX2_setGeometry_78 (fun H locs hP hD hS => ?_)
            have hP : va_P D vwCl (sysW I O (a.1, du22) ((p1, p2, y2 (sW u22), y3 (sW u22), y4 (sW u22), y5 (sW u22), y6 (sW u22), y7 (sW u22), y8 (sW u22), y9 (sW u22), y10 (sW u22), yP (sW u22), yA (sW u22)), sT u22, s0 u22, s1 u22, s2 u22, s3 u22, sC u22, sE u22)) H := hP
            have hD : va_D (va_A (sysW I O a x) sz) (sysW I O (a.1, du22) ((p1, p2, y2 (sW u22), y3 (sW u22), y4 (sW u22), y5 (sW u22), y6 (sW u22), y7 (sW u22), y8 (sW u22), y9 (sW u22), y10 (sW u22), yP (sW u22), yA (sW u22)), sT u22, s0 u22, s1 u22, s2 u22, s3 u22, sC u22, sE u22)) := hD
            refine lv_aload_n hx hb dX2_setGeometry_81 rfl (lv_at hl 1 rfl) ?_
            refine va_get (ci := 2) (v := .ref du22.2.2.1.1) (C := RX2) (T := TX2) (N := 5) hx hb hts hiX2 hown hK.1 hP 0 rfl rfl 0 (by decide) f0 (fun _ h9 => h9) rfl dX2_setGeometry_82 ?_
            refine lv_iload_n hx hb dX2_setGeometry_85 rfl (lv_at hl 4 rfl) ?_
            refine va_put (ci := 1) (v := .int p3) (ty := .int) (C := RX1) (T := TX1) (N := 13) hx hb hts hiX1 tyX1 tyX1_ok nmX1 hown hK.1 hP hD hS 3 rfl rfl 2 (by decide) f3 (fun _ h9 => h9) rfl (by decide +kernel) rfl rfl (Nat.le_of_ble_eq_true rfl) dX2_setGeometry_86 (fun H locs hP hD hS => ?_)
            have hP : va_P D vwCl (sysW I O (a.1, du22) ((p1, p2, p3, y3 (sW u22), y4 (sW u22), y5 (sW u22), y6 (sW u22), y7 (sW u22), y8 (sW u22), y9 (sW u22), y10 (sW u22), yP (sW u22), yA (sW u22)), sT u22, s0 u22, s1 u22, s2 u22, s3 u22, sC u22, sE u22)) H := hP
            have hD : va_D (va_A (sysW I O a x) sz) (sysW I O (a.1, du22) ((p1, p2, p3, y3 (sW u22), y4 (sW u22), y5 (sW u22), y6 (sW u22), y7 (sW u22), y8 (sW u22), y9 (sW u22), y10 (sW u22), yP (sW u22), yA (sW u22)), sT u22, s0 u22, s1 u22, s2 u22, s3 u22, sC u22, sE u22)) := hD
            refine lv_aload_n hx hb dX2_setGeometry_89 rfl (lv_at hl 1 rfl) ?_
            refine va_get (ci := 2) (v := .ref du22.2.2.1.1) (C := RX2) (T := TX2) (N := 5) hx hb hts hiX2 hown hK.1 hP 0 rfl rfl 0 (by decide) f0 (fun _ h9 => h9) rfl dX2_setGeometry_90 ?_
            refine lv_iload hx hb dX2_setGeometry_93 (lv_at hl 5 rfl) ?_
            refine va_put (ci := 1) (v := .int p4) (ty := .int) (C := RX1) (T := TX1) (N := 13) hx hb hts hiX1 tyX1 tyX1_ok nmX1 hown hK.1 hP hD hS 3 rfl rfl 3 (by decide) f4 (fun _ h9 => h9) rfl (by decide +kernel) rfl rfl (Nat.le_of_ble_eq_true rfl) dX2_setGeometry_95 (fun H locs hP hD hS => ?_)
            have hP : va_P D vwCl (sysW I O (a.1, du22) ((p1, p2, p3, p4, y4 (sW u22), y5 (sW u22), y6 (sW u22), y7 (sW u22), y8 (sW u22), y9 (sW u22), y10 (sW u22), yP (sW u22), yA (sW u22)), sT u22, s0 u22, s1 u22, s2 u22, s3 u22, sC u22, sE u22)) H := hP
            have hD : va_D (va_A (sysW I O a x) sz) (sysW I O (a.1, du22) ((p1, p2, p3, p4, y4 (sW u22), y5 (sW u22), y6 (sW u22), y7 (sW u22), y8 (sW u22), y9 (sW u22), y10 (sW u22), yP (sW u22), yA (sW u22)), sT u22, s0 u22, s1 u22, s2 u22, s3 u22, sC u22, sE u22)) := hD
            refine lv_aload_n hx hb dX2_setGeometry_98 rfl (lv_at hl 1 rfl) ?_
            refine va_get (ci := 2) (v := .ref du22.2.2.1.1) (C := RX2) (T := TX2) (N := 5) hx hb hts hiX2 hown hK.1 hP 0 rfl rfl 0 (by decide) f0 (fun _ h9 => h9) rfl dX2_setGeometry_99 ?_
            have hPc := va_P.mid (X := sysH I O (a.1, du22) ((p1, p2, p3, p4, y4 (sW u22), y5 (sW u22), y6 (sW u22), y7 (sW u22), y8 (sW u22), y9 (sW u22), y10 (sW u22), yP (sW u22), yA (sW u22)), sT u22, s0 u22, s1 u22, s2 u22, s3 u22, sC u22, sE u22)) (wc := welB I du22.2.2.1 (p1, p2, p3, p4, y4 (sW u22), y5 (sW u22), y6 (sW u22), y7 (sW u22), y8 (sW u22), y9 (sW u22), y10 (sW u22), yP (sW u22), yA (sW u22))) (Y := welB I du22.2.2.2.1 (sT u22) ++ (welB I du22.2.2.2.2.1 (s0 u22) ++ (welB I du22.2.2.2.2.2.1 (s1 u22) ++ (welB I du22.2.2.2.2.2.2.1 (s2 u22) ++ welB I du22.2.2.2.2.2.2.2 (s3 u22))))) hP
            have hDc := va_D.mid (X := sysH I O (a.1, du22) ((p1, p2, p3, p4, y4 (sW u22), y5 (sW u22), y6 (sW u22), y7 (sW u22), y8 (sW u22), y9 (sW u22), y10 (sW u22), yP (sW u22), yA (sW u22)), sT u22, s0 u22, s1 u22, s2 u22, s3 u22, sC u22, sE u22)) (wc := welB I du22.2.2.1 (p1, p2, p3, p4, y4 (sW u22), y5 (sW u22), y6 (sW u22), y7 (sW u22), y8 (sW u22), y9 (sW u22), y10 (sW u22), yP (sW u22), yA (sW u22))) (Y := welB I du22.2.2.2.1 (sT u22) ++ (welB I du22.2.2.2.2.1 (s0 u22) ++ (welB I du22.2.2.2.2.2.1 (s1 u22) ++ (welB I du22.2.2.2.2.2.2.1 (s2 u22) ++ welB I du22.2.2.2.2.2.2.2 (s3 u22))))) hD
            refine mc_v (sysH I O (a.1, du22) ((p1, p2, p3, p4, y4 (sW u22), y5 (sW u22), y6 (sW u22), y7 (sW u22), y8 (sW u22), y9 (sW u22), y10 (sW u22), yP (sW u22), yA (sW u22)), sT u22, s0 u22, s1 u22, s2 u22, s3 u22, sC u22, sE u22)) (welB I du22.2.2.2.1 (sT u22) ++ (welB I du22.2.2.2.2.1 (s0 u22) ++ (welB I du22.2.2.2.2.2.1 (s1 u22) ++ (welB I du22.2.2.2.2.2.2.1 (s2 u22) ++ welB I du22.2.2.2.2.2.2.2 (s3 u22))))) (mv_V (As := []) (rest := []) ⟨hx, hb, hml, hown, hts⟩ (kX1_startAnew l D I O du22.2.2.1 H.size (p1, p2, p3, p4, y4 (sW u22), y5 (sW u22), y6 (sW u22), y7 (sW u22), y8 (sW u22), y9 (sW u22), y10 (sW u22), yP (sW u22), yA (sW u22)) _ hw) (cwV 0 hts gX2_setGeometry_X1_startAnew rfl rfl rfl hdVX1_startAnew ⟨(Nat.le_of_ble_eq_true rfl), (Nat.le_of_ble_eq_true rfl)⟩) hK hPc hDc 0 1 rfl rfl rfl rfl hl.1 rfl (Nat.le_of_ble_eq_true rfl) dX2_setGeometry_102 ⟨(Nat.le_of_ble_eq_true rfl), (Nat.le_of_ble_eq_true rfl)⟩) hP hD hS hA (fun u23 H locs hw hP hD hS => ?_)
            have hP : va_P D vwCl (sysW I O (a.1, du22) (u23, sT u22, s0 u22, s1 u22, s2 u22, s3 u22, sC u22, sE u22)) H := hP
            have hD : va_D (va_A (sysW I O a x) sz) (sysW I O (a.1, du22) (u23, sT u22, s0 u22, s1 u22, s2 u22, s3 u22, sC u22, sE u22)) := hD
            refine lv_aload_n hx hb dX2_setGeometry_105 rfl (lv_at hl 1 rfl) ?_
            refine va_get (ci := 2) (v := .ref du22.2.2.1.1) (C := RX2) (T := TX2) (N := 5) hx hb hts hiX2 hown hK.1 hP 0 rfl rfl 0 (by decide) f0 (fun _ h9 => h9) rfl dX2_setGeometry_106 ?_
            have hPc := va_P.mid (X := sysH I O (a.1, du22) (u23, sT u22, s0 u22, s1 u22, s2 u22, s3 u22, sC u22, sE u22)) (wc := welB I du22.2.2.1 u23) (Y := welB I du22.2.2.2.1 (sT u22) ++ (welB I du22.2.2.2.2.1 (s0 u22) ++ (welB I du22.2.2.2.2.2.1 (s1 u22) ++ (welB I du22.2.2.2.2.2.2.1 (s2 u22) ++ welB I du22.2.2.2.2.2.2.2 (s3 u22))))) hP
            have hDc := va_D.mid (X := sysH I O (a.1, du22) (u23, sT u22, s0 u22, s1 u22, s2 u22, s3 u22, sC u22, sE u22)) (wc := welB I du22.2.2.1 u23) (Y := welB I du22.2.2.2.1 (sT u22) ++ (welB I du22.2.2.2.2.1 (s0 u22) ++ (welB I du22.2.2.2.2.2.1 (s1 u22) ++ (welB I du22.2.2.2.2.2.2.1 (s2 u22) ++ welB I du22.2.2.2.2.2.2.2 (s3 u22))))) hD
            refine mc_i (sysH I O (a.1, du22) (u23, sT u22, s0 u22, s1 u22, s2 u22, s3 u22, sC u22, sE u22)) (welB I du22.2.2.2.1 (sT u22) ++ (welB I du22.2.2.2.2.1 (s0 u22) ++ (welB I du22.2.2.2.2.2.1 (s1 u22) ++ (welB I du22.2.2.2.2.2.2.1 (s2 u22) ++ welB I du22.2.2.2.2.2.2.2 (s3 u22))))) (mv_V (As := []) (rest := []) ⟨hx, hb, hml, hown, hts⟩ (kX1_pipeVolume l D I O du22.2.2.1 H.size u23 _ hw) (cwV 0 hts gX2_setGeometry_X1_pipeVolume rfl rfl rfl hdVX1_pipeVolume ⟨(Nat.le_of_ble_eq_true rfl), (Nat.le_of_ble_eq_true rfl)⟩) hK hPc hDc 0 1 rfl rfl rfl rfl hl.1 rfl (Nat.le_of_ble_eq_true rfl) dX2_setGeometry_109 ⟨(Nat.le_of_ble_eq_true rfl), (Nat.le_of_ble_eq_true rfl)⟩) hP hD hS hA (fun r24 _ H locs hw hP hD hS => ?_)
            have hP : va_P D vwCl (sysW I O (a.1, du22) (u23, sT u22, s0 u22, s1 u22, s2 u22, s3 u22, sC u22, sE u22)) H := hP
            have hD : va_D (va_A (sysW I O a x) sz) (sysW I O (a.1, du22) (u23, sT u22, s0 u22, s1 u22, s2 u22, s3 u22, sC u22, sE u22)) := hD
            refine lv_aload_n hx hb dX2_setGeometry_112 rfl (lv_at hl 1 rfl) ?_
            refine va_get (ci := 2) (v := .ref du22.2.2.1.1) (C := RX2) (T := TX2) (N := 5) hx hb hts hiX2 hown hK.1 hP 0 rfl rfl 0 (by decide) f0 (fun _ h9 => h9) rfl dX2_setGeometry_113 ?_
            have hPc := va_P.mid (X := sysH I O (a.1, du22) (u23, sT u22, s0 u22, s1 u22, s2 u22, s3 u22, sC u22, sE u22)) (wc := welB I du22.2.2.1 u23) (Y := welB I du22.2.2.2.1 (sT u22) ++ (welB I du22.2.2.2.2.1 (s0 u22) ++ (welB I du22.2.2.2.2.2.1 (s1 u22) ++ (welB I du22.2.2.2.2.2.2.1 (s2 u22) ++ welB I du22.2.2.2.2.2.2.2 (s3 u22))))) hP
            have hDc := va_D.mid (X := sysH I O (a.1, du22) (u23, sT u22, s0 u22, s1 u22, s2 u22, s3 u22, sC u22, sE u22)) (wc := welB I du22.2.2.1 u23) (Y := welB I du22.2.2.2.1 (sT u22) ++ (welB I du22.2.2.2.2.1 (s0 u22) ++ (welB I du22.2.2.2.2.2.1 (s1 u22) ++ (welB I du22.2.2.2.2.2.2.1 (s2 u22) ++ welB I du22.2.2.2.2.2.2.2 (s3 u22))))) hD
            refine mc_i (sysH I O (a.1, du22) (u23, sT u22, s0 u22, s1 u22, s2 u22, s3 u22, sC u22, sE u22)) (welB I du22.2.2.2.1 (sT u22) ++ (welB I du22.2.2.2.2.1 (s0 u22) ++ (welB I du22.2.2.2.2.2.1 (s1 u22) ++ (welB I du22.2.2.2.2.2.2.1 (s2 u22) ++ welB I du22.2.2.2.2.2.2.2 (s3 u22))))) (mv_V (As := []) (rest := [.int r24]) ⟨hx, hb, hml, hown, hts⟩ (kX1_annulusVolume l D I O du22.2.2.1 H.size u23 _ hw) (cwV 0 hts gX2_setGeometry_X1_annulusVolume rfl rfl rfl hdVX1_annulusVolume ⟨(Nat.le_of_ble_eq_true rfl), (Nat.le_of_ble_eq_true rfl)⟩) hK hPc hDc 0 1 rfl rfl rfl rfl hl.1 rfl (Nat.le_of_ble_eq_true rfl) dX2_setGeometry_116 ⟨(Nat.le_of_ble_eq_true rfl), (Nat.le_of_ble_eq_true rfl)⟩) hP hD hS hA (fun r25 _ H locs hw hP hD hS => ?_)
            have hP : va_P D vwCl (sysW I O (a.1, du22) (u23, sT u22, s0 u22, s1 u22, s2 u22, s3 u22, sC u22, sE u22)) H := hP
            have hD : va_D (va_A (sysW I O a x) sz) (sysW I O (a.1, du22) (u23, sT u22, s0 u22, s1 u22, s2 u22, s3 u22, sC u22, sE u22)) := hD
            refine lv_iadd hx hb dX2_setGeometry_119 ?_
            exact m_iret (u := (du22, (u23, sT u22, s0 u22, s1 u22, s2 u22, s3 u22, sC u22, sE u22))) hx hb hr hlocks hS hP hD dX2_setGeometry_120 hw
          · exact absurd c21 (show ¬ (1 : Int32) = (0 : Int32) from by decide)
def qX2_pump (x : Sys) (p1 : Int32) (Q : Int32 → Sys → Prop) : Prop := ((1 ≤ p1 → (qX1_canCirculate (sW x) p1 (fun r2 => ((¬ r2 = 0 → (qX2_save x (fun u4 => (qX1_circulate (sW u4) p1 (y4 (sW u4)) (fun u5 => (qX1_checkShoe u5 (fun u6 => (qX1_pressureAtCasing u6 (fun r7 => Q r7 (u6, sT u4, s0 u4, s1 u4, s2 u4, s3 u4, sC u4, sE u4)))))))))) ∧ (r2 = 0 → (qX2_refuse x (-3) (fun r8 u9 => Q r8 u9))))))) ∧ (¬ 1 ≤ p1 → (qX2_refuse x (-2) (fun r10 u11 => Q r10 u11))))
set_option maxHeartbeats 4000000 in
set_option maxRecDepth 100000 in
theorem kX2_pump (l : Launch) (D : va_G) (I O : ClassId) (a : SA) (sz : Nat) (x : Sys) (p1 : Int32) (Q : Int32 → Sys → Prop) (hw : qX2_pump x p1 Q) : Met l yX2_pump wsX2_pump rX2_pump (mPc D I O [.ref a.1, .int p1] (sysW I O a x) sz) (va_Qi (fun r (u : (Nat × Nat × WA × WA × WA × WA × WA × WA) × Sys) => Q r u.2) (mB D (va_A (sysW I O a x) sz) (fun u => sysW I O (a.1, u.1) u.2)) (va_A (sysW I O a x) sz)) 0 0 (va_A (sysW I O a x) sz) := by
  refine m_start (by decide) rfl (Nat.le_of_ble_eq_true rfl) (fun p e s m below meth c ls H locs hx hb hr hml hts hown hlocks hnm hK hP hD hA hS hl => ?_)
  have hown : s.vm.findClass RX2 = some m.cls := hown
  have hl : lv_has ls 2 [(0, .ref a.1), (1, .int p1)] := hl
  have hiX1 : ∀ w ∈ wsX10, w ∈ wsX2_pump := by decide +kernel
  have hiX2 : ∀ w ∈ wsX20, w ∈ wsX2_pump := by decide +kernel
  have f0 := hts (.fieldLink RX2 10 "WellControl" "well" "LWellControl$Well;") (by decide +kernel)
  have f1 := hts (.fieldLink RX2 64 "WellControl$Well" "mud" "I") (by decide +kernel)
  unfold qX2_pump at hw
  refine lv_iload_n hx hb dX2_pump_0 rfl (lv_at hl 1 rfl) ?_
  refine lv_iconst (v := 1) hx hb dX2_pump_1 (by decide) ?_
  refine lv_icmp_ge (tgt := 12) hx hb dX2_pump_2 (by decide) (fun c1 => ?_) (fun c1 => ?_)
  · have hw := hw.1 c1
    refine lv_aload_n hx hb dX2_pump_12 rfl (lv_at hl 0 rfl) ?_
    refine va_get (ci := 2) (v := .ref a.2.2.2.1.1) (C := RX2) (T := TX2) (N := 5) hx hb hts hiX2 hown hK.1 hP 0 rfl rfl 0 (by decide) f0 (fun _ h9 => h9) rfl dX2_pump_13 ?_
    refine lv_iload_n hx hb dX2_pump_16 rfl (lv_at hl 1 rfl) ?_
    have hPc := va_P.mid (X := sysH I O a x) (wc := welB I a.2.2.2.1 (sW x)) (Y := welB I a.2.2.2.2.1 (sT x) ++ (welB I a.2.2.2.2.2.1 (s0 x) ++ (welB I a.2.2.2.2.2.2.1 (s1 x) ++ (welB I a.2.2.2.2.2.2.2.1 (s2 x) ++ welB I a.2.2.2.2.2.2.2.2 (s3 x))))) hP
    have hDc := va_D.mid (X := sysH I O a x) (wc := welB I a.2.2.2.1 (sW x)) (Y := welB I a.2.2.2.2.1 (sT x) ++ (welB I a.2.2.2.2.2.1 (s0 x) ++ (welB I a.2.2.2.2.2.2.1 (s1 x) ++ (welB I a.2.2.2.2.2.2.2.1 (s2 x) ++ welB I a.2.2.2.2.2.2.2.2 (s3 x))))) hD
    refine mc_i (sysH I O a x) (welB I a.2.2.2.2.1 (sT x) ++ (welB I a.2.2.2.2.2.1 (s0 x) ++ (welB I a.2.2.2.2.2.2.1 (s1 x) ++ (welB I a.2.2.2.2.2.2.2.1 (s2 x) ++ welB I a.2.2.2.2.2.2.2.2 (s3 x))))) (mv_V (As := [.int p1]) (rest := []) ⟨hx, hb, hml, hown, hts⟩ (kX1_canCirculate l D I O a.2.2.2.1 H.size (sW x) p1 _ hw) (cwV 1 hts gX2_pump_X1_canCirculate rfl rfl rfl hdVX1_canCirculate ⟨(Nat.le_of_ble_eq_true rfl), (Nat.le_of_ble_eq_true rfl)⟩) hK hPc hDc 0 1 rfl rfl rfl rfl hl.1 rfl (Nat.le_of_ble_eq_true rfl) dX2_pump_17 ⟨(Nat.le_of_ble_eq_true rfl), (Nat.le_of_ble_eq_true rfl)⟩) hP hD hS hA (fun r2 _ H locs hw hP hD hS => ?_)
    have hP : va_P D vwCl (sysW I O a x) H := hP
    have hD : va_D (va_A (sysW I O a x) sz) (sysW I O a x) := hD
    refine lv_if_ne (tgt := 30) hx hb dX2_pump_20 (by decide) (fun c3 => ?_) (fun c3 => ?_)
    · have hw := hw.1 c3
      refine lv_aload_n hx hb dX2_pump_30 rfl (lv_at hl 0 rfl) ?_
      refine mw_v (mv_V (As := []) (rest := []) ⟨hx, hb, hml, hown, hts⟩ (kX2_save l D I O a H.size x _ hw) (cwV 0 hts gX2_pump_X2_save rfl rfl rfl hdVX2_save ⟨(Nat.le_of_ble_eq_true rfl), (Nat.le_of_ble_eq_true rfl)⟩) hK hP hD 0 2 rfl rfl rfl rfl hl.1 rfl (Nat.le_of_ble_eq_true rfl) dX2_pump_31 ⟨(Nat.le_of_ble_eq_true rfl), (Nat.le_of_ble_eq_true rfl)⟩) hP hD hS hA (fun u4 H locs hw hP hD hS => ?_)
      obtain ⟨du4, u4⟩ := u4
      have hP : va_P D vwCl (sysW I O (a.1, du4) u4) H := hP
      have hD : va_D (va_A (sysW I O a x) sz) (sysW I O (a.1, du4) u4) := hD
      refine lv_aload_n hx hb dX2_pump_34 rfl (lv_at hl 0 rfl) ?_
      refine va_get (ci := 2) (v := .ref du4.2.2.1.1) (C := RX2) (T := TX2) (N := 5) hx hb hts hiX2 hown hK.1 hP 0 rfl rfl 0 (by decide) f0 (fun _ h9 => h9) rfl dX2_pump_35 ?_
      refine lv_iload_n hx hb dX2_pump_38 rfl (lv_at hl 1 rfl) ?_
      refine lv_aload_n hx hb dX2_pump_39 rfl (lv_at hl 0 rfl) ?_
      refine va_get (ci := 2) (v := .ref du4.2.2.1.1) (C := RX2) (T := TX2) (N := 5) hx hb hts hiX2 hown hK.1 hP 0 rfl rfl 0 (by decide) f0 (fun _ h9 => h9) rfl dX2_pump_40 ?_
      refine va_get (ci := 1) (v := .int (y4 (sW u4))) (C := RX1) (T := TX1) (N := 13) hx hb hts hiX1 hown hK.1 hP 3 rfl rfl 4 (by decide) f1 (fun _ h9 => h9) rfl dX2_pump_43 ?_
      have hPc := va_P.mid (X := sysH I O (a.1, du4) u4) (wc := welB I du4.2.2.1 (sW u4)) (Y := welB I du4.2.2.2.1 (sT u4) ++ (welB I du4.2.2.2.2.1 (s0 u4) ++ (welB I du4.2.2.2.2.2.1 (s1 u4) ++ (welB I du4.2.2.2.2.2.2.1 (s2 u4) ++ welB I du4.2.2.2.2.2.2.2 (s3 u4))))) hP
      have hDc := va_D.mid (X := sysH I O (a.1, du4) u4) (wc := welB I du4.2.2.1 (sW u4)) (Y := welB I du4.2.2.2.1 (sT u4) ++ (welB I du4.2.2.2.2.1 (s0 u4) ++ (welB I du4.2.2.2.2.2.1 (s1 u4) ++ (welB I du4.2.2.2.2.2.2.1 (s2 u4) ++ welB I du4.2.2.2.2.2.2.2 (s3 u4))))) hD
      refine mc_v (sysH I O (a.1, du4) u4) (welB I du4.2.2.2.1 (sT u4) ++ (welB I du4.2.2.2.2.1 (s0 u4) ++ (welB I du4.2.2.2.2.2.1 (s1 u4) ++ (welB I du4.2.2.2.2.2.2.1 (s2 u4) ++ welB I du4.2.2.2.2.2.2.2 (s3 u4))))) (mv_V (As := [.int p1, .int (y4 (sW u4))]) (rest := []) ⟨hx, hb, hml, hown, hts⟩ (kX1_circulate l D I O du4.2.2.1 H.size (sW u4) p1 (y4 (sW u4)) _ hw) (cwV 2 hts gX2_pump_X1_circulate rfl rfl rfl hdVX1_circulate ⟨(Nat.le_of_ble_eq_true rfl), (Nat.le_of_ble_eq_true rfl)⟩) hK hPc hDc 0 1 rfl rfl rfl rfl hl.1 rfl (Nat.le_of_ble_eq_true rfl) dX2_pump_46 ⟨(Nat.le_of_ble_eq_true rfl), (Nat.le_of_ble_eq_true rfl)⟩) hP hD hS hA (fun u5 H locs hw hP hD hS => ?_)
      have hP : va_P D vwCl (sysW I O (a.1, du4) (u5, sT u4, s0 u4, s1 u4, s2 u4, s3 u4, sC u4, sE u4)) H := hP
      have hD : va_D (va_A (sysW I O a x) sz) (sysW I O (a.1, du4) (u5, sT u4, s0 u4, s1 u4, s2 u4, s3 u4, sC u4, sE u4)) := hD
      refine lv_aload_n hx hb dX2_pump_49 rfl (lv_at hl 0 rfl) ?_
      refine va_get (ci := 2) (v := .ref du4.2.2.1.1) (C := RX2) (T := TX2) (N := 5) hx hb hts hiX2 hown hK.1 hP 0 rfl rfl 0 (by decide) f0 (fun _ h9 => h9) rfl dX2_pump_50 ?_
      have hPc := va_P.mid (X := sysH I O (a.1, du4) (u5, sT u4, s0 u4, s1 u4, s2 u4, s3 u4, sC u4, sE u4)) (wc := welB I du4.2.2.1 u5) (Y := welB I du4.2.2.2.1 (sT u4) ++ (welB I du4.2.2.2.2.1 (s0 u4) ++ (welB I du4.2.2.2.2.2.1 (s1 u4) ++ (welB I du4.2.2.2.2.2.2.1 (s2 u4) ++ welB I du4.2.2.2.2.2.2.2 (s3 u4))))) hP
      have hDc := va_D.mid (X := sysH I O (a.1, du4) (u5, sT u4, s0 u4, s1 u4, s2 u4, s3 u4, sC u4, sE u4)) (wc := welB I du4.2.2.1 u5) (Y := welB I du4.2.2.2.1 (sT u4) ++ (welB I du4.2.2.2.2.1 (s0 u4) ++ (welB I du4.2.2.2.2.2.1 (s1 u4) ++ (welB I du4.2.2.2.2.2.2.1 (s2 u4) ++ welB I du4.2.2.2.2.2.2.2 (s3 u4))))) hD
      refine mc_v (sysH I O (a.1, du4) (u5, sT u4, s0 u4, s1 u4, s2 u4, s3 u4, sC u4, sE u4)) (welB I du4.2.2.2.1 (sT u4) ++ (welB I du4.2.2.2.2.1 (s0 u4) ++ (welB I du4.2.2.2.2.2.1 (s1 u4) ++ (welB I du4.2.2.2.2.2.2.1 (s2 u4) ++ welB I du4.2.2.2.2.2.2.2 (s3 u4))))) (mv_V (As := []) (rest := []) ⟨hx, hb, hml, hown, hts⟩ (kX1_checkShoe l D I O du4.2.2.1 H.size u5 _ hw) (cwV 0 hts gX2_pump_X1_checkShoe rfl rfl rfl hdVX1_checkShoe ⟨(Nat.le_of_ble_eq_true rfl), (Nat.le_of_ble_eq_true rfl)⟩) hK hPc hDc 0 1 rfl rfl rfl rfl hl.1 rfl (Nat.le_of_ble_eq_true rfl) dX2_pump_53 ⟨(Nat.le_of_ble_eq_true rfl), (Nat.le_of_ble_eq_true rfl)⟩) hP hD hS hA (fun u6 H locs hw hP hD hS => ?_)
      have hP : va_P D vwCl (sysW I O (a.1, du4) (u6, sT u4, s0 u4, s1 u4, s2 u4, s3 u4, sC u4, sE u4)) H := hP
      have hD : va_D (va_A (sysW I O a x) sz) (sysW I O (a.1, du4) (u6, sT u4, s0 u4, s1 u4, s2 u4, s3 u4, sC u4, sE u4)) := hD
      refine lv_aload_n hx hb dX2_pump_56 rfl (lv_at hl 0 rfl) ?_
      refine va_get (ci := 2) (v := .ref du4.2.2.1.1) (C := RX2) (T := TX2) (N := 5) hx hb hts hiX2 hown hK.1 hP 0 rfl rfl 0 (by decide) f0 (fun _ h9 => h9) rfl dX2_pump_57 ?_
      have hPc := va_P.mid (X := sysH I O (a.1, du4) (u6, sT u4, s0 u4, s1 u4, s2 u4, s3 u4, sC u4, sE u4)) (wc := welB I du4.2.2.1 u6) (Y := welB I du4.2.2.2.1 (sT u4) ++ (welB I du4.2.2.2.2.1 (s0 u4) ++ (welB I du4.2.2.2.2.2.1 (s1 u4) ++ (welB I du4.2.2.2.2.2.2.1 (s2 u4) ++ welB I du4.2.2.2.2.2.2.2 (s3 u4))))) hP
      have hDc := va_D.mid (X := sysH I O (a.1, du4) (u6, sT u4, s0 u4, s1 u4, s2 u4, s3 u4, sC u4, sE u4)) (wc := welB I du4.2.2.1 u6) (Y := welB I du4.2.2.2.1 (sT u4) ++ (welB I du4.2.2.2.2.1 (s0 u4) ++ (welB I du4.2.2.2.2.2.1 (s1 u4) ++ (welB I du4.2.2.2.2.2.2.1 (s2 u4) ++ welB I du4.2.2.2.2.2.2.2 (s3 u4))))) hD
      refine mc_i (sysH I O (a.1, du4) (u6, sT u4, s0 u4, s1 u4, s2 u4, s3 u4, sC u4, sE u4)) (welB I du4.2.2.2.1 (sT u4) ++ (welB I du4.2.2.2.2.1 (s0 u4) ++ (welB I du4.2.2.2.2.2.1 (s1 u4) ++ (welB I du4.2.2.2.2.2.2.1 (s2 u4) ++ welB I du4.2.2.2.2.2.2.2 (s3 u4))))) (mv_V (As := []) (rest := []) ⟨hx, hb, hml, hown, hts⟩ (kX1_pressureAtCasing l D I O du4.2.2.1 H.size u6 _ hw) (cwV 0 hts gX2_pump_X1_pressureAtCasing rfl rfl rfl hdVX1_pressureAtCasing ⟨(Nat.le_of_ble_eq_true rfl), (Nat.le_of_ble_eq_true rfl)⟩) hK hPc hDc 0 1 rfl rfl rfl rfl hl.1 rfl (Nat.le_of_ble_eq_true rfl) dX2_pump_60 ⟨(Nat.le_of_ble_eq_true rfl), (Nat.le_of_ble_eq_true rfl)⟩) hP hD hS hA (fun r7 _ H locs hw hP hD hS => ?_)
      have hP : va_P D vwCl (sysW I O (a.1, du4) (u6, sT u4, s0 u4, s1 u4, s2 u4, s3 u4, sC u4, sE u4)) H := hP
      have hD : va_D (va_A (sysW I O a x) sz) (sysW I O (a.1, du4) (u6, sT u4, s0 u4, s1 u4, s2 u4, s3 u4, sC u4, sE u4)) := hD
      exact m_iret (u := (du4, (u6, sT u4, s0 u4, s1 u4, s2 u4, s3 u4, sC u4, sE u4))) hx hb hr hlocks hS hP hD dX2_pump_63 hw
    · have hw := hw.2 c3
      refine lv_aload_n hx hb dX2_pump_23 rfl (lv_at hl 0 rfl) ?_
      refine lv_bipush (v := (-3)) hx hb dX2_pump_24 (by decide) ?_
      refine mw_i (mv_V (As := [.int (-3)]) (rest := []) ⟨hx, hb, hml, hown, hts⟩ (kX2_refuse l D I O a H.size x (-3) _ hw) (cwV 1 hts gX2_pump_X2_refuse rfl rfl rfl hdVX2_refuse ⟨(Nat.le_of_ble_eq_true rfl), (Nat.le_of_ble_eq_true rfl)⟩) hK hP hD 0 2 rfl rfl rfl rfl hl.1 rfl (Nat.le_of_ble_eq_true rfl) dX2_pump_26 ⟨(Nat.le_of_ble_eq_true rfl), (Nat.le_of_ble_eq_true rfl)⟩) hP hD hS hA (fun r8 u9 H locs hw hP hD hS => ?_)
      have hP : va_P D vwCl (sysW I O a u9) H := hP
      have hD : va_D (va_A (sysW I O a x) sz) (sysW I O a u9) := hD
      exact m_iret (u := (a.2, u9)) hx hb hr hlocks hS hP hD dX2_pump_29 hw
  · have hw := hw.2 c1
    refine lv_aload_n hx hb dX2_pump_5 rfl (lv_at hl 0 rfl) ?_
    refine lv_bipush (v := (-2)) hx hb dX2_pump_6 (by decide) ?_
    refine mw_i (mv_V (As := [.int (-2)]) (rest := []) ⟨hx, hb, hml, hown, hts⟩ (kX2_refuse l D I O a H.size x (-2) _ hw) (cwV 1 hts gX2_pump_X2_refuse rfl rfl rfl hdVX2_refuse ⟨(Nat.le_of_ble_eq_true rfl), (Nat.le_of_ble_eq_true rfl)⟩) hK hP hD 0 2 rfl rfl rfl rfl hl.1 rfl (Nat.le_of_ble_eq_true rfl) dX2_pump_8 ⟨(Nat.le_of_ble_eq_true rfl), (Nat.le_of_ble_eq_true rfl)⟩) hP hD hS hA (fun r10 u11 H locs hw hP hD hS => ?_)
    have hP : va_P D vwCl (sysW I O a u11) H := hP
    have hD : va_D (va_A (sysW I O a x) sz) (sysW I O a u11) := hD
    exact m_iret (u := (a.2, u11)) hx hb hr hlocks hS hP hD dX2_pump_11 hw
def qX2_influx (x : Sys) (p1 : Int32) (p2 : Int32) (Q : Int32 → Sys → Prop) : Prop := ((p1 < 1 → (qX2_refuse x (-2) (fun r2 u3 => Q r2 u3))) ∧ (¬ p1 < 1 → (qX2_within p2 1 2500 (fun r4 => ((¬ r4 = 0 → (qX1_annulusVolume (sW x) (fun r6 => ((p1 ≤ r6 → (qX2_save x (fun u8 => (qX1_letIn (sW u8) p1 p2 (fun u9 => (qX1_checkShoe u9 (fun u10 => (qX1_pressureAtCasing u10 (fun r11 => Q r11 (u10, sT u8, s0 u8, s1 u8, s2 u8, s3 u8, sC u8, sE u8)))))))))) ∧ (¬ p1 ≤ r6 → (qX2_refuse x (-3) (fun r12 u13 => Q r12 u13))))))) ∧ (r4 = 0 → (qX2_refuse x (-2) (fun r14 u15 => Q r14 u15))))))))
set_option maxHeartbeats 4000000 in
set_option maxRecDepth 100000 in
theorem kX2_influx (l : Launch) (D : va_G) (I O : ClassId) (a : SA) (sz : Nat) (x : Sys) (p1 : Int32) (p2 : Int32) (Q : Int32 → Sys → Prop) (hw : qX2_influx x p1 p2 Q) : Met l yX2_influx wsX2_influx rX2_influx (mPc D I O [.ref a.1, .int p1, .int p2] (sysW I O a x) sz) (va_Qi (fun r (u : (Nat × Nat × WA × WA × WA × WA × WA × WA) × Sys) => Q r u.2) (mB D (va_A (sysW I O a x) sz) (fun u => sysW I O (a.1, u.1) u.2)) (va_A (sysW I O a x) sz)) 0 0 (va_A (sysW I O a x) sz) := by
  refine m_start (by decide) rfl (Nat.le_of_ble_eq_true rfl) (fun p e s m below meth c ls H locs hx hb hr hml hts hown hlocks hnm hK hP hD hA hS hl => ?_)
  have hown : s.vm.findClass RX2 = some m.cls := hown
  have hl : lv_has ls 3 [(0, .ref a.1), (1, .int p1), (2, .int p2)] := hl
  have hiX2 : ∀ w ∈ wsX20, w ∈ wsX2_influx := by decide +kernel
  have f0 := hts (.fieldLink RX2 10 "WellControl" "well" "LWellControl$Well;") (by decide +kernel)
  unfold qX2_influx at hw
  refine lv_iload_n hx hb dX2_influx_0 rfl (lv_at hl 1 rfl) ?_
  refine lv_iconst (v := 1) hx hb dX2_influx_1 (by decide) ?_
  refine lv_icmp_lt (tgt := 16) hx hb dX2_influx_2 (by decide) (fun c1 => ?_) (fun c1 => ?_)
  · have hw := hw.1 c1
    refine lv_aload_n hx hb dX2_influx_16 rfl (lv_at hl 0 rfl) ?_
    refine lv_bipush (v := (-2)) hx hb dX2_influx_17 (by decide) ?_
    refine mw_i (mv_V (As := [.int (-2)]) (rest := []) ⟨hx, hb, hml, hown, hts⟩ (kX2_refuse l D I O a H.size x (-2) _ hw) (cwV 1 hts gX2_influx_X2_refuse rfl rfl rfl hdVX2_refuse ⟨(Nat.le_of_ble_eq_true rfl), (Nat.le_of_ble_eq_true rfl)⟩) hK hP hD 0 2 rfl rfl rfl rfl hl.1 rfl (Nat.le_of_ble_eq_true rfl) dX2_influx_19 ⟨(Nat.le_of_ble_eq_true rfl), (Nat.le_of_ble_eq_true rfl)⟩) hP hD hS hA (fun r2 u3 H locs hw hP hD hS => ?_)
    have hP : va_P D vwCl (sysW I O a u3) H := hP
    have hD : va_D (va_A (sysW I O a x) sz) (sysW I O a u3) := hD
    exact m_iret (u := (a.2, u3)) hx hb hr hlocks hS hP hD dX2_influx_22 hw
  · have hw := hw.2 c1
    refine lv_iload_n hx hb dX2_influx_5 rfl (lv_at hl 2 rfl) ?_
    refine lv_iconst (v := 1) hx hb dX2_influx_6 (by decide) ?_
    refine lv_sipush (v := 2500) hx hb dX2_influx_7 (by decide) ?_
    refine m0_i (mv_S (As := [.int p2, .int 1, .int 2500]) (rest := []) ⟨hx, hb, hml, hown, hts⟩ (kX2_within l D I O H.size p2 1 2500 _ hw) (va_cwS 3 hts gX2_influx_X2_within rfl rfl rfl hdSX2_within ⟨(Nat.le_of_ble_eq_true rfl), (Nat.le_of_ble_eq_true rfl)⟩) hK (nil_P (D := D) (H := H)) (nil_D (A := va_A (sysW I O a x) sz)) rfl hl.1 rfl (Nat.le_of_ble_eq_true rfl) dX2_influx_10 ⟨(Nat.le_of_ble_eq_true rfl), (Nat.le_of_ble_eq_true rfl)⟩) hP hD hS hA (fun r4 _ H locs hw hP hD hS => ?_)
    refine lv_if_ne (tgt := 23) hx hb dX2_influx_13 (by decide) (fun c5 => ?_) (fun c5 => ?_)
    · have hw := hw.1 c5
      refine lv_iload_n hx hb dX2_influx_23 rfl (lv_at hl 1 rfl) ?_
      refine lv_aload_n hx hb dX2_influx_24 rfl (lv_at hl 0 rfl) ?_
      refine va_get (ci := 2) (v := .ref a.2.2.2.1.1) (C := RX2) (T := TX2) (N := 5) hx hb hts hiX2 hown hK.1 hP 0 rfl rfl 0 (by decide) f0 (fun _ h9 => h9) rfl dX2_influx_25 ?_
      have hPc := va_P.mid (X := sysH I O a x) (wc := welB I a.2.2.2.1 (sW x)) (Y := welB I a.2.2.2.2.1 (sT x) ++ (welB I a.2.2.2.2.2.1 (s0 x) ++ (welB I a.2.2.2.2.2.2.1 (s1 x) ++ (welB I a.2.2.2.2.2.2.2.1 (s2 x) ++ welB I a.2.2.2.2.2.2.2.2 (s3 x))))) hP
      have hDc := va_D.mid (X := sysH I O a x) (wc := welB I a.2.2.2.1 (sW x)) (Y := welB I a.2.2.2.2.1 (sT x) ++ (welB I a.2.2.2.2.2.1 (s0 x) ++ (welB I a.2.2.2.2.2.2.1 (s1 x) ++ (welB I a.2.2.2.2.2.2.2.1 (s2 x) ++ welB I a.2.2.2.2.2.2.2.2 (s3 x))))) hD
      refine mc_i (sysH I O a x) (welB I a.2.2.2.2.1 (sT x) ++ (welB I a.2.2.2.2.2.1 (s0 x) ++ (welB I a.2.2.2.2.2.2.1 (s1 x) ++ (welB I a.2.2.2.2.2.2.2.1 (s2 x) ++ welB I a.2.2.2.2.2.2.2.2 (s3 x))))) (mv_V (As := []) (rest := [.int p1]) ⟨hx, hb, hml, hown, hts⟩ (kX1_annulusVolume l D I O a.2.2.2.1 H.size (sW x) _ hw) (cwV 0 hts gX2_influx_X1_annulusVolume rfl rfl rfl hdVX1_annulusVolume ⟨(Nat.le_of_ble_eq_true rfl), (Nat.le_of_ble_eq_true rfl)⟩) hK hPc hDc 0 1 rfl rfl rfl rfl hl.1 rfl (Nat.le_of_ble_eq_true rfl) dX2_influx_28 ⟨(Nat.le_of_ble_eq_true rfl), (Nat.le_of_ble_eq_true rfl)⟩) hP hD hS hA (fun r6 _ H locs hw hP hD hS => ?_)
      have hP : va_P D vwCl (sysW I O a x) H := hP
      have hD : va_D (va_A (sysW I O a x) sz) (sysW I O a x) := hD
      refine lv_icmp_le (tgt := 41) hx hb dX2_influx_31 (by decide) (fun c7 => ?_) (fun c7 => ?_)
      · have hw := hw.1 c7
        refine lv_aload_n hx hb dX2_influx_41 rfl (lv_at hl 0 rfl) ?_
        refine mw_v (mv_V (As := []) (rest := []) ⟨hx, hb, hml, hown, hts⟩ (kX2_save l D I O a H.size x _ hw) (cwV 0 hts gX2_influx_X2_save rfl rfl rfl hdVX2_save ⟨(Nat.le_of_ble_eq_true rfl), (Nat.le_of_ble_eq_true rfl)⟩) hK hP hD 0 2 rfl rfl rfl rfl hl.1 rfl (Nat.le_of_ble_eq_true rfl) dX2_influx_42 ⟨(Nat.le_of_ble_eq_true rfl), (Nat.le_of_ble_eq_true rfl)⟩) hP hD hS hA (fun u8 H locs hw hP hD hS => ?_)
        obtain ⟨du8, u8⟩ := u8
        have hP : va_P D vwCl (sysW I O (a.1, du8) u8) H := hP
        have hD : va_D (va_A (sysW I O a x) sz) (sysW I O (a.1, du8) u8) := hD
        refine lv_aload_n hx hb dX2_influx_45 rfl (lv_at hl 0 rfl) ?_
        refine va_get (ci := 2) (v := .ref du8.2.2.1.1) (C := RX2) (T := TX2) (N := 5) hx hb hts hiX2 hown hK.1 hP 0 rfl rfl 0 (by decide) f0 (fun _ h9 => h9) rfl dX2_influx_46 ?_
        refine lv_iload_n hx hb dX2_influx_49 rfl (lv_at hl 1 rfl) ?_
        refine lv_iload_n hx hb dX2_influx_50 rfl (lv_at hl 2 rfl) ?_
        have hPc := va_P.mid (X := sysH I O (a.1, du8) u8) (wc := welB I du8.2.2.1 (sW u8)) (Y := welB I du8.2.2.2.1 (sT u8) ++ (welB I du8.2.2.2.2.1 (s0 u8) ++ (welB I du8.2.2.2.2.2.1 (s1 u8) ++ (welB I du8.2.2.2.2.2.2.1 (s2 u8) ++ welB I du8.2.2.2.2.2.2.2 (s3 u8))))) hP
        have hDc := va_D.mid (X := sysH I O (a.1, du8) u8) (wc := welB I du8.2.2.1 (sW u8)) (Y := welB I du8.2.2.2.1 (sT u8) ++ (welB I du8.2.2.2.2.1 (s0 u8) ++ (welB I du8.2.2.2.2.2.1 (s1 u8) ++ (welB I du8.2.2.2.2.2.2.1 (s2 u8) ++ welB I du8.2.2.2.2.2.2.2 (s3 u8))))) hD
        refine mc_v (sysH I O (a.1, du8) u8) (welB I du8.2.2.2.1 (sT u8) ++ (welB I du8.2.2.2.2.1 (s0 u8) ++ (welB I du8.2.2.2.2.2.1 (s1 u8) ++ (welB I du8.2.2.2.2.2.2.1 (s2 u8) ++ welB I du8.2.2.2.2.2.2.2 (s3 u8))))) (mv_V (As := [.int p1, .int p2]) (rest := []) ⟨hx, hb, hml, hown, hts⟩ (kX1_letIn l D I O du8.2.2.1 H.size (sW u8) p1 p2 _ hw) (cwV 2 hts gX2_influx_X1_letIn rfl rfl rfl hdVX1_letIn ⟨(Nat.le_of_ble_eq_true rfl), (Nat.le_of_ble_eq_true rfl)⟩) hK hPc hDc 0 1 rfl rfl rfl rfl hl.1 rfl (Nat.le_of_ble_eq_true rfl) dX2_influx_51 ⟨(Nat.le_of_ble_eq_true rfl), (Nat.le_of_ble_eq_true rfl)⟩) hP hD hS hA (fun u9 H locs hw hP hD hS => ?_)
        have hP : va_P D vwCl (sysW I O (a.1, du8) (u9, sT u8, s0 u8, s1 u8, s2 u8, s3 u8, sC u8, sE u8)) H := hP
        have hD : va_D (va_A (sysW I O a x) sz) (sysW I O (a.1, du8) (u9, sT u8, s0 u8, s1 u8, s2 u8, s3 u8, sC u8, sE u8)) := hD
        refine lv_aload_n hx hb dX2_influx_54 rfl (lv_at hl 0 rfl) ?_
        refine va_get (ci := 2) (v := .ref du8.2.2.1.1) (C := RX2) (T := TX2) (N := 5) hx hb hts hiX2 hown hK.1 hP 0 rfl rfl 0 (by decide) f0 (fun _ h9 => h9) rfl dX2_influx_55 ?_
        have hPc := va_P.mid (X := sysH I O (a.1, du8) (u9, sT u8, s0 u8, s1 u8, s2 u8, s3 u8, sC u8, sE u8)) (wc := welB I du8.2.2.1 u9) (Y := welB I du8.2.2.2.1 (sT u8) ++ (welB I du8.2.2.2.2.1 (s0 u8) ++ (welB I du8.2.2.2.2.2.1 (s1 u8) ++ (welB I du8.2.2.2.2.2.2.1 (s2 u8) ++ welB I du8.2.2.2.2.2.2.2 (s3 u8))))) hP
        have hDc := va_D.mid (X := sysH I O (a.1, du8) (u9, sT u8, s0 u8, s1 u8, s2 u8, s3 u8, sC u8, sE u8)) (wc := welB I du8.2.2.1 u9) (Y := welB I du8.2.2.2.1 (sT u8) ++ (welB I du8.2.2.2.2.1 (s0 u8) ++ (welB I du8.2.2.2.2.2.1 (s1 u8) ++ (welB I du8.2.2.2.2.2.2.1 (s2 u8) ++ welB I du8.2.2.2.2.2.2.2 (s3 u8))))) hD
        refine mc_v (sysH I O (a.1, du8) (u9, sT u8, s0 u8, s1 u8, s2 u8, s3 u8, sC u8, sE u8)) (welB I du8.2.2.2.1 (sT u8) ++ (welB I du8.2.2.2.2.1 (s0 u8) ++ (welB I du8.2.2.2.2.2.1 (s1 u8) ++ (welB I du8.2.2.2.2.2.2.1 (s2 u8) ++ welB I du8.2.2.2.2.2.2.2 (s3 u8))))) (mv_V (As := []) (rest := []) ⟨hx, hb, hml, hown, hts⟩ (kX1_checkShoe l D I O du8.2.2.1 H.size u9 _ hw) (cwV 0 hts gX2_influx_X1_checkShoe rfl rfl rfl hdVX1_checkShoe ⟨(Nat.le_of_ble_eq_true rfl), (Nat.le_of_ble_eq_true rfl)⟩) hK hPc hDc 0 1 rfl rfl rfl rfl hl.1 rfl (Nat.le_of_ble_eq_true rfl) dX2_influx_58 ⟨(Nat.le_of_ble_eq_true rfl), (Nat.le_of_ble_eq_true rfl)⟩) hP hD hS hA (fun u10 H locs hw hP hD hS => ?_)
        have hP : va_P D vwCl (sysW I O (a.1, du8) (u10, sT u8, s0 u8, s1 u8, s2 u8, s3 u8, sC u8, sE u8)) H := hP
        have hD : va_D (va_A (sysW I O a x) sz) (sysW I O (a.1, du8) (u10, sT u8, s0 u8, s1 u8, s2 u8, s3 u8, sC u8, sE u8)) := hD
        refine lv_aload_n hx hb dX2_influx_61 rfl (lv_at hl 0 rfl) ?_
        refine va_get (ci := 2) (v := .ref du8.2.2.1.1) (C := RX2) (T := TX2) (N := 5) hx hb hts hiX2 hown hK.1 hP 0 rfl rfl 0 (by decide) f0 (fun _ h9 => h9) rfl dX2_influx_62 ?_
        have hPc := va_P.mid (X := sysH I O (a.1, du8) (u10, sT u8, s0 u8, s1 u8, s2 u8, s3 u8, sC u8, sE u8)) (wc := welB I du8.2.2.1 u10) (Y := welB I du8.2.2.2.1 (sT u8) ++ (welB I du8.2.2.2.2.1 (s0 u8) ++ (welB I du8.2.2.2.2.2.1 (s1 u8) ++ (welB I du8.2.2.2.2.2.2.1 (s2 u8) ++ welB I du8.2.2.2.2.2.2.2 (s3 u8))))) hP
        have hDc := va_D.mid (X := sysH I O (a.1, du8) (u10, sT u8, s0 u8, s1 u8, s2 u8, s3 u8, sC u8, sE u8)) (wc := welB I du8.2.2.1 u10) (Y := welB I du8.2.2.2.1 (sT u8) ++ (welB I du8.2.2.2.2.1 (s0 u8) ++ (welB I du8.2.2.2.2.2.1 (s1 u8) ++ (welB I du8.2.2.2.2.2.2.1 (s2 u8) ++ welB I du8.2.2.2.2.2.2.2 (s3 u8))))) hD
        refine mc_i (sysH I O (a.1, du8) (u10, sT u8, s0 u8, s1 u8, s2 u8, s3 u8, sC u8, sE u8)) (welB I du8.2.2.2.1 (sT u8) ++ (welB I du8.2.2.2.2.1 (s0 u8) ++ (welB I du8.2.2.2.2.2.1 (s1 u8) ++ (welB I du8.2.2.2.2.2.2.1 (s2 u8) ++ welB I du8.2.2.2.2.2.2.2 (s3 u8))))) (mv_V (As := []) (rest := []) ⟨hx, hb, hml, hown, hts⟩ (kX1_pressureAtCasing l D I O du8.2.2.1 H.size u10 _ hw) (cwV 0 hts gX2_influx_X1_pressureAtCasing rfl rfl rfl hdVX1_pressureAtCasing ⟨(Nat.le_of_ble_eq_true rfl), (Nat.le_of_ble_eq_true rfl)⟩) hK hPc hDc 0 1 rfl rfl rfl rfl hl.1 rfl (Nat.le_of_ble_eq_true rfl) dX2_influx_65 ⟨(Nat.le_of_ble_eq_true rfl), (Nat.le_of_ble_eq_true rfl)⟩) hP hD hS hA (fun r11 _ H locs hw hP hD hS => ?_)
        have hP : va_P D vwCl (sysW I O (a.1, du8) (u10, sT u8, s0 u8, s1 u8, s2 u8, s3 u8, sC u8, sE u8)) H := hP
        have hD : va_D (va_A (sysW I O a x) sz) (sysW I O (a.1, du8) (u10, sT u8, s0 u8, s1 u8, s2 u8, s3 u8, sC u8, sE u8)) := hD
        exact m_iret (u := (du8, (u10, sT u8, s0 u8, s1 u8, s2 u8, s3 u8, sC u8, sE u8))) hx hb hr hlocks hS hP hD dX2_influx_68 hw
      · have hw := hw.2 c7
        refine lv_aload_n hx hb dX2_influx_34 rfl (lv_at hl 0 rfl) ?_
        refine lv_bipush (v := (-3)) hx hb dX2_influx_35 (by decide) ?_
        refine mw_i (mv_V (As := [.int (-3)]) (rest := []) ⟨hx, hb, hml, hown, hts⟩ (kX2_refuse l D I O a H.size x (-3) _ hw) (cwV 1 hts gX2_influx_X2_refuse rfl rfl rfl hdVX2_refuse ⟨(Nat.le_of_ble_eq_true rfl), (Nat.le_of_ble_eq_true rfl)⟩) hK hP hD 0 2 rfl rfl rfl rfl hl.1 rfl (Nat.le_of_ble_eq_true rfl) dX2_influx_37 ⟨(Nat.le_of_ble_eq_true rfl), (Nat.le_of_ble_eq_true rfl)⟩) hP hD hS hA (fun r12 u13 H locs hw hP hD hS => ?_)
        have hP : va_P D vwCl (sysW I O a u13) H := hP
        have hD : va_D (va_A (sysW I O a x) sz) (sysW I O a u13) := hD
        exact m_iret (u := (a.2, u13)) hx hb hr hlocks hS hP hD dX2_influx_40 hw
    · have hw := hw.2 c5
      refine lv_aload_n hx hb dX2_influx_16 rfl (lv_at hl 0 rfl) ?_
      refine lv_bipush (v := (-2)) hx hb dX2_influx_17 (by decide) ?_
      refine mw_i (mv_V (As := [.int (-2)]) (rest := []) ⟨hx, hb, hml, hown, hts⟩ (kX2_refuse l D I O a H.size x (-2) _ hw) (cwV 1 hts gX2_influx_X2_refuse rfl rfl rfl hdVX2_refuse ⟨(Nat.le_of_ble_eq_true rfl), (Nat.le_of_ble_eq_true rfl)⟩) hK hP hD 0 2 rfl rfl rfl rfl hl.1 rfl (Nat.le_of_ble_eq_true rfl) dX2_influx_19 ⟨(Nat.le_of_ble_eq_true rfl), (Nat.le_of_ble_eq_true rfl)⟩) hP hD hS hA (fun r14 u15 H locs hw hP hD hS => ?_)
      have hP : va_P D vwCl (sysW I O a u15) H := hP
      have hD : va_D (va_A (sysW I O a x) sz) (sysW I O a u15) := hD
      exact m_iret (u := (a.2, u15)) hx hb hr hlocks hS hP hD dX2_influx_22 hw
