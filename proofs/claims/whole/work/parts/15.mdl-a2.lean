def qX3_fill (x : Mod) (Q : Mod → Prop) : Prop := (qX3_volumeAt 0 0 (fun r2 => (qX3_volumeOf (upd (mN x) (Int32.toNatClampNeg 11) 1, mA x, mP x, mS x, mE x, mH x) 0 (fun r3 => (vp_in r2 4416 ∧ (qX3_densityAt 0 0 (fun r5 => (vp_in r5 4416 ∧ (qX3_volumeAt 1 0 (fun r8 => (qX3_volumeOf (upd (upd (upd (upd (mN x) (Int32.toNatClampNeg 11) 1) (Int32.toNatClampNeg r2) r3) (Int32.toNatClampNeg r5) ((upd (upd (mN x) (Int32.toNatClampNeg 11) 1) (Int32.toNatClampNeg r2) r3) (Int32.toNatClampNeg 4))) (Int32.toNatClampNeg 12) 1, mA x, mP x, mS x, mE x, mH x) 1 (fun r9 => (vp_in r8 4416 ∧ (qX3_densityAt 1 0 (fun r11 => (vp_in r11 4416 ∧ Q (upd (upd (upd (upd (upd (upd (upd (upd (upd (mN x) (Int32.toNatClampNeg 11) 1) (Int32.toNatClampNeg r2) r3) (Int32.toNatClampNeg r5) ((upd (upd (mN x) (Int32.toNatClampNeg 11) 1) (Int32.toNatClampNeg r2) r3) (Int32.toNatClampNeg 4))) (Int32.toNatClampNeg 12) 1) (Int32.toNatClampNeg r8) r9) (Int32.toNatClampNeg r11) ((upd (upd (upd (upd (upd (mN x) (Int32.toNatClampNeg 11) 1) (Int32.toNatClampNeg r2) r3) (Int32.toNatClampNeg r5) ((upd (upd (mN x) (Int32.toNatClampNeg 11) 1) (Int32.toNatClampNeg r2) r3) (Int32.toNatClampNeg 4))) (Int32.toNatClampNeg 12) 1) (Int32.toNatClampNeg r8) r9) (Int32.toNatClampNeg 4))) (Int32.toNatClampNeg 8) 0) (Int32.toNatClampNeg 9) 0) (Int32.toNatClampNeg 10) 0, mA x, mP x, mS x, mE x, mH x)))))))))))))))))
set_option maxHeartbeats 4000000 in
set_option maxRecDepth 100000 in
theorem kX3_fill (l : Launch) (D : va_G) (I O : ClassId) (a : MA) (sz : Nat) (x : Mod) (Q : Mod → Prop) (hw : qX3_fill x Q) : Met l yX3_fill wsX3_fill rX3_fill (mPc D I O [.ref a.1] (mdlW I a x) sz) (va_Qv (fun (u : Mod) => Q u) (mB D (va_A (mdlW I a x) sz) (fun u => mdlW I a u)) (va_A (mdlW I a x) sz)) 0 0 (va_A (mdlW I a x) sz) := by
  refine m_start (by decide) rfl (Nat.le_of_ble_eq_true rfl) (fun p e s m below meth c ls H locs hx hb hr hml hts hown hlocks hnm hK hP hD hA hS hl => ?_)
  have hown : s.vm.findClass RX3 = some m.cls := hown
  have hl : lv_has ls 2 [(0, .ref a.1)] := hl
  have hiX3 : ∀ w ∈ wsX30, w ∈ wsX3_fill := by decide +kernel
  have f0 := hts (.fieldLink RX3 7 "WellControlModel" "now" "[I") (by decide +kernel)
  unfold qX3_fill at hw
  refine lv_iconst (v := 0) hx hb dX3_fill_0 (by decide) ?_
  refine lv_istore_n (lv' := [(1, .int 0), (0, .ref a.1)]) hx hb dX3_fill_1 rfl hl (by decide) rfl (fun ls hl => ?_)
  refine lv_iload_n hx hb dX3_fill_2 rfl (lv_at hl 0 rfl) ?_
  refine lv_iconst (v := 2) hx hb dX3_fill_3 (by decide) ?_
  refine lv_icmp_ge (tgt := 54) hx hb dX3_fill_4 (by decide) (fun c1 => ?_) (fun c1 => ?_)
  · exact absurd c1 (show ¬ ((2 : Int32) ≤ (0 : Int32)) from by decide)
  · refine lv_aload_n hx hb dX3_fill_7 rfl (lv_at hl 1 rfl) ?_
    refine va_get (ci := 3) (v := .ref a.2.1) (C := RX3) (T := TX3) (N := 6) hx hb hts hiX3 hown hK.1 hP 0 rfl rfl 0 (by decide) f0 (fun _ h9 => h9) rfl dX3_fill_8 ?_
    refine lv_bipush (v := 11) hx hb dX3_fill_11 (by decide) ?_
    refine lv_iload_n hx hb dX3_fill_13 rfl (lv_at hl 0 rfl) ?_
    refine lv_iadd hx hb dX3_fill_14 ?_
    rw [show ((11 : Int32) + 0) = 11 from by decide]
    refine lv_iconst (v := 1) hx hb dX3_fill_15 (by decide) ?_
    refine va_iast hx hb hK.1 hP hD hS 3 0 rfl rfl (vp_c 11 4416 (by decide)) dX3_fill_16 (fun H locs hP hD hS => ?_)
    have hP : va_P D vwCl (mdlW I a (upd (mN x) (Int32.toNatClampNeg 11) 1, mA x, mP x, mS x, mE x, mH x)) H := hP
    have hD : va_D (va_A (mdlW I a x) sz) (mdlW I a (upd (mN x) (Int32.toNatClampNeg 11) 1, mA x, mP x, mS x, mE x, mH x)) := hD
    refine lv_aload_n hx hb dX3_fill_17 rfl (lv_at hl 1 rfl) ?_
    refine va_get (ci := 3) (v := .ref a.2.1) (C := RX3) (T := TX3) (N := 6) hx hb hts hiX3 hown hK.1 hP 0 rfl rfl 0 (by decide) f0 (fun _ h9 => h9) rfl dX3_fill_18 ?_
    refine lv_iload_n hx hb dX3_fill_21 rfl (lv_at hl 0 rfl) ?_
    refine lv_iconst (v := 0) hx hb dX3_fill_22 (by decide) ?_
    refine m0_i (mv_S (As := [.int 0, .int 0]) (rest := [.ref a.2.1]) ⟨hx, hb, hml, hown, hts⟩ (kX3_volumeAt l D I O H.size 0 0 _ hw) (va_cwS 2 hts gX3_fill_X3_volumeAt rfl rfl rfl hdSX3_volumeAt ⟨(Nat.le_of_ble_eq_true rfl), (Nat.le_of_ble_eq_true rfl)⟩) hK (nil_P (D := D) (H := H)) (nil_D (A := va_A (mdlW I a x) sz)) rfl hl.1 rfl (Nat.le_of_ble_eq_true rfl) dX3_fill_23 ⟨(Nat.le_of_ble_eq_true rfl), (Nat.le_of_ble_eq_true rfl)⟩) hP hD hS hA (fun r2 _ H locs hw hP hD hS => ?_)
    refine lv_aload_n hx hb dX3_fill_26 rfl (lv_at hl 1 rfl) ?_
    refine lv_iload_n hx hb dX3_fill_27 rfl (lv_at hl 0 rfl) ?_
    refine mw_i (mv_V (As := [.int 0]) (rest := [.int r2, .ref a.2.1]) ⟨hx, hb, hml, hown, hts⟩ (kX3_volumeOf l D I O a H.size (upd (mN x) (Int32.toNatClampNeg 11) 1, mA x, mP x, mS x, mE x, mH x) 0 _ hw) (cwV 1 hts gX3_fill_X3_volumeOf rfl rfl rfl hdVX3_volumeOf ⟨(Nat.le_of_ble_eq_true rfl), (Nat.le_of_ble_eq_true rfl)⟩) hK hP hD 0 3 rfl rfl rfl rfl hl.1 rfl (Nat.le_of_ble_eq_true rfl) dX3_fill_28 ⟨(Nat.le_of_ble_eq_true rfl), (Nat.le_of_ble_eq_true rfl)⟩) hP hD hS hA (fun r3 _ H locs hw hP hD hS => ?_)
    have hP : va_P D vwCl (mdlW I a (upd (mN x) (Int32.toNatClampNeg 11) 1, mA x, mP x, mS x, mE x, mH x)) H := hP
    have hD : va_D (va_A (mdlW I a x) sz) (mdlW I a (upd (mN x) (Int32.toNatClampNeg 11) 1, mA x, mP x, mS x, mE x, mH x)) := hD
    obtain ⟨h4, hw⟩ := hw
    refine va_iast hx hb hK.1 hP hD hS 3 0 rfl rfl h4 dX3_fill_31 (fun H locs hP hD hS => ?_)
    have hP : va_P D vwCl (mdlW I a (upd (upd (mN x) (Int32.toNatClampNeg 11) 1) (Int32.toNatClampNeg r2) r3, mA x, mP x, mS x, mE x, mH x)) H := hP
    have hD : va_D (va_A (mdlW I a x) sz) (mdlW I a (upd (upd (mN x) (Int32.toNatClampNeg 11) 1) (Int32.toNatClampNeg r2) r3, mA x, mP x, mS x, mE x, mH x)) := hD
    refine lv_aload_n hx hb dX3_fill_32 rfl (lv_at hl 1 rfl) ?_
    refine va_get (ci := 3) (v := .ref a.2.1) (C := RX3) (T := TX3) (N := 6) hx hb hts hiX3 hown hK.1 hP 0 rfl rfl 0 (by decide) f0 (fun _ h9 => h9) rfl dX3_fill_33 ?_
    refine lv_iload_n hx hb dX3_fill_36 rfl (lv_at hl 0 rfl) ?_
    refine lv_iconst (v := 0) hx hb dX3_fill_37 (by decide) ?_
    refine m0_i (mv_S (As := [.int 0, .int 0]) (rest := [.ref a.2.1]) ⟨hx, hb, hml, hown, hts⟩ (kX3_densityAt l D I O H.size 0 0 _ hw) (va_cwS 2 hts gX3_fill_X3_densityAt rfl rfl rfl hdSX3_densityAt ⟨(Nat.le_of_ble_eq_true rfl), (Nat.le_of_ble_eq_true rfl)⟩) hK (nil_P (D := D) (H := H)) (nil_D (A := va_A (mdlW I a x) sz)) rfl hl.1 rfl (Nat.le_of_ble_eq_true rfl) dX3_fill_38 ⟨(Nat.le_of_ble_eq_true rfl), (Nat.le_of_ble_eq_true rfl)⟩) hP hD hS hA (fun r5 _ H locs hw hP hD hS => ?_)
    refine lv_aload_n hx hb dX3_fill_41 rfl (lv_at hl 1 rfl) ?_
    refine va_get (ci := 3) (v := .ref a.2.1) (C := RX3) (T := TX3) (N := 6) hx hb hts hiX3 hown hK.1 hP 0 rfl rfl 0 (by decide) f0 (fun _ h9 => h9) rfl dX3_fill_42 ?_
    refine lv_iconst (v := 4) hx hb dX3_fill_45 (by decide) ?_
    refine va_iald hx hb hK.1 hP 3 0 rfl rfl (vp_c 4 4416 (by decide)) dX3_fill_46 ?_
    obtain ⟨h6, hw⟩ := hw
    refine va_iast hx hb hK.1 hP hD hS 3 0 rfl rfl h6 dX3_fill_47 (fun H locs hP hD hS => ?_)
    have hP : va_P D vwCl (mdlW I a (upd (upd (upd (mN x) (Int32.toNatClampNeg 11) 1) (Int32.toNatClampNeg r2) r3) (Int32.toNatClampNeg r5) ((upd (upd (mN x) (Int32.toNatClampNeg 11) 1) (Int32.toNatClampNeg r2) r3) (Int32.toNatClampNeg 4)), mA x, mP x, mS x, mE x, mH x)) H := hP
    have hD : va_D (va_A (mdlW I a x) sz) (mdlW I a (upd (upd (upd (mN x) (Int32.toNatClampNeg 11) 1) (Int32.toNatClampNeg r2) r3) (Int32.toNatClampNeg r5) ((upd (upd (mN x) (Int32.toNatClampNeg 11) 1) (Int32.toNatClampNeg r2) r3) (Int32.toNatClampNeg 4)), mA x, mP x, mS x, mE x, mH x)) := hD
    refine lv_iinc (v := 1) (lv' := [(1, .int 1), (0, .ref a.1)]) hx hb dX3_fill_48 hl (k := 0) rfl (by decide) (by decide) rfl (fun ls hl => ?_)
    refine lv_goto (tgt := 2) hx hb dX3_fill_51 (by decide) ?_
    refine lv_iload_n hx hb dX3_fill_2 rfl (lv_at hl 0 rfl) ?_
    refine lv_iconst (v := 2) hx hb dX3_fill_3 (by decide) ?_
    refine lv_icmp_ge (tgt := 54) hx hb dX3_fill_4 (by decide) (fun c7 => ?_) (fun c7 => ?_)
    · exact absurd c7 (show ¬ ((2 : Int32) ≤ (1 : Int32)) from by decide)
    · refine lv_aload_n hx hb dX3_fill_7 rfl (lv_at hl 1 rfl) ?_
      refine va_get (ci := 3) (v := .ref a.2.1) (C := RX3) (T := TX3) (N := 6) hx hb hts hiX3 hown hK.1 hP 0 rfl rfl 0 (by decide) f0 (fun _ h9 => h9) rfl dX3_fill_8 ?_
      refine lv_bipush (v := 11) hx hb dX3_fill_11 (by decide) ?_
      refine lv_iload_n hx hb dX3_fill_13 rfl (lv_at hl 0 rfl) ?_
      refine lv_iadd hx hb dX3_fill_14 ?_
      rw [show ((11 : Int32) + 1) = 12 from by decide]
      refine lv_iconst (v := 1) hx hb dX3_fill_15 (by decide) ?_
      refine va_iast hx hb hK.1 hP hD hS 3 0 rfl rfl (vp_c 12 4416 (by decide)) dX3_fill_16 (fun H locs hP hD hS => ?_)
      have hP : va_P D vwCl (mdlW I a (upd (upd (upd (upd (mN x) (Int32.toNatClampNeg 11) 1) (Int32.toNatClampNeg r2) r3) (Int32.toNatClampNeg r5) ((upd (upd (mN x) (Int32.toNatClampNeg 11) 1) (Int32.toNatClampNeg r2) r3) (Int32.toNatClampNeg 4))) (Int32.toNatClampNeg 12) 1, mA x, mP x, mS x, mE x, mH x)) H := hP
      have hD : va_D (va_A (mdlW I a x) sz) (mdlW I a (upd (upd (upd (upd (mN x) (Int32.toNatClampNeg 11) 1) (Int32.toNatClampNeg r2) r3) (Int32.toNatClampNeg r5) ((upd (upd (mN x) (Int32.toNatClampNeg 11) 1) (Int32.toNatClampNeg r2) r3) (Int32.toNatClampNeg 4))) (Int32.toNatClampNeg 12) 1, mA x, mP x, mS x, mE x, mH x)) := hD
      refine lv_aload_n hx hb dX3_fill_17 rfl (lv_at hl 1 rfl) ?_
      refine va_get (ci := 3) (v := .ref a.2.1) (C := RX3) (T := TX3) (N := 6) hx hb hts hiX3 hown hK.1 hP 0 rfl rfl 0 (by decide) f0 (fun _ h9 => h9) rfl dX3_fill_18 ?_
      refine lv_iload_n hx hb dX3_fill_21 rfl (lv_at hl 0 rfl) ?_
      refine lv_iconst (v := 0) hx hb dX3_fill_22 (by decide) ?_
      refine m0_i (mv_S (As := [.int 1, .int 0]) (rest := [.ref a.2.1]) ⟨hx, hb, hml, hown, hts⟩ (kX3_volumeAt l D I O H.size 1 0 _ hw) (va_cwS 2 hts gX3_fill_X3_volumeAt rfl rfl rfl hdSX3_volumeAt ⟨(Nat.le_of_ble_eq_true rfl), (Nat.le_of_ble_eq_true rfl)⟩) hK (nil_P (D := D) (H := H)) (nil_D (A := va_A (mdlW I a x) sz)) rfl hl.1 rfl (Nat.le_of_ble_eq_true rfl) dX3_fill_23 ⟨(Nat.le_of_ble_eq_true rfl), (Nat.le_of_ble_eq_true rfl)⟩) hP hD hS hA (fun r8 _ H locs hw hP hD hS => ?_)
      refine lv_aload_n hx hb dX3_fill_26 rfl (lv_at hl 1 rfl) ?_
      refine lv_iload_n hx hb dX3_fill_27 rfl (lv_at hl 0 rfl) ?_
      refine mw_i (mv_V (As := [.int 1]) (rest := [.int r8, .ref a.2.1]) ⟨hx, hb, hml, hown, hts⟩ (kX3_volumeOf l D I O a H.size (upd (upd (upd (upd (mN x) (Int32.toNatClampNeg 11) 1) (Int32.toNatClampNeg r2) r3) (Int32.toNatClampNeg r5) ((upd (upd (mN x) (Int32.toNatClampNeg 11) 1) (Int32.toNatClampNeg r2) r3) (Int32.toNatClampNeg 4))) (Int32.toNatClampNeg 12) 1, mA x, mP x, mS x, mE x, mH x) 1 _ hw) (cwV 1 hts gX3_fill_X3_volumeOf rfl rfl rfl hdVX3_volumeOf ⟨(Nat.le_of_ble_eq_true rfl), (Nat.le_of_ble_eq_true rfl)⟩) hK hP hD 0 3 rfl rfl rfl rfl hl.1 rfl (Nat.le_of_ble_eq_true rfl) dX3_fill_28 ⟨(Nat.le_of_ble_eq_true rfl), (Nat.le_of_ble_eq_true rfl)⟩) hP hD hS hA (fun r9 _ H locs hw hP hD hS => ?_)
      have hP : va_P D vwCl (mdlW I a (upd (upd (upd (upd (mN x) (Int32.toNatClampNeg 11) 1) (Int32.toNatClampNeg r2) r3) (Int32.toNatClampNeg r5) ((upd (upd (mN x) (Int32.toNatClampNeg 11) 1) (Int32.toNatClampNeg r2) r3) (Int32.toNatClampNeg 4))) (Int32.toNatClampNeg 12) 1, mA x, mP x, mS x, mE x, mH x)) H := hP
      have hD : va_D (va_A (mdlW I a x) sz) (mdlW I a (upd (upd (upd (upd (mN x) (Int32.toNatClampNeg 11) 1) (Int32.toNatClampNeg r2) r3) (Int32.toNatClampNeg r5) ((upd (upd (mN x) (Int32.toNatClampNeg 11) 1) (Int32.toNatClampNeg r2) r3) (Int32.toNatClampNeg 4))) (Int32.toNatClampNeg 12) 1, mA x, mP x, mS x, mE x, mH x)) := hD
      obtain ⟨h10, hw⟩ := hw
      refine va_iast hx hb hK.1 hP hD hS 3 0 rfl rfl h10 dX3_fill_31 (fun H locs hP hD hS => ?_)
      have hP : va_P D vwCl (mdlW I a (upd (upd (upd (upd (upd (mN x) (Int32.toNatClampNeg 11) 1) (Int32.toNatClampNeg r2) r3) (Int32.toNatClampNeg r5) ((upd (upd (mN x) (Int32.toNatClampNeg 11) 1) (Int32.toNatClampNeg r2) r3) (Int32.toNatClampNeg 4))) (Int32.toNatClampNeg 12) 1) (Int32.toNatClampNeg r8) r9, mA x, mP x, mS x, mE x, mH x)) H := hP
      have hD : va_D (va_A (mdlW I a x) sz) (mdlW I a (upd (upd (upd (upd (upd (mN x) (Int32.toNatClampNeg 11) 1) (Int32.toNatClampNeg r2) r3) (Int32.toNatClampNeg r5) ((upd (upd (mN x) (Int32.toNatClampNeg 11) 1) (Int32.toNatClampNeg r2) r3) (Int32.toNatClampNeg 4))) (Int32.toNatClampNeg 12) 1) (Int32.toNatClampNeg r8) r9, mA x, mP x, mS x, mE x, mH x)) := hD
      refine lv_aload_n hx hb dX3_fill_32 rfl (lv_at hl 1 rfl) ?_
      refine va_get (ci := 3) (v := .ref a.2.1) (C := RX3) (T := TX3) (N := 6) hx hb hts hiX3 hown hK.1 hP 0 rfl rfl 0 (by decide) f0 (fun _ h9 => h9) rfl dX3_fill_33 ?_
      refine lv_iload_n hx hb dX3_fill_36 rfl (lv_at hl 0 rfl) ?_
      refine lv_iconst (v := 0) hx hb dX3_fill_37 (by decide) ?_
      refine m0_i (mv_S (As := [.int 1, .int 0]) (rest := [.ref a.2.1]) ⟨hx, hb, hml, hown, hts⟩ (kX3_densityAt l D I O H.size 1 0 _ hw) (va_cwS 2 hts gX3_fill_X3_densityAt rfl rfl rfl hdSX3_densityAt ⟨(Nat.le_of_ble_eq_true rfl), (Nat.le_of_ble_eq_true rfl)⟩) hK (nil_P (D := D) (H := H)) (nil_D (A := va_A (mdlW I a x) sz)) rfl hl.1 rfl (Nat.le_of_ble_eq_true rfl) dX3_fill_38 ⟨(Nat.le_of_ble_eq_true rfl), (Nat.le_of_ble_eq_true rfl)⟩) hP hD hS hA (fun r11 _ H locs hw hP hD hS => ?_)
      refine lv_aload_n hx hb dX3_fill_41 rfl (lv_at hl 1 rfl) ?_
      refine va_get (ci := 3) (v := .ref a.2.1) (C := RX3) (T := TX3) (N := 6) hx hb hts hiX3 hown hK.1 hP 0 rfl rfl 0 (by decide) f0 (fun _ h9 => h9) rfl dX3_fill_42 ?_
      refine lv_iconst (v := 4) hx hb dX3_fill_45 (by decide) ?_
      refine va_iald hx hb hK.1 hP 3 0 rfl rfl (vp_c 4 4416 (by decide)) dX3_fill_46 ?_
      obtain ⟨h12, hw⟩ := hw
      refine va_iast hx hb hK.1 hP hD hS 3 0 rfl rfl h12 dX3_fill_47 (fun H locs hP hD hS => ?_)
      have hP : va_P D vwCl (mdlW I a (upd (upd (upd (upd (upd (upd (mN x) (Int32.toNatClampNeg 11) 1) (Int32.toNatClampNeg r2) r3) (Int32.toNatClampNeg r5) ((upd (upd (mN x) (Int32.toNatClampNeg 11) 1) (Int32.toNatClampNeg r2) r3) (Int32.toNatClampNeg 4))) (Int32.toNatClampNeg 12) 1) (Int32.toNatClampNeg r8) r9) (Int32.toNatClampNeg r11) ((upd (upd (upd (upd (upd (mN x) (Int32.toNatClampNeg 11) 1) (Int32.toNatClampNeg r2) r3) (Int32.toNatClampNeg r5) ((upd (upd (mN x) (Int32.toNatClampNeg 11) 1) (Int32.toNatClampNeg r2) r3) (Int32.toNatClampNeg 4))) (Int32.toNatClampNeg 12) 1) (Int32.toNatClampNeg r8) r9) (Int32.toNatClampNeg 4)), mA x, mP x, mS x, mE x, mH x)) H := hP
      have hD : va_D (va_A (mdlW I a x) sz) (mdlW I a (upd (upd (upd (upd (upd (upd (mN x) (Int32.toNatClampNeg 11) 1) (Int32.toNatClampNeg r2) r3) (Int32.toNatClampNeg r5) ((upd (upd (mN x) (Int32.toNatClampNeg 11) 1) (Int32.toNatClampNeg r2) r3) (Int32.toNatClampNeg 4))) (Int32.toNatClampNeg 12) 1) (Int32.toNatClampNeg r8) r9) (Int32.toNatClampNeg r11) ((upd (upd (upd (upd (upd (mN x) (Int32.toNatClampNeg 11) 1) (Int32.toNatClampNeg r2) r3) (Int32.toNatClampNeg r5) ((upd (upd (mN x) (Int32.toNatClampNeg 11) 1) (Int32.toNatClampNeg r2) r3) (Int32.toNatClampNeg 4))) (Int32.toNatClampNeg 12) 1) (Int32.toNatClampNeg r8) r9) (Int32.toNatClampNeg 4)), mA x, mP x, mS x, mE x, mH x)) := hD
      refine lv_iinc (v := 2) (lv' := [(1, .int 2), (0, .ref a.1)]) hx hb dX3_fill_48 hl (k := 0) rfl (by decide) (by decide) rfl (fun ls hl => ?_)
      refine lv_goto (tgt := 2) hx hb dX3_fill_51 (by decide) ?_
      refine lv_iload_n hx hb dX3_fill_2 rfl (lv_at hl 0 rfl) ?_
      refine lv_iconst (v := 2) hx hb dX3_fill_3 (by decide) ?_
      refine lv_icmp_ge (tgt := 54) hx hb dX3_fill_4 (by decide) (fun c13 => ?_) (fun c13 => ?_)
      · refine lv_aload_n hx hb dX3_fill_54 rfl (lv_at hl 1 rfl) ?_
        refine va_get (ci := 3) (v := .ref a.2.1) (C := RX3) (T := TX3) (N := 6) hx hb hts hiX3 hown hK.1 hP 0 rfl rfl 0 (by decide) f0 (fun _ h9 => h9) rfl dX3_fill_55 ?_
        refine lv_bipush (v := 8) hx hb dX3_fill_58 (by decide) ?_
        refine lv_iconst (v := 0) hx hb dX3_fill_60 (by decide) ?_
        refine va_iast hx hb hK.1 hP hD hS 3 0 rfl rfl (vp_c 8 4416 (by decide)) dX3_fill_61 (fun H locs hP hD hS => ?_)
        have hP : va_P D vwCl (mdlW I a (upd (upd (upd (upd (upd (upd (upd (mN x) (Int32.toNatClampNeg 11) 1) (Int32.toNatClampNeg r2) r3) (Int32.toNatClampNeg r5) ((upd (upd (mN x) (Int32.toNatClampNeg 11) 1) (Int32.toNatClampNeg r2) r3) (Int32.toNatClampNeg 4))) (Int32.toNatClampNeg 12) 1) (Int32.toNatClampNeg r8) r9) (Int32.toNatClampNeg r11) ((upd (upd (upd (upd (upd (mN x) (Int32.toNatClampNeg 11) 1) (Int32.toNatClampNeg r2) r3) (Int32.toNatClampNeg r5) ((upd (upd (mN x) (Int32.toNatClampNeg 11) 1) (Int32.toNatClampNeg r2) r3) (Int32.toNatClampNeg 4))) (Int32.toNatClampNeg 12) 1) (Int32.toNatClampNeg r8) r9) (Int32.toNatClampNeg 4))) (Int32.toNatClampNeg 8) 0, mA x, mP x, mS x, mE x, mH x)) H := hP
        have hD : va_D (va_A (mdlW I a x) sz) (mdlW I a (upd (upd (upd (upd (upd (upd (upd (mN x) (Int32.toNatClampNeg 11) 1) (Int32.toNatClampNeg r2) r3) (Int32.toNatClampNeg r5) ((upd (upd (mN x) (Int32.toNatClampNeg 11) 1) (Int32.toNatClampNeg r2) r3) (Int32.toNatClampNeg 4))) (Int32.toNatClampNeg 12) 1) (Int32.toNatClampNeg r8) r9) (Int32.toNatClampNeg r11) ((upd (upd (upd (upd (upd (mN x) (Int32.toNatClampNeg 11) 1) (Int32.toNatClampNeg r2) r3) (Int32.toNatClampNeg r5) ((upd (upd (mN x) (Int32.toNatClampNeg 11) 1) (Int32.toNatClampNeg r2) r3) (Int32.toNatClampNeg 4))) (Int32.toNatClampNeg 12) 1) (Int32.toNatClampNeg r8) r9) (Int32.toNatClampNeg 4))) (Int32.toNatClampNeg 8) 0, mA x, mP x, mS x, mE x, mH x)) := hD
        refine lv_aload_n hx hb dX3_fill_62 rfl (lv_at hl 1 rfl) ?_
        refine va_get (ci := 3) (v := .ref a.2.1) (C := RX3) (T := TX3) (N := 6) hx hb hts hiX3 hown hK.1 hP 0 rfl rfl 0 (by decide) f0 (fun _ h9 => h9) rfl dX3_fill_63 ?_
        refine lv_bipush (v := 9) hx hb dX3_fill_66 (by decide) ?_
        refine lv_iconst (v := 0) hx hb dX3_fill_68 (by decide) ?_
        refine va_iast hx hb hK.1 hP hD hS 3 0 rfl rfl (vp_c 9 4416 (by decide)) dX3_fill_69 (fun H locs hP hD hS => ?_)
        have hP : va_P D vwCl (mdlW I a (upd (upd (upd (upd (upd (upd (upd (upd (mN x) (Int32.toNatClampNeg 11) 1) (Int32.toNatClampNeg r2) r3) (Int32.toNatClampNeg r5) ((upd (upd (mN x) (Int32.toNatClampNeg 11) 1) (Int32.toNatClampNeg r2) r3) (Int32.toNatClampNeg 4))) (Int32.toNatClampNeg 12) 1) (Int32.toNatClampNeg r8) r9) (Int32.toNatClampNeg r11) ((upd (upd (upd (upd (upd (mN x) (Int32.toNatClampNeg 11) 1) (Int32.toNatClampNeg r2) r3) (Int32.toNatClampNeg r5) ((upd (upd (mN x) (Int32.toNatClampNeg 11) 1) (Int32.toNatClampNeg r2) r3) (Int32.toNatClampNeg 4))) (Int32.toNatClampNeg 12) 1) (Int32.toNatClampNeg r8) r9) (Int32.toNatClampNeg 4))) (Int32.toNatClampNeg 8) 0) (Int32.toNatClampNeg 9) 0, mA x, mP x, mS x, mE x, mH x)) H := hP
        have hD : va_D (va_A (mdlW I a x) sz) (mdlW I a (upd (upd (upd (upd (upd (upd (upd (upd (mN x) (Int32.toNatClampNeg 11) 1) (Int32.toNatClampNeg r2) r3) (Int32.toNatClampNeg r5) ((upd (upd (mN x) (Int32.toNatClampNeg 11) 1) (Int32.toNatClampNeg r2) r3) (Int32.toNatClampNeg 4))) (Int32.toNatClampNeg 12) 1) (Int32.toNatClampNeg r8) r9) (Int32.toNatClampNeg r11) ((upd (upd (upd (upd (upd (mN x) (Int32.toNatClampNeg 11) 1) (Int32.toNatClampNeg r2) r3) (Int32.toNatClampNeg r5) ((upd (upd (mN x) (Int32.toNatClampNeg 11) 1) (Int32.toNatClampNeg r2) r3) (Int32.toNatClampNeg 4))) (Int32.toNatClampNeg 12) 1) (Int32.toNatClampNeg r8) r9) (Int32.toNatClampNeg 4))) (Int32.toNatClampNeg 8) 0) (Int32.toNatClampNeg 9) 0, mA x, mP x, mS x, mE x, mH x)) := hD
        refine lv_aload_n hx hb dX3_fill_70 rfl (lv_at hl 1 rfl) ?_
        refine va_get (ci := 3) (v := .ref a.2.1) (C := RX3) (T := TX3) (N := 6) hx hb hts hiX3 hown hK.1 hP 0 rfl rfl 0 (by decide) f0 (fun _ h9 => h9) rfl dX3_fill_71 ?_
        refine lv_bipush (v := 10) hx hb dX3_fill_74 (by decide) ?_
        refine lv_iconst (v := 0) hx hb dX3_fill_76 (by decide) ?_
        refine va_iast hx hb hK.1 hP hD hS 3 0 rfl rfl (vp_c 10 4416 (by decide)) dX3_fill_77 (fun H locs hP hD hS => ?_)
        have hP : va_P D vwCl (mdlW I a (upd (upd (upd (upd (upd (upd (upd (upd (upd (mN x) (Int32.toNatClampNeg 11) 1) (Int32.toNatClampNeg r2) r3) (Int32.toNatClampNeg r5) ((upd (upd (mN x) (Int32.toNatClampNeg 11) 1) (Int32.toNatClampNeg r2) r3) (Int32.toNatClampNeg 4))) (Int32.toNatClampNeg 12) 1) (Int32.toNatClampNeg r8) r9) (Int32.toNatClampNeg r11) ((upd (upd (upd (upd (upd (mN x) (Int32.toNatClampNeg 11) 1) (Int32.toNatClampNeg r2) r3) (Int32.toNatClampNeg r5) ((upd (upd (mN x) (Int32.toNatClampNeg 11) 1) (Int32.toNatClampNeg r2) r3) (Int32.toNatClampNeg 4))) (Int32.toNatClampNeg 12) 1) (Int32.toNatClampNeg r8) r9) (Int32.toNatClampNeg 4))) (Int32.toNatClampNeg 8) 0) (Int32.toNatClampNeg 9) 0) (Int32.toNatClampNeg 10) 0, mA x, mP x, mS x, mE x, mH x)) H := hP
        have hD : va_D (va_A (mdlW I a x) sz) (mdlW I a (upd (upd (upd (upd (upd (upd (upd (upd (upd (mN x) (Int32.toNatClampNeg 11) 1) (Int32.toNatClampNeg r2) r3) (Int32.toNatClampNeg r5) ((upd (upd (mN x) (Int32.toNatClampNeg 11) 1) (Int32.toNatClampNeg r2) r3) (Int32.toNatClampNeg 4))) (Int32.toNatClampNeg 12) 1) (Int32.toNatClampNeg r8) r9) (Int32.toNatClampNeg r11) ((upd (upd (upd (upd (upd (mN x) (Int32.toNatClampNeg 11) 1) (Int32.toNatClampNeg r2) r3) (Int32.toNatClampNeg r5) ((upd (upd (mN x) (Int32.toNatClampNeg 11) 1) (Int32.toNatClampNeg r2) r3) (Int32.toNatClampNeg 4))) (Int32.toNatClampNeg 12) 1) (Int32.toNatClampNeg r8) r9) (Int32.toNatClampNeg 4))) (Int32.toNatClampNeg 8) 0) (Int32.toNatClampNeg 9) 0) (Int32.toNatClampNeg 10) 0, mA x, mP x, mS x, mE x, mH x)) := hD
        exact m_vret (u := (upd (upd (upd (upd (upd (upd (upd (upd (upd (mN x) (Int32.toNatClampNeg 11) 1) (Int32.toNatClampNeg r2) r3) (Int32.toNatClampNeg r5) ((upd (upd (mN x) (Int32.toNatClampNeg 11) 1) (Int32.toNatClampNeg r2) r3) (Int32.toNatClampNeg 4))) (Int32.toNatClampNeg 12) 1) (Int32.toNatClampNeg r8) r9) (Int32.toNatClampNeg r11) ((upd (upd (upd (upd (upd (mN x) (Int32.toNatClampNeg 11) 1) (Int32.toNatClampNeg r2) r3) (Int32.toNatClampNeg r5) ((upd (upd (mN x) (Int32.toNatClampNeg 11) 1) (Int32.toNatClampNeg r2) r3) (Int32.toNatClampNeg 4))) (Int32.toNatClampNeg 12) 1) (Int32.toNatClampNeg r8) r9) (Int32.toNatClampNeg 4))) (Int32.toNatClampNeg 8) 0) (Int32.toNatClampNeg 9) 0) (Int32.toNatClampNeg 10) 0, mA x, mP x, mS x, mE x, mH x)) hx hb hr hlocks hS hP hD dX3_fill_78 hw
      · exact absurd (show (2 : Int32) ≤ (2 : Int32) from by decide) c13
def qX3_putOnTop_L37  (K8 : Int32 → Mod → Prop) : Nat → Int32 → Mod → Prop
  | 0, _, _ => False
  | n10 + 1, i6, w7 => ((i6 ≤ 0 → K8 i6 w7) ∧ (¬ i6 ≤ 0 → (qX3_volumeAt 0 i6 (fun r13 => (qX3_volumeAt 0 (i6 - 1) (fun r14 => (vp_in r14 4416 ∧ (vp_in r13 4416 ∧ (qX3_densityAt 0 i6 (fun r17 => (qX3_densityAt 0 (i6 - 1) (fun r18 => (vp_in r18 4416 ∧ (vp_in r17 4416 ∧ qX3_putOnTop_L37 K8 n10 (i6 + (-1)) (upd (upd (mN w7) (Int32.toNatClampNeg r13) ((mN w7) (Int32.toNatClampNeg r14))) (Int32.toNatClampNeg r17) ((upd (mN w7) (Int32.toNatClampNeg r13) ((mN w7) (Int32.toNatClampNeg r14))) (Int32.toNatClampNeg r18)), mA w7, mP w7, mS w7, mE w7, mH w7)))))))))))))))
def qX3_putOnTop (x : Mod) (p1 : Int32) (p2 : Int32) (Q : Mod → Prop) : Prop := (qX3_densityAt 0 0 (fun r1 => (vp_in r1 4416 ∧ ((¬ ((mN x) (Int32.toNatClampNeg r1)) = p2 → (∀ v4 : Int32, v4 = (mN x) (Int32.toNatClampNeg 11) → (∃ n5, qX3_putOnTop_L37 (fun i6 w7 => (qX3_volumeAt 0 0 (fun r21 => (vp_in r21 4416 ∧ (qX3_densityAt 0 0 (fun r23 => (vp_in r23 4416 ∧ Q (upd (upd (upd (mN w7) (Int32.toNatClampNeg r21) p1) (Int32.toNatClampNeg r23) p2) (Int32.toNatClampNeg 11) (((upd (upd (mN w7) (Int32.toNatClampNeg r21) p1) (Int32.toNatClampNeg r23) p2) (Int32.toNatClampNeg 11)) + 1), mA w7, mP w7, mS w7, mE w7, mH w7)))))))) n5 v4 x))) ∧ (((mN x) (Int32.toNatClampNeg r1)) = p2 → (qX3_volumeAt 0 0 (fun r25 => (vp_in r25 4416 ∧ (vp_in r25 4416 ∧ Q (upd (mN x) (Int32.toNatClampNeg r25) (((mN x) (Int32.toNatClampNeg r25)) + p1), mA x, mP x, mS x, mE x, mH x))))))))))
set_option maxHeartbeats 4000000 in
set_option maxRecDepth 100000 in
theorem kX3_putOnTop (l : Launch) (D : va_G) (I O : ClassId) (a : MA) (sz : Nat) (x : Mod) (p1 : Int32) (p2 : Int32) (Q : Mod → Prop) (hw : qX3_putOnTop x p1 p2 Q) : Met l yX3_putOnTop wsX3_putOnTop rX3_putOnTop (mPc D I O [.ref a.1, .int p1, .int p2] (mdlW I a x) sz) (va_Qv (fun (u : Mod) => Q u) (mB D (va_A (mdlW I a x) sz) (fun u => mdlW I a u)) (va_A (mdlW I a x) sz)) 0 0 (va_A (mdlW I a x) sz) := by
  refine m_start (by decide) rfl (Nat.le_of_ble_eq_true rfl) (fun p e s m below meth c ls H locs hx hb hr hml hts hown hlocks hnm hK hP hD hA hS hl => ?_)
  have hown : s.vm.findClass RX3 = some m.cls := hown
  have hl : lv_has ls 4 [(0, .ref a.1), (1, .int p1), (2, .int p2)] := hl
  have hiX3 : ∀ w ∈ wsX30, w ∈ wsX3_putOnTop := by decide +kernel
  have f0 := hts (.fieldLink RX3 7 "WellControlModel" "now" "[I") (by decide +kernel)
  unfold qX3_putOnTop at hw
  refine lv_aload_n hx hb dX3_putOnTop_0 rfl (lv_at hl 0 rfl) ?_
  refine va_get (ci := 3) (v := .ref a.2.1) (C := RX3) (T := TX3) (N := 6) hx hb hts hiX3 hown hK.1 hP 0 rfl rfl 0 (by decide) f0 (fun _ h9 => h9) rfl dX3_putOnTop_1 ?_
  refine lv_iconst (v := 0) hx hb dX3_putOnTop_4 (by decide) ?_
  refine lv_iconst (v := 0) hx hb dX3_putOnTop_5 (by decide) ?_
  refine m0_i (mv_S (As := [.int 0, .int 0]) (rest := [.ref a.2.1]) ⟨hx, hb, hml, hown, hts⟩ (kX3_densityAt l D I O H.size 0 0 _ hw) (va_cwS 2 hts gX3_putOnTop_X3_densityAt rfl rfl rfl hdSX3_densityAt ⟨(Nat.le_of_ble_eq_true rfl), (Nat.le_of_ble_eq_true rfl)⟩) hK (nil_P (D := D) (H := H)) (nil_D (A := va_A (mdlW I a x) sz)) rfl hl.1 rfl (Nat.le_of_ble_eq_true rfl) dX3_putOnTop_6 ⟨(Nat.le_of_ble_eq_true rfl), (Nat.le_of_ble_eq_true rfl)⟩) hP hD hS hA (fun r1 _ H locs hw hP hD hS => ?_)
  obtain ⟨h2, hw⟩ := hw
  refine va_iald hx hb hK.1 hP 3 0 rfl rfl h2 dX3_putOnTop_9 ?_
  refine lv_iload_n hx hb dX3_putOnTop_10 rfl (lv_at hl 2 rfl) ?_
  refine lv_icmp_ne (tgt := 29) hx hb dX3_putOnTop_11 (by decide) (fun c3 => ?_) (fun c3 => ?_)
  · have hw := hw.1 c3
    refine lv_aload_n hx hb dX3_putOnTop_29 rfl (lv_at hl 0 rfl) ?_
    refine va_get (ci := 3) (v := .ref a.2.1) (C := RX3) (T := TX3) (N := 6) hx hb hts hiX3 hown hK.1 hP 0 rfl rfl 0 (by decide) f0 (fun _ h9 => h9) rfl dX3_putOnTop_30 ?_
    refine lv_bipush (v := 11) hx hb dX3_putOnTop_33 (by decide) ?_
    refine va_iald hx hb hK.1 hP 3 0 rfl rfl (vp_c 11 4416 (by decide)) dX3_putOnTop_35 ?_
    refine lv_topi (fun v4 ev4 => ?_)
    have hw := hw v4 ev4
    refine lv_istore_n (lv' := [(3, .int v4), (0, .ref a.1), (1, .int p1), (2, .int p2)]) hx hb dX3_putOnTop_36 rfl hl (by decide) rfl (fun ls hl => ?_)
    obtain ⟨n5, hw⟩ := hw
    have ky11 : ∀ (K8 : Int32 → Mod → Prop) (_ : ∀ (i6 : Int32) (w7 : Mod) (H : Heap) (locs : List Loc) (ls : Array Slot), va_P D vwCl (mdlW I a w7) H → va_D (va_A (mdlW I a x) sz) (mdlW I a w7) → va_S (va_A (mdlW I a x) sz) s.heap H locs → lv_has ls 4 [(3, .int i6), (0, .ref a.1), (1, .int p1), (2, .int p2)] → K8 i6 w7 → W p l e rX3_putOnTop s m ([.ref a.1, .int p1, .int p2] : List Value).toArray below meth c H locs 0 0 (MQ below (va_Qv (fun (u : Mod) => Q u) (mB D (va_A (mdlW I a x) sz) (fun u => mdlW I a u)) (va_A (mdlW I a x) sz)) ([.ref a.1, .int p1, .int p2] : List Value).toArray s 0 0 (va_A (mdlW I a x) sz)) (F0 m 91 ls [])) (n10 : Nat) (i6 : Int32) (w7 : Mod) (H : Heap) (locs : List Loc) (ls : Array Slot), va_P D vwCl (mdlW I a w7) H → va_D (va_A (mdlW I a x) sz) (mdlW I a w7) → va_S (va_A (mdlW I a x) sz) s.heap H locs → lv_has ls 4 [(3, .int i6), (0, .ref a.1), (1, .int p1), (2, .int p2)] → qX3_putOnTop_L37 K8 n10 i6 w7 → W p l e rX3_putOnTop s m ([.ref a.1, .int p1, .int p2] : List Value).toArray below meth c H locs 0 0 (MQ below (va_Qv (fun (u : Mod) => Q u) (mB D (va_A (mdlW I a x) sz) (fun u => mdlW I a u)) (va_A (mdlW I a x) sz)) ([.ref a.1, .int p1, .int p2] : List Value).toArray s 0 0 (va_A (mdlW I a x) sz)) (F0 m 37 ls []) := by
      intro K8 hx9 n10
      induction n10 with
      | zero =>
        intro i6 w7 H locs ls hP hD hS hl hw
        exact hw.elim
      | succ n10 ihn10 =>
        intro i6 w7 H locs ls hP hD hS hl hw
        unfold qX3_putOnTop_L37 at hw
        refine lv_iload_n hx hb dX3_putOnTop_37 rfl (lv_at hl 0 rfl) ?_
        refine lv_if_le (tgt := 91) hx hb dX3_putOnTop_38 (by decide) (fun c12 => ?_) (fun c12 => ?_)
        · have hw := hw.1 c12
          exact hx9 i6 w7 H locs ls hP hD hS (lv_sub hl [0, 1, 2, 3] rfl) hw
        · have hw := hw.2 c12
          refine lv_aload_n hx hb dX3_putOnTop_41 rfl (lv_at hl 1 rfl) ?_
          refine va_get (ci := 3) (v := .ref a.2.1) (C := RX3) (T := TX3) (N := 6) hx hb hts hiX3 hown hK.1 hP 0 rfl rfl 0 (by decide) f0 (fun _ h9 => h9) rfl dX3_putOnTop_42 ?_
          refine lv_iconst (v := 0) hx hb dX3_putOnTop_45 (by decide) ?_
          refine lv_iload_n hx hb dX3_putOnTop_46 rfl (lv_at hl 0 rfl) ?_
          refine m0_i (mv_S (As := [.int 0, .int i6]) (rest := [.ref a.2.1]) ⟨hx, hb, hml, hown, hts⟩ (kX3_volumeAt l D I O H.size 0 i6 _ hw) (va_cwS 2 hts gX3_putOnTop_X3_volumeAt rfl rfl rfl hdSX3_volumeAt ⟨(Nat.le_of_ble_eq_true rfl), (Nat.le_of_ble_eq_true rfl)⟩) hK (nil_P (D := D) (H := H)) (nil_D (A := va_A (mdlW I a x) sz)) rfl hl.1 rfl (Nat.le_of_ble_eq_true rfl) dX3_putOnTop_47 ⟨(Nat.le_of_ble_eq_true rfl), (Nat.le_of_ble_eq_true rfl)⟩) hP hD hS hA (fun r13 _ H locs hw hP hD hS => ?_)
          refine lv_aload_n hx hb dX3_putOnTop_50 rfl (lv_at hl 1 rfl) ?_
          refine va_get (ci := 3) (v := .ref a.2.1) (C := RX3) (T := TX3) (N := 6) hx hb hts hiX3 hown hK.1 hP 0 rfl rfl 0 (by decide) f0 (fun _ h9 => h9) rfl dX3_putOnTop_51 ?_
          refine lv_iconst (v := 0) hx hb dX3_putOnTop_54 (by decide) ?_
          refine lv_iload_n hx hb dX3_putOnTop_55 rfl (lv_at hl 0 rfl) ?_
          refine lv_iconst (v := 1) hx hb dX3_putOnTop_56 (by decide) ?_
          refine lv_isub hx hb dX3_putOnTop_57 ?_
          refine m0_i (mv_S (As := [.int 0, .int (i6 - 1)]) (rest := [.ref a.2.1, .int r13, .ref a.2.1]) ⟨hx, hb, hml, hown, hts⟩ (kX3_volumeAt l D I O H.size 0 (i6 - 1) _ hw) (va_cwS 2 hts gX3_putOnTop_X3_volumeAt rfl rfl rfl hdSX3_volumeAt ⟨(Nat.le_of_ble_eq_true rfl), (Nat.le_of_ble_eq_true rfl)⟩) hK (nil_P (D := D) (H := H)) (nil_D (A := va_A (mdlW I a x) sz)) rfl hl.1 rfl (Nat.le_of_ble_eq_true rfl) dX3_putOnTop_58 ⟨(Nat.le_of_ble_eq_true rfl), (Nat.le_of_ble_eq_true rfl)⟩) hP hD hS hA (fun r14 _ H locs hw hP hD hS => ?_)
          obtain ⟨h15, hw⟩ := hw
          refine va_iald hx hb hK.1 hP 3 0 rfl rfl h15 dX3_putOnTop_61 ?_
          obtain ⟨h16, hw⟩ := hw
          refine va_iast hx hb hK.1 hP hD hS 3 0 rfl rfl h16 dX3_putOnTop_62 (fun H locs hP hD hS => ?_)
          have hP : va_P D vwCl (mdlW I a (upd (mN w7) (Int32.toNatClampNeg r13) ((mN w7) (Int32.toNatClampNeg r14)), mA w7, mP w7, mS w7, mE w7, mH w7)) H := hP
          have hD : va_D (va_A (mdlW I a x) sz) (mdlW I a (upd (mN w7) (Int32.toNatClampNeg r13) ((mN w7) (Int32.toNatClampNeg r14)), mA w7, mP w7, mS w7, mE w7, mH w7)) := hD
          refine lv_aload_n hx hb dX3_putOnTop_63 rfl (lv_at hl 1 rfl) ?_
          refine va_get (ci := 3) (v := .ref a.2.1) (C := RX3) (T := TX3) (N := 6) hx hb hts hiX3 hown hK.1 hP 0 rfl rfl 0 (by decide) f0 (fun _ h9 => h9) rfl dX3_putOnTop_64 ?_
          refine lv_iconst (v := 0) hx hb dX3_putOnTop_67 (by decide) ?_
          refine lv_iload_n hx hb dX3_putOnTop_68 rfl (lv_at hl 0 rfl) ?_
          refine m0_i (mv_S (As := [.int 0, .int i6]) (rest := [.ref a.2.1]) ⟨hx, hb, hml, hown, hts⟩ (kX3_densityAt l D I O H.size 0 i6 _ hw) (va_cwS 2 hts gX3_putOnTop_X3_densityAt rfl rfl rfl hdSX3_densityAt ⟨(Nat.le_of_ble_eq_true rfl), (Nat.le_of_ble_eq_true rfl)⟩) hK (nil_P (D := D) (H := H)) (nil_D (A := va_A (mdlW I a x) sz)) rfl hl.1 rfl (Nat.le_of_ble_eq_true rfl) dX3_putOnTop_69 ⟨(Nat.le_of_ble_eq_true rfl), (Nat.le_of_ble_eq_true rfl)⟩) hP hD hS hA (fun r17 _ H locs hw hP hD hS => ?_)
          refine lv_aload_n hx hb dX3_putOnTop_72 rfl (lv_at hl 1 rfl) ?_
          refine va_get (ci := 3) (v := .ref a.2.1) (C := RX3) (T := TX3) (N := 6) hx hb hts hiX3 hown hK.1 hP 0 rfl rfl 0 (by decide) f0 (fun _ h9 => h9) rfl dX3_putOnTop_73 ?_
          refine lv_iconst (v := 0) hx hb dX3_putOnTop_76 (by decide) ?_
          refine lv_iload_n hx hb dX3_putOnTop_77 rfl (lv_at hl 0 rfl) ?_
          refine lv_iconst (v := 1) hx hb dX3_putOnTop_78 (by decide) ?_
          refine lv_isub hx hb dX3_putOnTop_79 ?_
          refine m0_i (mv_S (As := [.int 0, .int (i6 - 1)]) (rest := [.ref a.2.1, .int r17, .ref a.2.1]) ⟨hx, hb, hml, hown, hts⟩ (kX3_densityAt l D I O H.size 0 (i6 - 1) _ hw) (va_cwS 2 hts gX3_putOnTop_X3_densityAt rfl rfl rfl hdSX3_densityAt ⟨(Nat.le_of_ble_eq_true rfl), (Nat.le_of_ble_eq_true rfl)⟩) hK (nil_P (D := D) (H := H)) (nil_D (A := va_A (mdlW I a x) sz)) rfl hl.1 rfl (Nat.le_of_ble_eq_true rfl) dX3_putOnTop_80 ⟨(Nat.le_of_ble_eq_true rfl), (Nat.le_of_ble_eq_true rfl)⟩) hP hD hS hA (fun r18 _ H locs hw hP hD hS => ?_)
          obtain ⟨h19, hw⟩ := hw
          refine va_iald hx hb hK.1 hP 3 0 rfl rfl h19 dX3_putOnTop_83 ?_
          obtain ⟨h20, hw⟩ := hw
          refine va_iast hx hb hK.1 hP hD hS 3 0 rfl rfl h20 dX3_putOnTop_84 (fun H locs hP hD hS => ?_)
          have hP : va_P D vwCl (mdlW I a (upd (upd (mN w7) (Int32.toNatClampNeg r13) ((mN w7) (Int32.toNatClampNeg r14))) (Int32.toNatClampNeg r17) ((upd (mN w7) (Int32.toNatClampNeg r13) ((mN w7) (Int32.toNatClampNeg r14))) (Int32.toNatClampNeg r18)), mA w7, mP w7, mS w7, mE w7, mH w7)) H := hP
          have hD : va_D (va_A (mdlW I a x) sz) (mdlW I a (upd (upd (mN w7) (Int32.toNatClampNeg r13) ((mN w7) (Int32.toNatClampNeg r14))) (Int32.toNatClampNeg r17) ((upd (mN w7) (Int32.toNatClampNeg r13) ((mN w7) (Int32.toNatClampNeg r14))) (Int32.toNatClampNeg r18)), mA w7, mP w7, mS w7, mE w7, mH w7)) := hD
          refine lv_iinc (v := i6 + (-1)) (lv' := [(3, .int (i6 + (-1))), (0, .ref a.1), (1, .int p1), (2, .int p2)]) hx hb dX3_putOnTop_85 hl (k := 0) rfl (congrArg (fun z => i6 + z) (show Int32.ofInt (-1) = (-1) from by decide)) (by decide) rfl (fun ls hl => ?_)
          refine lv_goto (tgt := 37) hx hb dX3_putOnTop_88 (by decide) ?_
          exact ihn10 (i6 + (-1)) (upd (upd (mN w7) (Int32.toNatClampNeg r13) ((mN w7) (Int32.toNatClampNeg r14))) (Int32.toNatClampNeg r17) ((upd (mN w7) (Int32.toNatClampNeg r13) ((mN w7) (Int32.toNatClampNeg r14))) (Int32.toNatClampNeg r18)), mA w7, mP w7, mS w7, mE w7, mH w7) H locs ls hP hD hS (lv_sub hl [0, 1, 2, 3] rfl) hw
    refine ky11 _ (fun i6 w7 H locs ls hP hD hS hl hw => ?_) n5 v4 x H locs ls hP hD hS (lv_sub hl [0, 1, 2, 3] rfl) hw
    refine lv_aload_n hx hb dX3_putOnTop_91 rfl (lv_at hl 1 rfl) ?_
    refine va_get (ci := 3) (v := .ref a.2.1) (C := RX3) (T := TX3) (N := 6) hx hb hts hiX3 hown hK.1 hP 0 rfl rfl 0 (by decide) f0 (fun _ h9 => h9) rfl dX3_putOnTop_92 ?_
    refine lv_iconst (v := 0) hx hb dX3_putOnTop_95 (by decide) ?_
    refine lv_iconst (v := 0) hx hb dX3_putOnTop_96 (by decide) ?_
    refine m0_i (mv_S (As := [.int 0, .int 0]) (rest := [.ref a.2.1]) ⟨hx, hb, hml, hown, hts⟩ (kX3_volumeAt l D I O H.size 0 0 _ hw) (va_cwS 2 hts gX3_putOnTop_X3_volumeAt rfl rfl rfl hdSX3_volumeAt ⟨(Nat.le_of_ble_eq_true rfl), (Nat.le_of_ble_eq_true rfl)⟩) hK (nil_P (D := D) (H := H)) (nil_D (A := va_A (mdlW I a x) sz)) rfl hl.1 rfl (Nat.le_of_ble_eq_true rfl) dX3_putOnTop_97 ⟨(Nat.le_of_ble_eq_true rfl), (Nat.le_of_ble_eq_true rfl)⟩) hP hD hS hA (fun r21 _ H locs hw hP hD hS => ?_)
    refine lv_iload_n hx hb dX3_putOnTop_100 rfl (lv_at hl 2 rfl) ?_
    obtain ⟨h22, hw⟩ := hw
    refine va_iast hx hb hK.1 hP hD hS 3 0 rfl rfl h22 dX3_putOnTop_101 (fun H locs hP hD hS => ?_)
    have hP : va_P D vwCl (mdlW I a (upd (mN w7) (Int32.toNatClampNeg r21) p1, mA w7, mP w7, mS w7, mE w7, mH w7)) H := hP
    have hD : va_D (va_A (mdlW I a x) sz) (mdlW I a (upd (mN w7) (Int32.toNatClampNeg r21) p1, mA w7, mP w7, mS w7, mE w7, mH w7)) := hD
    refine lv_aload_n hx hb dX3_putOnTop_102 rfl (lv_at hl 1 rfl) ?_
    refine va_get (ci := 3) (v := .ref a.2.1) (C := RX3) (T := TX3) (N := 6) hx hb hts hiX3 hown hK.1 hP 0 rfl rfl 0 (by decide) f0 (fun _ h9 => h9) rfl dX3_putOnTop_103 ?_
    refine lv_iconst (v := 0) hx hb dX3_putOnTop_106 (by decide) ?_
    refine lv_iconst (v := 0) hx hb dX3_putOnTop_107 (by decide) ?_
    refine m0_i (mv_S (As := [.int 0, .int 0]) (rest := [.ref a.2.1]) ⟨hx, hb, hml, hown, hts⟩ (kX3_densityAt l D I O H.size 0 0 _ hw) (va_cwS 2 hts gX3_putOnTop_X3_densityAt rfl rfl rfl hdSX3_densityAt ⟨(Nat.le_of_ble_eq_true rfl), (Nat.le_of_ble_eq_true rfl)⟩) hK (nil_P (D := D) (H := H)) (nil_D (A := va_A (mdlW I a x) sz)) rfl hl.1 rfl (Nat.le_of_ble_eq_true rfl) dX3_putOnTop_108 ⟨(Nat.le_of_ble_eq_true rfl), (Nat.le_of_ble_eq_true rfl)⟩) hP hD hS hA (fun r23 _ H locs hw hP hD hS => ?_)
    refine lv_iload_n hx hb dX3_putOnTop_111 rfl (lv_at hl 3 rfl) ?_
    obtain ⟨h24, hw⟩ := hw
    refine va_iast hx hb hK.1 hP hD hS 3 0 rfl rfl h24 dX3_putOnTop_112 (fun H locs hP hD hS => ?_)
    have hP : va_P D vwCl (mdlW I a (upd (upd (mN w7) (Int32.toNatClampNeg r21) p1) (Int32.toNatClampNeg r23) p2, mA w7, mP w7, mS w7, mE w7, mH w7)) H := hP
    have hD : va_D (va_A (mdlW I a x) sz) (mdlW I a (upd (upd (mN w7) (Int32.toNatClampNeg r21) p1) (Int32.toNatClampNeg r23) p2, mA w7, mP w7, mS w7, mE w7, mH w7)) := hD
    refine lv_aload_n hx hb dX3_putOnTop_113 rfl (lv_at hl 1 rfl) ?_
    refine va_get (ci := 3) (v := .ref a.2.1) (C := RX3) (T := TX3) (N := 6) hx hb hts hiX3 hown hK.1 hP 0 rfl rfl 0 (by decide) f0 (fun _ h9 => h9) rfl dX3_putOnTop_114 ?_
    refine lv_bipush (v := 11) hx hb dX3_putOnTop_117 (by decide) ?_
    refine lv_dup2_11 hx hb dX3_putOnTop_119 rfl rfl ?_
    refine va_iald hx hb hK.1 hP 3 0 rfl rfl (vp_c 11 4416 (by decide)) dX3_putOnTop_120 ?_
    refine lv_iconst (v := 1) hx hb dX3_putOnTop_121 (by decide) ?_
    refine lv_iadd hx hb dX3_putOnTop_122 ?_
    refine va_iast hx hb hK.1 hP hD hS 3 0 rfl rfl (vp_c 11 4416 (by decide)) dX3_putOnTop_123 (fun H locs hP hD hS => ?_)
    have hP : va_P D vwCl (mdlW I a (upd (upd (upd (mN w7) (Int32.toNatClampNeg r21) p1) (Int32.toNatClampNeg r23) p2) (Int32.toNatClampNeg 11) (((upd (upd (mN w7) (Int32.toNatClampNeg r21) p1) (Int32.toNatClampNeg r23) p2) (Int32.toNatClampNeg 11)) + 1), mA w7, mP w7, mS w7, mE w7, mH w7)) H := hP
    have hD : va_D (va_A (mdlW I a x) sz) (mdlW I a (upd (upd (upd (mN w7) (Int32.toNatClampNeg r21) p1) (Int32.toNatClampNeg r23) p2) (Int32.toNatClampNeg 11) (((upd (upd (mN w7) (Int32.toNatClampNeg r21) p1) (Int32.toNatClampNeg r23) p2) (Int32.toNatClampNeg 11)) + 1), mA w7, mP w7, mS w7, mE w7, mH w7)) := hD
    exact m_vret (u := (upd (upd (upd (mN w7) (Int32.toNatClampNeg r21) p1) (Int32.toNatClampNeg r23) p2) (Int32.toNatClampNeg 11) (((upd (upd (mN w7) (Int32.toNatClampNeg r21) p1) (Int32.toNatClampNeg r23) p2) (Int32.toNatClampNeg 11)) + 1), mA w7, mP w7, mS w7, mE w7, mH w7)) hx hb hr hlocks hS hP hD dX3_putOnTop_124 hw
  · have hw := hw.2 c3
    refine lv_aload_n hx hb dX3_putOnTop_14 rfl (lv_at hl 0 rfl) ?_
    refine va_get (ci := 3) (v := .ref a.2.1) (C := RX3) (T := TX3) (N := 6) hx hb hts hiX3 hown hK.1 hP 0 rfl rfl 0 (by decide) f0 (fun _ h9 => h9) rfl dX3_putOnTop_15 ?_
    refine lv_iconst (v := 0) hx hb dX3_putOnTop_18 (by decide) ?_
    refine lv_iconst (v := 0) hx hb dX3_putOnTop_19 (by decide) ?_
    refine m0_i (mv_S (As := [.int 0, .int 0]) (rest := [.ref a.2.1]) ⟨hx, hb, hml, hown, hts⟩ (kX3_volumeAt l D I O H.size 0 0 _ hw) (va_cwS 2 hts gX3_putOnTop_X3_volumeAt rfl rfl rfl hdSX3_volumeAt ⟨(Nat.le_of_ble_eq_true rfl), (Nat.le_of_ble_eq_true rfl)⟩) hK (nil_P (D := D) (H := H)) (nil_D (A := va_A (mdlW I a x) sz)) rfl hl.1 rfl (Nat.le_of_ble_eq_true rfl) dX3_putOnTop_20 ⟨(Nat.le_of_ble_eq_true rfl), (Nat.le_of_ble_eq_true rfl)⟩) hP hD hS hA (fun r25 _ H locs hw hP hD hS => ?_)
    refine lv_dup2_11 hx hb dX3_putOnTop_23 rfl rfl ?_
    obtain ⟨h26, hw⟩ := hw
    refine va_iald hx hb hK.1 hP 3 0 rfl rfl h26 dX3_putOnTop_24 ?_
    refine lv_iload_n hx hb dX3_putOnTop_25 rfl (lv_at hl 1 rfl) ?_
    refine lv_iadd hx hb dX3_putOnTop_26 ?_
    obtain ⟨h27, hw⟩ := hw
    refine va_iast hx hb hK.1 hP hD hS 3 0 rfl rfl h27 dX3_putOnTop_27 (fun H locs hP hD hS => ?_)
    have hP : va_P D vwCl (mdlW I a (upd (mN x) (Int32.toNatClampNeg r25) (((mN x) (Int32.toNatClampNeg r25)) + p1), mA x, mP x, mS x, mE x, mH x)) H := hP
    have hD : va_D (va_A (mdlW I a x) sz) (mdlW I a (upd (mN x) (Int32.toNatClampNeg r25) (((mN x) (Int32.toNatClampNeg r25)) + p1), mA x, mP x, mS x, mE x, mH x)) := hD
    exact m_vret (u := (upd (mN x) (Int32.toNatClampNeg r25) (((mN x) (Int32.toNatClampNeg r25)) + p1), mA x, mP x, mS x, mE x, mH x)) hx hb hr hlocks hS hP hD dX3_putOnTop_28 hw
def qX3_enter (x : Mod) (p1 : Int32) (p2 : Int32) (Q : Mod → Prop) : Prop := (∀ v1 : Int32, v1 = ((mN x) (Int32.toNatClampNeg 12)) - 1 → (qX3_densityAt 1 v1 (fun r2 => (vp_in r2 4416 ∧ ((¬ ((mN x) (Int32.toNatClampNeg r2)) = p2 → (qX3_volumeAt 1 (v1 + 1) (fun r5 => (vp_in r5 4416 ∧ (qX3_densityAt 1 (v1 + 1) (fun r7 => (vp_in r7 4416 ∧ Q (upd (upd (upd (mN x) (Int32.toNatClampNeg r5) p1) (Int32.toNatClampNeg r7) p2) (Int32.toNatClampNeg 12) (((upd (upd (mN x) (Int32.toNatClampNeg r5) p1) (Int32.toNatClampNeg r7) p2) (Int32.toNatClampNeg 12)) + 1), mA x, mP x, mS x, mE x, mH x)))))))) ∧ (((mN x) (Int32.toNatClampNeg r2)) = p2 → (qX3_volumeAt 1 v1 (fun r9 => (vp_in r9 4416 ∧ (vp_in r9 4416 ∧ Q (upd (mN x) (Int32.toNatClampNeg r9) (((mN x) (Int32.toNatClampNeg r9)) + p1), mA x, mP x, mS x, mE x, mH x)))))))))))
set_option maxHeartbeats 4000000 in
set_option maxRecDepth 100000 in
theorem kX3_enter (l : Launch) (D : va_G) (I O : ClassId) (a : MA) (sz : Nat) (x : Mod) (p1 : Int32) (p2 : Int32) (Q : Mod → Prop) (hw : qX3_enter x p1 p2 Q) : Met l yX3_enter wsX3_enter rX3_enter (mPc D I O [.ref a.1, .int p1, .int p2] (mdlW I a x) sz) (va_Qv (fun (u : Mod) => Q u) (mB D (va_A (mdlW I a x) sz) (fun u => mdlW I a u)) (va_A (mdlW I a x) sz)) 0 0 (va_A (mdlW I a x) sz) := by
  refine m_start (by decide) rfl (Nat.le_of_ble_eq_true rfl) (fun p e s m below meth c ls H locs hx hb hr hml hts hown hlocks hnm hK hP hD hA hS hl => ?_)
  have hown : s.vm.findClass RX3 = some m.cls := hown
  have hl : lv_has ls 4 [(0, .ref a.1), (1, .int p1), (2, .int p2)] := hl
  have hiX3 : ∀ w ∈ wsX30, w ∈ wsX3_enter := by decide +kernel
  have f0 := hts (.fieldLink RX3 7 "WellControlModel" "now" "[I") (by decide +kernel)
  unfold qX3_enter at hw
  refine lv_aload_n hx hb dX3_enter_0 rfl (lv_at hl 0 rfl) ?_
  refine va_get (ci := 3) (v := .ref a.2.1) (C := RX3) (T := TX3) (N := 6) hx hb hts hiX3 hown hK.1 hP 0 rfl rfl 0 (by decide) f0 (fun _ h9 => h9) rfl dX3_enter_1 ?_
  refine lv_bipush (v := 12) hx hb dX3_enter_4 (by decide) ?_
  refine va_iald hx hb hK.1 hP 3 0 rfl rfl (vp_c 12 4416 (by decide)) dX3_enter_6 ?_
  refine lv_iconst (v := 1) hx hb dX3_enter_7 (by decide) ?_
  refine lv_isub hx hb dX3_enter_8 ?_
  refine lv_topi (fun v1 ev1 => ?_)
  have hw := hw v1 ev1
  refine lv_istore_n (lv' := [(3, .int v1), (0, .ref a.1), (1, .int p1), (2, .int p2)]) hx hb dX3_enter_9 rfl hl (by decide) rfl (fun ls hl => ?_)
  refine lv_aload_n hx hb dX3_enter_10 rfl (lv_at hl 1 rfl) ?_
  refine va_get (ci := 3) (v := .ref a.2.1) (C := RX3) (T := TX3) (N := 6) hx hb hts hiX3 hown hK.1 hP 0 rfl rfl 0 (by decide) f0 (fun _ h9 => h9) rfl dX3_enter_11 ?_
  refine lv_iconst (v := 1) hx hb dX3_enter_14 (by decide) ?_
  refine lv_iload_n hx hb dX3_enter_15 rfl (lv_at hl 0 rfl) ?_
  refine m0_i (mv_S (As := [.int 1, .int v1]) (rest := [.ref a.2.1]) ⟨hx, hb, hml, hown, hts⟩ (kX3_densityAt l D I O H.size 1 v1 _ hw) (va_cwS 2 hts gX3_enter_X3_densityAt rfl rfl rfl hdSX3_densityAt ⟨(Nat.le_of_ble_eq_true rfl), (Nat.le_of_ble_eq_true rfl)⟩) hK (nil_P (D := D) (H := H)) (nil_D (A := va_A (mdlW I a x) sz)) rfl hl.1 rfl (Nat.le_of_ble_eq_true rfl) dX3_enter_16 ⟨(Nat.le_of_ble_eq_true rfl), (Nat.le_of_ble_eq_true rfl)⟩) hP hD hS hA (fun r2 _ H locs hw hP hD hS => ?_)
  obtain ⟨h3, hw⟩ := hw
  refine va_iald hx hb hK.1 hP 3 0 rfl rfl h3 dX3_enter_19 ?_
  refine lv_iload_n hx hb dX3_enter_20 rfl (lv_at hl 3 rfl) ?_
  refine lv_icmp_ne (tgt := 39) hx hb dX3_enter_21 (by decide) (fun c4 => ?_) (fun c4 => ?_)
  · have hw := hw.1 c4
    refine lv_aload_n hx hb dX3_enter_39 rfl (lv_at hl 1 rfl) ?_
    refine va_get (ci := 3) (v := .ref a.2.1) (C := RX3) (T := TX3) (N := 6) hx hb hts hiX3 hown hK.1 hP 0 rfl rfl 0 (by decide) f0 (fun _ h9 => h9) rfl dX3_enter_40 ?_
    refine lv_iconst (v := 1) hx hb dX3_enter_43 (by decide) ?_
    refine lv_iload_n hx hb dX3_enter_44 rfl (lv_at hl 0 rfl) ?_
    refine lv_iconst (v := 1) hx hb dX3_enter_45 (by decide) ?_
    refine lv_iadd hx hb dX3_enter_46 ?_
    refine m0_i (mv_S (As := [.int 1, .int (v1 + 1)]) (rest := [.ref a.2.1]) ⟨hx, hb, hml, hown, hts⟩ (kX3_volumeAt l D I O H.size 1 (v1 + 1) _ hw) (va_cwS 2 hts gX3_enter_X3_volumeAt rfl rfl rfl hdSX3_volumeAt ⟨(Nat.le_of_ble_eq_true rfl), (Nat.le_of_ble_eq_true rfl)⟩) hK (nil_P (D := D) (H := H)) (nil_D (A := va_A (mdlW I a x) sz)) rfl hl.1 rfl (Nat.le_of_ble_eq_true rfl) dX3_enter_47 ⟨(Nat.le_of_ble_eq_true rfl), (Nat.le_of_ble_eq_true rfl)⟩) hP hD hS hA (fun r5 _ H locs hw hP hD hS => ?_)
    refine lv_iload_n hx hb dX3_enter_50 rfl (lv_at hl 2 rfl) ?_
    obtain ⟨h6, hw⟩ := hw
    refine va_iast hx hb hK.1 hP hD hS 3 0 rfl rfl h6 dX3_enter_51 (fun H locs hP hD hS => ?_)
    have hP : va_P D vwCl (mdlW I a (upd (mN x) (Int32.toNatClampNeg r5) p1, mA x, mP x, mS x, mE x, mH x)) H := hP
    have hD : va_D (va_A (mdlW I a x) sz) (mdlW I a (upd (mN x) (Int32.toNatClampNeg r5) p1, mA x, mP x, mS x, mE x, mH x)) := hD
    refine lv_aload_n hx hb dX3_enter_52 rfl (lv_at hl 1 rfl) ?_
    refine va_get (ci := 3) (v := .ref a.2.1) (C := RX3) (T := TX3) (N := 6) hx hb hts hiX3 hown hK.1 hP 0 rfl rfl 0 (by decide) f0 (fun _ h9 => h9) rfl dX3_enter_53 ?_
    refine lv_iconst (v := 1) hx hb dX3_enter_56 (by decide) ?_
    refine lv_iload_n hx hb dX3_enter_57 rfl (lv_at hl 0 rfl) ?_
    refine lv_iconst (v := 1) hx hb dX3_enter_58 (by decide) ?_
    refine lv_iadd hx hb dX3_enter_59 ?_
    refine m0_i (mv_S (As := [.int 1, .int (v1 + 1)]) (rest := [.ref a.2.1]) ⟨hx, hb, hml, hown, hts⟩ (kX3_densityAt l D I O H.size 1 (v1 + 1) _ hw) (va_cwS 2 hts gX3_enter_X3_densityAt rfl rfl rfl hdSX3_densityAt ⟨(Nat.le_of_ble_eq_true rfl), (Nat.le_of_ble_eq_true rfl)⟩) hK (nil_P (D := D) (H := H)) (nil_D (A := va_A (mdlW I a x) sz)) rfl hl.1 rfl (Nat.le_of_ble_eq_true rfl) dX3_enter_60 ⟨(Nat.le_of_ble_eq_true rfl), (Nat.le_of_ble_eq_true rfl)⟩) hP hD hS hA (fun r7 _ H locs hw hP hD hS => ?_)
    refine lv_iload_n hx hb dX3_enter_63 rfl (lv_at hl 3 rfl) ?_
    obtain ⟨h8, hw⟩ := hw
    refine va_iast hx hb hK.1 hP hD hS 3 0 rfl rfl h8 dX3_enter_64 (fun H locs hP hD hS => ?_)
    have hP : va_P D vwCl (mdlW I a (upd (upd (mN x) (Int32.toNatClampNeg r5) p1) (Int32.toNatClampNeg r7) p2, mA x, mP x, mS x, mE x, mH x)) H := hP
    have hD : va_D (va_A (mdlW I a x) sz) (mdlW I a (upd (upd (mN x) (Int32.toNatClampNeg r5) p1) (Int32.toNatClampNeg r7) p2, mA x, mP x, mS x, mE x, mH x)) := hD
    refine lv_aload_n hx hb dX3_enter_65 rfl (lv_at hl 1 rfl) ?_
    refine va_get (ci := 3) (v := .ref a.2.1) (C := RX3) (T := TX3) (N := 6) hx hb hts hiX3 hown hK.1 hP 0 rfl rfl 0 (by decide) f0 (fun _ h9 => h9) rfl dX3_enter_66 ?_
    refine lv_bipush (v := 12) hx hb dX3_enter_69 (by decide) ?_
    refine lv_dup2_11 hx hb dX3_enter_71 rfl rfl ?_
    refine va_iald hx hb hK.1 hP 3 0 rfl rfl (vp_c 12 4416 (by decide)) dX3_enter_72 ?_
    refine lv_iconst (v := 1) hx hb dX3_enter_73 (by decide) ?_
    refine lv_iadd hx hb dX3_enter_74 ?_
    refine va_iast hx hb hK.1 hP hD hS 3 0 rfl rfl (vp_c 12 4416 (by decide)) dX3_enter_75 (fun H locs hP hD hS => ?_)
    have hP : va_P D vwCl (mdlW I a (upd (upd (upd (mN x) (Int32.toNatClampNeg r5) p1) (Int32.toNatClampNeg r7) p2) (Int32.toNatClampNeg 12) (((upd (upd (mN x) (Int32.toNatClampNeg r5) p1) (Int32.toNatClampNeg r7) p2) (Int32.toNatClampNeg 12)) + 1), mA x, mP x, mS x, mE x, mH x)) H := hP
    have hD : va_D (va_A (mdlW I a x) sz) (mdlW I a (upd (upd (upd (mN x) (Int32.toNatClampNeg r5) p1) (Int32.toNatClampNeg r7) p2) (Int32.toNatClampNeg 12) (((upd (upd (mN x) (Int32.toNatClampNeg r5) p1) (Int32.toNatClampNeg r7) p2) (Int32.toNatClampNeg 12)) + 1), mA x, mP x, mS x, mE x, mH x)) := hD
    exact m_vret (u := (upd (upd (upd (mN x) (Int32.toNatClampNeg r5) p1) (Int32.toNatClampNeg r7) p2) (Int32.toNatClampNeg 12) (((upd (upd (mN x) (Int32.toNatClampNeg r5) p1) (Int32.toNatClampNeg r7) p2) (Int32.toNatClampNeg 12)) + 1), mA x, mP x, mS x, mE x, mH x)) hx hb hr hlocks hS hP hD dX3_enter_76 hw
  · have hw := hw.2 c4
    refine lv_aload_n hx hb dX3_enter_24 rfl (lv_at hl 1 rfl) ?_
    refine va_get (ci := 3) (v := .ref a.2.1) (C := RX3) (T := TX3) (N := 6) hx hb hts hiX3 hown hK.1 hP 0 rfl rfl 0 (by decide) f0 (fun _ h9 => h9) rfl dX3_enter_25 ?_
    refine lv_iconst (v := 1) hx hb dX3_enter_28 (by decide) ?_
    refine lv_iload_n hx hb dX3_enter_29 rfl (lv_at hl 0 rfl) ?_
    refine m0_i (mv_S (As := [.int 1, .int v1]) (rest := [.ref a.2.1]) ⟨hx, hb, hml, hown, hts⟩ (kX3_volumeAt l D I O H.size 1 v1 _ hw) (va_cwS 2 hts gX3_enter_X3_volumeAt rfl rfl rfl hdSX3_volumeAt ⟨(Nat.le_of_ble_eq_true rfl), (Nat.le_of_ble_eq_true rfl)⟩) hK (nil_P (D := D) (H := H)) (nil_D (A := va_A (mdlW I a x) sz)) rfl hl.1 rfl (Nat.le_of_ble_eq_true rfl) dX3_enter_30 ⟨(Nat.le_of_ble_eq_true rfl), (Nat.le_of_ble_eq_true rfl)⟩) hP hD hS hA (fun r9 _ H locs hw hP hD hS => ?_)
    refine lv_dup2_11 hx hb dX3_enter_33 rfl rfl ?_
    obtain ⟨h10, hw⟩ := hw
    refine va_iald hx hb hK.1 hP 3 0 rfl rfl h10 dX3_enter_34 ?_
    refine lv_iload_n hx hb dX3_enter_35 rfl (lv_at hl 2 rfl) ?_
    refine lv_iadd hx hb dX3_enter_36 ?_
    obtain ⟨h11, hw⟩ := hw
    refine va_iast hx hb hK.1 hP hD hS 3 0 rfl rfl h11 dX3_enter_37 (fun H locs hP hD hS => ?_)
    have hP : va_P D vwCl (mdlW I a (upd (mN x) (Int32.toNatClampNeg r9) (((mN x) (Int32.toNatClampNeg r9)) + p1), mA x, mP x, mS x, mE x, mH x)) H := hP
    have hD : va_D (va_A (mdlW I a x) sz) (mdlW I a (upd (mN x) (Int32.toNatClampNeg r9) (((mN x) (Int32.toNatClampNeg r9)) + p1), mA x, mP x, mS x, mE x, mH x)) := hD
    exact m_vret (u := (upd (mN x) (Int32.toNatClampNeg r9) (((mN x) (Int32.toNatClampNeg r9)) + p1), mA x, mP x, mS x, mE x, mH x)) hx hb hr hlocks hS hP hD dX3_enter_38 hw
def qX3_passOver_L2  (K4 : Int32 → Mod → Prop) : Nat → Int32 → Mod → Prop
  | 0, _, _ => False
  | n6 + 1, i2, w3 => ((i2 ≤ 0 → K4 i2 w3) ∧ (¬ i2 ≤ 0 → (∀ v9 : Int32, v9 = ((mN w3) (Int32.toNatClampNeg 11)) - 1 → (qX3_volumeAt 0 v9 (fun r10 => (vp_in r10 4416 ∧ ((i2 ≤ ((mN w3) (Int32.toNatClampNeg r10)) → (qX3_densityAt 0 v9 (fun r13 => (vp_in r13 4416 ∧ (qX3_enter w3 i2 ((mN w3) (Int32.toNatClampNeg r13)) (fun u15 => (qX3_volumeAt 0 v9 (fun r16 => (vp_in r16 4416 ∧ (vp_in r16 4416 ∧ (qX3_volumeAt 0 v9 (fun r19 => (vp_in r19 4416 ∧ ((¬ ((upd (mN u15) (Int32.toNatClampNeg r16) (((mN u15) (Int32.toNatClampNeg r16)) - i2)) (Int32.toNatClampNeg r19)) = 0 → (∀ v22 : Int32, v22 = i2 - i2 → qX3_passOver_L2 K4 n6 v22 (upd (upd (mN u15) (Int32.toNatClampNeg r16) (((mN u15) (Int32.toNatClampNeg r16)) - i2)) (Int32.toNatClampNeg 11) (((upd (mN u15) (Int32.toNatClampNeg r16) (((mN u15) (Int32.toNatClampNeg r16)) - i2)) (Int32.toNatClampNeg 11)) - 0), mA u15, mP u15, mS u15, mE u15, mH u15))) ∧ (((upd (mN u15) (Int32.toNatClampNeg r16) (((mN u15) (Int32.toNatClampNeg r16)) - i2)) (Int32.toNatClampNeg r19)) = 0 → (∀ v23 : Int32, v23 = i2 - i2 → qX3_passOver_L2 K4 n6 v23 (upd (upd (mN u15) (Int32.toNatClampNeg r16) (((mN u15) (Int32.toNatClampNeg r16)) - i2)) (Int32.toNatClampNeg 11) (((upd (mN u15) (Int32.toNatClampNeg r16) (((mN u15) (Int32.toNatClampNeg r16)) - i2)) (Int32.toNatClampNeg 11)) - 1), mA u15, mP u15, mS u15, mE u15, mH u15))))))))))))))))) ∧ (¬ i2 ≤ ((mN w3) (Int32.toNatClampNeg r10)) → (qX3_volumeAt 0 v9 (fun r24 => (vp_in r24 4416 ∧ (∀ v26 : Int32, v26 = (mN w3) (Int32.toNatClampNeg r24) → (qX3_densityAt 0 v9 (fun r27 => (vp_in r27 4416 ∧ (qX3_enter w3 v26 ((mN w3) (Int32.toNatClampNeg r27)) (fun u29 => (qX3_volumeAt 0 v9 (fun r30 => (vp_in r30 4416 ∧ (vp_in r30 4416 ∧ (qX3_volumeAt 0 v9 (fun r33 => (vp_in r33 4416 ∧ ((¬ ((upd (mN u29) (Int32.toNatClampNeg r30) (((mN u29) (Int32.toNatClampNeg r30)) - v26)) (Int32.toNatClampNeg r33)) = 0 → (∀ v36 : Int32, v36 = i2 - v26 → qX3_passOver_L2 K4 n6 v36 (upd (upd (mN u29) (Int32.toNatClampNeg r30) (((mN u29) (Int32.toNatClampNeg r30)) - v26)) (Int32.toNatClampNeg 11) (((upd (mN u29) (Int32.toNatClampNeg r30) (((mN u29) (Int32.toNatClampNeg r30)) - v26)) (Int32.toNatClampNeg 11)) - 0), mA u29, mP u29, mS u29, mE u29, mH u29))) ∧ (((upd (mN u29) (Int32.toNatClampNeg r30) (((mN u29) (Int32.toNatClampNeg r30)) - v26)) (Int32.toNatClampNeg r33)) = 0 → (∀ v37 : Int32, v37 = i2 - v26 → qX3_passOver_L2 K4 n6 v37 (upd (upd (mN u29) (Int32.toNatClampNeg r30) (((mN u29) (Int32.toNatClampNeg r30)) - v26)) (Int32.toNatClampNeg 11) (((upd (mN u29) (Int32.toNatClampNeg r30) (((mN u29) (Int32.toNatClampNeg r30)) - v26)) (Int32.toNatClampNeg 11)) - 1), mA u29, mP u29, mS u29, mE u29, mH u29))))))))))))))))))))))))))))
def qX3_passOver (x : Mod) (p1 : Int32) (Q : Mod → Prop) : Prop := (∃ n1, qX3_passOver_L2 (fun i2 w3 => Q w3) n1 p1 x)
set_option maxHeartbeats 4000000 in
set_option maxRecDepth 100000 in
theorem kX3_passOver (l : Launch) (D : va_G) (I O : ClassId) (a : MA) (sz : Nat) (x : Mod) (p1 : Int32) (Q : Mod → Prop) (hw : qX3_passOver x p1 Q) : Met l yX3_passOver wsX3_passOver rX3_passOver (mPc D I O [.ref a.1, .int p1] (mdlW I a x) sz) (va_Qv (fun (u : Mod) => Q u) (mB D (va_A (mdlW I a x) sz) (fun u => mdlW I a u)) (va_A (mdlW I a x) sz)) 0 0 (va_A (mdlW I a x) sz) := by
  refine m_start (by decide) rfl (Nat.le_of_ble_eq_true rfl) (fun p e s m below meth c ls H locs hx hb hr hml hts hown hlocks hnm hK hP hD hA hS hl => ?_)
  have hown : s.vm.findClass RX3 = some m.cls := hown
  have hl : lv_has ls 5 [(0, .ref a.1), (1, .int p1)] := hl
  have hiX3 : ∀ w ∈ wsX30, w ∈ wsX3_passOver := by decide +kernel
  have f0 := hts (.fieldLink RX3 7 "WellControlModel" "now" "[I") (by decide +kernel)
  unfold qX3_passOver at hw
  refine lv_iload_n hx hb dX3_passOver_0 rfl (lv_at hl 1 rfl) ?_
  refine lv_istore_n (lv' := [(2, .int p1), (0, .ref a.1), (1, .int p1)]) hx hb dX3_passOver_1 rfl hl (by decide) rfl (fun ls hl => ?_)
  obtain ⟨n1, hw⟩ := hw
  have ky7 : ∀ (K4 : Int32 → Mod → Prop) (_ : ∀ (i2 : Int32) (w3 : Mod) (H : Heap) (locs : List Loc) (ls : Array Slot), va_P D vwCl (mdlW I a w3) H → va_D (va_A (mdlW I a x) sz) (mdlW I a w3) → va_S (va_A (mdlW I a x) sz) s.heap H locs → lv_has ls 5 [(2, .int i2), (0, .ref a.1), (1, .int p1)] → K4 i2 w3 → W p l e rX3_passOver s m ([.ref a.1, .int p1] : List Value).toArray below meth c H locs 0 0 (MQ below (va_Qv (fun (u : Mod) => Q u) (mB D (va_A (mdlW I a x) sz) (fun u => mdlW I a u)) (va_A (mdlW I a x) sz)) ([.ref a.1, .int p1] : List Value).toArray s 0 0 (va_A (mdlW I a x) sz)) (F0 m 113 ls [])) (n6 : Nat) (i2 : Int32) (w3 : Mod) (H : Heap) (locs : List Loc) (ls : Array Slot), va_P D vwCl (mdlW I a w3) H → va_D (va_A (mdlW I a x) sz) (mdlW I a w3) → va_S (va_A (mdlW I a x) sz) s.heap H locs → lv_has ls 5 [(2, .int i2), (0, .ref a.1), (1, .int p1)] → qX3_passOver_L2 K4 n6 i2 w3 → W p l e rX3_passOver s m ([.ref a.1, .int p1] : List Value).toArray below meth c H locs 0 0 (MQ below (va_Qv (fun (u : Mod) => Q u) (mB D (va_A (mdlW I a x) sz) (fun u => mdlW I a u)) (va_A (mdlW I a x) sz)) ([.ref a.1, .int p1] : List Value).toArray s 0 0 (va_A (mdlW I a x) sz)) (F0 m 2 ls []) := by
    intro K4 hx5 n6
    induction n6 with
    | zero =>
      intro i2 w3 H locs ls hP hD hS hl hw
      exact hw.elim
    | succ n6 ihn6 =>
      intro i2 w3 H locs ls hP hD hS hl hw
      unfold qX3_passOver_L2 at hw
      refine lv_iload_n hx hb dX3_passOver_2 rfl (lv_at hl 0 rfl) ?_
      refine lv_if_le (tgt := 113) hx hb dX3_passOver_3 (by decide) (fun c8 => ?_) (fun c8 => ?_)
      · have hw := hw.1 c8
        exact hx5 i2 w3 H locs ls hP hD hS (lv_sub hl [0, 1, 2] rfl) hw
      · have hw := hw.2 c8
        refine lv_aload_n hx hb dX3_passOver_6 rfl (lv_at hl 1 rfl) ?_
        refine va_get (ci := 3) (v := .ref a.2.1) (C := RX3) (T := TX3) (N := 6) hx hb hts hiX3 hown hK.1 hP 0 rfl rfl 0 (by decide) f0 (fun _ h9 => h9) rfl dX3_passOver_7 ?_
        refine lv_bipush (v := 11) hx hb dX3_passOver_10 (by decide) ?_
        refine va_iald hx hb hK.1 hP 3 0 rfl rfl (vp_c 11 4416 (by decide)) dX3_passOver_12 ?_
        refine lv_iconst (v := 1) hx hb dX3_passOver_13 (by decide) ?_
        refine lv_isub hx hb dX3_passOver_14 ?_
        refine lv_topi (fun v9 ev9 => ?_)
        have hw := hw v9 ev9
        refine lv_istore_n (lv' := [(3, .int v9), (2, .int i2), (0, .ref a.1), (1, .int p1)]) hx hb dX3_passOver_15 rfl hl (by decide) rfl (fun ls hl => ?_)
        refine lv_aload_n hx hb dX3_passOver_16 rfl (lv_at hl 2 rfl) ?_
        refine va_get (ci := 3) (v := .ref a.2.1) (C := RX3) (T := TX3) (N := 6) hx hb hts hiX3 hown hK.1 hP 0 rfl rfl 0 (by decide) f0 (fun _ h9 => h9) rfl dX3_passOver_17 ?_
        refine lv_iconst (v := 0) hx hb dX3_passOver_20 (by decide) ?_
        refine lv_iload_n hx hb dX3_passOver_21 rfl (lv_at hl 0 rfl) ?_
        refine m0_i (mv_S (As := [.int 0, .int v9]) (rest := [.ref a.2.1]) ⟨hx, hb, hml, hown, hts⟩ (kX3_volumeAt l D I O H.size 0 v9 _ hw) (va_cwS 2 hts gX3_passOver_X3_volumeAt rfl rfl rfl hdSX3_volumeAt ⟨(Nat.le_of_ble_eq_true rfl), (Nat.le_of_ble_eq_true rfl)⟩) hK (nil_P (D := D) (H := H)) (nil_D (A := va_A (mdlW I a x) sz)) rfl hl.1 rfl (Nat.le_of_ble_eq_true rfl) dX3_passOver_22 ⟨(Nat.le_of_ble_eq_true rfl), (Nat.le_of_ble_eq_true rfl)⟩) hP hD hS hA (fun r10 _ H locs hw hP hD hS => ?_)
        obtain ⟨h11, hw⟩ := hw
        refine va_iald hx hb hK.1 hP 3 0 rfl rfl h11 dX3_passOver_25 ?_
        refine lv_iload_n hx hb dX3_passOver_26 rfl (lv_at hl 1 rfl) ?_
        refine lv_icmp_ge (tgt := 43) hx hb dX3_passOver_27 (by decide) (fun c12 => ?_) (fun c12 => ?_)
        · have hw := hw.1 c12
          refine lv_iload_n hx hb dX3_passOver_43 rfl (lv_at hl 1 rfl) ?_
          refine lv_istore (lv' := [(4, .int i2), (3, .int v9), (2, .int i2), (0, .ref a.1), (1, .int p1)]) hx hb dX3_passOver_44 hl (by decide) rfl (fun ls hl => ?_)
          refine lv_aload_n hx hb dX3_passOver_46 rfl (lv_at hl 3 rfl) ?_
          refine lv_iload hx hb dX3_passOver_47 (lv_at hl 0 rfl) ?_
          refine lv_aload_n hx hb dX3_passOver_49 rfl (lv_at hl 3 rfl) ?_
          refine va_get (ci := 3) (v := .ref a.2.1) (C := RX3) (T := TX3) (N := 6) hx hb hts hiX3 hown hK.1 hP 0 rfl rfl 0 (by decide) f0 (fun _ h9 => h9) rfl dX3_passOver_50 ?_
          refine lv_iconst (v := 0) hx hb dX3_passOver_53 (by decide) ?_
          refine lv_iload_n hx hb dX3_passOver_54 rfl (lv_at hl 1 rfl) ?_
          refine m0_i (mv_S (As := [.int 0, .int v9]) (rest := [.ref a.2.1, .int i2, .ref a.1]) ⟨hx, hb, hml, hown, hts⟩ (kX3_densityAt l D I O H.size 0 v9 _ hw) (va_cwS 2 hts gX3_passOver_X3_densityAt rfl rfl rfl hdSX3_densityAt ⟨(Nat.le_of_ble_eq_true rfl), (Nat.le_of_ble_eq_true rfl)⟩) hK (nil_P (D := D) (H := H)) (nil_D (A := va_A (mdlW I a x) sz)) rfl hl.1 rfl (Nat.le_of_ble_eq_true rfl) dX3_passOver_55 ⟨(Nat.le_of_ble_eq_true rfl), (Nat.le_of_ble_eq_true rfl)⟩) hP hD hS hA (fun r13 _ H locs hw hP hD hS => ?_)
          obtain ⟨h14, hw⟩ := hw
          refine va_iald hx hb hK.1 hP 3 0 rfl rfl h14 dX3_passOver_58 ?_
          refine mw_v (mv_V (As := [.int i2, .int ((mN w3) (Int32.toNatClampNeg r13))]) (rest := []) ⟨hx, hb, hml, hown, hts⟩ (kX3_enter l D I O a H.size w3 i2 ((mN w3) (Int32.toNatClampNeg r13)) _ hw) (cwV 2 hts gX3_passOver_X3_enter rfl rfl rfl hdVX3_enter ⟨(Nat.le_of_ble_eq_true rfl), (Nat.le_of_ble_eq_true rfl)⟩) hK hP hD 0 3 rfl rfl rfl rfl hl.1 rfl (Nat.le_of_ble_eq_true rfl) dX3_passOver_59 ⟨(Nat.le_of_ble_eq_true rfl), (Nat.le_of_ble_eq_true rfl)⟩) hP hD hS hA (fun u15 H locs hw hP hD hS => ?_)
          have hP : va_P D vwCl (mdlW I a u15) H := hP
          have hD : va_D (va_A (mdlW I a x) sz) (mdlW I a u15) := hD
          refine lv_aload_n hx hb dX3_passOver_62 rfl (lv_at hl 3 rfl) ?_
          refine va_get (ci := 3) (v := .ref a.2.1) (C := RX3) (T := TX3) (N := 6) hx hb hts hiX3 hown hK.1 hP 0 rfl rfl 0 (by decide) f0 (fun _ h9 => h9) rfl dX3_passOver_63 ?_
          refine lv_iconst (v := 0) hx hb dX3_passOver_66 (by decide) ?_
          refine lv_iload_n hx hb dX3_passOver_67 rfl (lv_at hl 1 rfl) ?_
          refine m0_i (mv_S (As := [.int 0, .int v9]) (rest := [.ref a.2.1]) ⟨hx, hb, hml, hown, hts⟩ (kX3_volumeAt l D I O H.size 0 v9 _ hw) (va_cwS 2 hts gX3_passOver_X3_volumeAt rfl rfl rfl hdSX3_volumeAt ⟨(Nat.le_of_ble_eq_true rfl), (Nat.le_of_ble_eq_true rfl)⟩) hK (nil_P (D := D) (H := H)) (nil_D (A := va_A (mdlW I a x) sz)) rfl hl.1 rfl (Nat.le_of_ble_eq_true rfl) dX3_passOver_68 ⟨(Nat.le_of_ble_eq_true rfl), (Nat.le_of_ble_eq_true rfl)⟩) hP hD hS hA (fun r16 _ H locs hw hP hD hS => ?_)
          refine lv_dup2_11 hx hb dX3_passOver_71 rfl rfl ?_
          obtain ⟨h17, hw⟩ := hw
          refine va_iald hx hb hK.1 hP 3 0 rfl rfl h17 dX3_passOver_72 ?_
          refine lv_iload hx hb dX3_passOver_73 (lv_at hl 0 rfl) ?_
          refine lv_isub hx hb dX3_passOver_75 ?_
          obtain ⟨h18, hw⟩ := hw
          refine va_iast hx hb hK.1 hP hD hS 3 0 rfl rfl h18 dX3_passOver_76 (fun H locs hP hD hS => ?_)
          have hP : va_P D vwCl (mdlW I a (upd (mN u15) (Int32.toNatClampNeg r16) (((mN u15) (Int32.toNatClampNeg r16)) - i2), mA u15, mP u15, mS u15, mE u15, mH u15)) H := hP
          have hD : va_D (va_A (mdlW I a x) sz) (mdlW I a (upd (mN u15) (Int32.toNatClampNeg r16) (((mN u15) (Int32.toNatClampNeg r16)) - i2), mA u15, mP u15, mS u15, mE u15, mH u15)) := hD
          refine lv_aload_n hx hb dX3_passOver_77 rfl (lv_at hl 3 rfl) ?_
          refine va_get (ci := 3) (v := .ref a.2.1) (C := RX3) (T := TX3) (N := 6) hx hb hts hiX3 hown hK.1 hP 0 rfl rfl 0 (by decide) f0 (fun _ h9 => h9) rfl dX3_passOver_78 ?_
          refine lv_bipush (v := 11) hx hb dX3_passOver_81 (by decide) ?_
          refine lv_dup2_11 hx hb dX3_passOver_83 rfl rfl ?_
          refine va_iald hx hb hK.1 hP 3 0 rfl rfl (vp_c 11 4416 (by decide)) dX3_passOver_84 ?_
          refine lv_aload_n hx hb dX3_passOver_85 rfl (lv_at hl 3 rfl) ?_
          refine va_get (ci := 3) (v := .ref a.2.1) (C := RX3) (T := TX3) (N := 6) hx hb hts hiX3 hown hK.1 hP 0 rfl rfl 0 (by decide) f0 (fun _ h9 => h9) rfl dX3_passOver_86 ?_
          refine lv_iconst (v := 0) hx hb dX3_passOver_89 (by decide) ?_
          refine lv_iload_n hx hb dX3_passOver_90 rfl (lv_at hl 1 rfl) ?_
          refine m0_i (mv_S (As := [.int 0, .int v9]) (rest := [.ref a.2.1, .int ((upd (mN u15) (Int32.toNatClampNeg r16) (((mN u15) (Int32.toNatClampNeg r16)) - i2)) (Int32.toNatClampNeg 11)), .int 11, .ref a.2.1]) ⟨hx, hb, hml, hown, hts⟩ (kX3_volumeAt l D I O H.size 0 v9 _ hw) (va_cwS 2 hts gX3_passOver_X3_volumeAt rfl rfl rfl hdSX3_volumeAt ⟨(Nat.le_of_ble_eq_true rfl), (Nat.le_of_ble_eq_true rfl)⟩) hK (nil_P (D := D) (H := H)) (nil_D (A := va_A (mdlW I a x) sz)) rfl hl.1 rfl (Nat.le_of_ble_eq_true rfl) dX3_passOver_91 ⟨(Nat.le_of_ble_eq_true rfl), (Nat.le_of_ble_eq_true rfl)⟩) hP hD hS hA (fun r19 _ H locs hw hP hD hS => ?_)
          obtain ⟨h20, hw⟩ := hw
          refine va_iald hx hb hK.1 hP 3 0 rfl rfl h20 dX3_passOver_94 ?_
          refine lv_if_ne (tgt := 102) hx hb dX3_passOver_95 (by decide) (fun c21 => ?_) (fun c21 => ?_)
          · have hw := hw.1 c21
            refine lv_iconst (v := 0) hx hb dX3_passOver_102 (by decide) ?_
            refine lv_isub hx hb dX3_passOver_103 ?_
            refine va_iast hx hb hK.1 hP hD hS 3 0 rfl rfl (vp_c 11 4416 (by decide)) dX3_passOver_104 (fun H locs hP hD hS => ?_)
            have hP : va_P D vwCl (mdlW I a (upd (upd (mN u15) (Int32.toNatClampNeg r16) (((mN u15) (Int32.toNatClampNeg r16)) - i2)) (Int32.toNatClampNeg 11) (((upd (mN u15) (Int32.toNatClampNeg r16) (((mN u15) (Int32.toNatClampNeg r16)) - i2)) (Int32.toNatClampNeg 11)) - 0), mA u15, mP u15, mS u15, mE u15, mH u15)) H := hP
            have hD : va_D (va_A (mdlW I a x) sz) (mdlW I a (upd (upd (mN u15) (Int32.toNatClampNeg r16) (((mN u15) (Int32.toNatClampNeg r16)) - i2)) (Int32.toNatClampNeg 11) (((upd (mN u15) (Int32.toNatClampNeg r16) (((mN u15) (Int32.toNatClampNeg r16)) - i2)) (Int32.toNatClampNeg 11)) - 0), mA u15, mP u15, mS u15, mE u15, mH u15)) := hD
            refine lv_iload_n hx hb dX3_passOver_105 rfl (lv_at hl 2 rfl) ?_
            refine lv_iload hx hb dX3_passOver_106 (lv_at hl 0 rfl) ?_
            refine lv_isub hx hb dX3_passOver_108 ?_
            refine lv_topi (fun v22 ev22 => ?_)
            have hw := hw v22 ev22
            refine lv_istore_n (lv' := [(2, .int v22), (4, .int i2), (3, .int v9), (0, .ref a.1), (1, .int p1)]) hx hb dX3_passOver_109 rfl hl (by decide) rfl (fun ls hl => ?_)
            refine lv_goto (tgt := 2) hx hb dX3_passOver_110 (by decide) ?_
            exact ihn6 v22 (upd (upd (mN u15) (Int32.toNatClampNeg r16) (((mN u15) (Int32.toNatClampNeg r16)) - i2)) (Int32.toNatClampNeg 11) (((upd (mN u15) (Int32.toNatClampNeg r16) (((mN u15) (Int32.toNatClampNeg r16)) - i2)) (Int32.toNatClampNeg 11)) - 0), mA u15, mP u15, mS u15, mE u15, mH u15) H locs ls hP hD hS (lv_sub hl [0, 3, 4] rfl) hw
          · have hw := hw.2 c21
            refine lv_iconst (v := 1) hx hb dX3_passOver_98 (by decide) ?_
            refine lv_goto (tgt := 103) hx hb dX3_passOver_99 (by decide) ?_
            refine lv_isub hx hb dX3_passOver_103 ?_
            refine va_iast hx hb hK.1 hP hD hS 3 0 rfl rfl (vp_c 11 4416 (by decide)) dX3_passOver_104 (fun H locs hP hD hS => ?_)
            have hP : va_P D vwCl (mdlW I a (upd (upd (mN u15) (Int32.toNatClampNeg r16) (((mN u15) (Int32.toNatClampNeg r16)) - i2)) (Int32.toNatClampNeg 11) (((upd (mN u15) (Int32.toNatClampNeg r16) (((mN u15) (Int32.toNatClampNeg r16)) - i2)) (Int32.toNatClampNeg 11)) - 1), mA u15, mP u15, mS u15, mE u15, mH u15)) H := hP
            have hD : va_D (va_A (mdlW I a x) sz) (mdlW I a (upd (upd (mN u15) (Int32.toNatClampNeg r16) (((mN u15) (Int32.toNatClampNeg r16)) - i2)) (Int32.toNatClampNeg 11) (((upd (mN u15) (Int32.toNatClampNeg r16) (((mN u15) (Int32.toNatClampNeg r16)) - i2)) (Int32.toNatClampNeg 11)) - 1), mA u15, mP u15, mS u15, mE u15, mH u15)) := hD
            refine lv_iload_n hx hb dX3_passOver_105 rfl (lv_at hl 2 rfl) ?_
            refine lv_iload hx hb dX3_passOver_106 (lv_at hl 0 rfl) ?_
            refine lv_isub hx hb dX3_passOver_108 ?_
            refine lv_topi (fun v23 ev23 => ?_)
            have hw := hw v23 ev23
            refine lv_istore_n (lv' := [(2, .int v23), (4, .int i2), (3, .int v9), (0, .ref a.1), (1, .int p1)]) hx hb dX3_passOver_109 rfl hl (by decide) rfl (fun ls hl => ?_)
            refine lv_goto (tgt := 2) hx hb dX3_passOver_110 (by decide) ?_
            exact ihn6 v23 (upd (upd (mN u15) (Int32.toNatClampNeg r16) (((mN u15) (Int32.toNatClampNeg r16)) - i2)) (Int32.toNatClampNeg 11) (((upd (mN u15) (Int32.toNatClampNeg r16) (((mN u15) (Int32.toNatClampNeg r16)) - i2)) (Int32.toNatClampNeg 11)) - 1), mA u15, mP u15, mS u15, mE u15, mH u15) H locs ls hP hD hS (lv_sub hl [0, 3, 4] rfl) hw
        · have hw := hw.2 c12
          refine lv_aload_n hx hb dX3_passOver_30 rfl (lv_at hl 2 rfl) ?_
          refine va_get (ci := 3) (v := .ref a.2.1) (C := RX3) (T := TX3) (N := 6) hx hb hts hiX3 hown hK.1 hP 0 rfl rfl 0 (by decide) f0 (fun _ h9 => h9) rfl dX3_passOver_31 ?_
          refine lv_iconst (v := 0) hx hb dX3_passOver_34 (by decide) ?_
          refine lv_iload_n hx hb dX3_passOver_35 rfl (lv_at hl 0 rfl) ?_
          refine m0_i (mv_S (As := [.int 0, .int v9]) (rest := [.ref a.2.1]) ⟨hx, hb, hml, hown, hts⟩ (kX3_volumeAt l D I O H.size 0 v9 _ hw) (va_cwS 2 hts gX3_passOver_X3_volumeAt rfl rfl rfl hdSX3_volumeAt ⟨(Nat.le_of_ble_eq_true rfl), (Nat.le_of_ble_eq_true rfl)⟩) hK (nil_P (D := D) (H := H)) (nil_D (A := va_A (mdlW I a x) sz)) rfl hl.1 rfl (Nat.le_of_ble_eq_true rfl) dX3_passOver_36 ⟨(Nat.le_of_ble_eq_true rfl), (Nat.le_of_ble_eq_true rfl)⟩) hP hD hS hA (fun r24 _ H locs hw hP hD hS => ?_)
          obtain ⟨h25, hw⟩ := hw
          refine va_iald hx hb hK.1 hP 3 0 rfl rfl h25 dX3_passOver_39 ?_
          refine lv_goto (tgt := 44) hx hb dX3_passOver_40 (by decide) ?_
          refine lv_topi (fun v26 ev26 => ?_)
          have hw := hw v26 ev26
          refine lv_istore (lv' := [(4, .int v26), (3, .int v9), (2, .int i2), (0, .ref a.1), (1, .int p1)]) hx hb dX3_passOver_44 hl (by decide) rfl (fun ls hl => ?_)
          refine lv_aload_n hx hb dX3_passOver_46 rfl (lv_at hl 3 rfl) ?_
          refine lv_iload hx hb dX3_passOver_47 (lv_at hl 0 rfl) ?_
          refine lv_aload_n hx hb dX3_passOver_49 rfl (lv_at hl 3 rfl) ?_
          refine va_get (ci := 3) (v := .ref a.2.1) (C := RX3) (T := TX3) (N := 6) hx hb hts hiX3 hown hK.1 hP 0 rfl rfl 0 (by decide) f0 (fun _ h9 => h9) rfl dX3_passOver_50 ?_
          refine lv_iconst (v := 0) hx hb dX3_passOver_53 (by decide) ?_
          refine lv_iload_n hx hb dX3_passOver_54 rfl (lv_at hl 1 rfl) ?_
          refine m0_i (mv_S (As := [.int 0, .int v9]) (rest := [.ref a.2.1, .int v26, .ref a.1]) ⟨hx, hb, hml, hown, hts⟩ (kX3_densityAt l D I O H.size 0 v9 _ hw) (va_cwS 2 hts gX3_passOver_X3_densityAt rfl rfl rfl hdSX3_densityAt ⟨(Nat.le_of_ble_eq_true rfl), (Nat.le_of_ble_eq_true rfl)⟩) hK (nil_P (D := D) (H := H)) (nil_D (A := va_A (mdlW I a x) sz)) rfl hl.1 rfl (Nat.le_of_ble_eq_true rfl) dX3_passOver_55 ⟨(Nat.le_of_ble_eq_true rfl), (Nat.le_of_ble_eq_true rfl)⟩) hP hD hS hA (fun r27 _ H locs hw hP hD hS => ?_)
          obtain ⟨h28, hw⟩ := hw
          refine va_iald hx hb hK.1 hP 3 0 rfl rfl h28 dX3_passOver_58 ?_
          refine mw_v (mv_V (As := [.int v26, .int ((mN w3) (Int32.toNatClampNeg r27))]) (rest := []) ⟨hx, hb, hml, hown, hts⟩ (kX3_enter l D I O a H.size w3 v26 ((mN w3) (Int32.toNatClampNeg r27)) _ hw) (cwV 2 hts gX3_passOver_X3_enter rfl rfl rfl hdVX3_enter ⟨(Nat.le_of_ble_eq_true rfl), (Nat.le_of_ble_eq_true rfl)⟩) hK hP hD 0 3 rfl rfl rfl rfl hl.1 rfl (Nat.le_of_ble_eq_true rfl) dX3_passOver_59 ⟨(Nat.le_of_ble_eq_true rfl), (Nat.le_of_ble_eq_true rfl)⟩) hP hD hS hA (fun u29 H locs hw hP hD hS => ?_)
          have hP : va_P D vwCl (mdlW I a u29) H := hP
          have hD : va_D (va_A (mdlW I a x) sz) (mdlW I a u29) := hD
          refine lv_aload_n hx hb dX3_passOver_62 rfl (lv_at hl 3 rfl) ?_
          refine va_get (ci := 3) (v := .ref a.2.1) (C := RX3) (T := TX3) (N := 6) hx hb hts hiX3 hown hK.1 hP 0 rfl rfl 0 (by decide) f0 (fun _ h9 => h9) rfl dX3_passOver_63 ?_
          refine lv_iconst (v := 0) hx hb dX3_passOver_66 (by decide) ?_
          refine lv_iload_n hx hb dX3_passOver_67 rfl (lv_at hl 1 rfl) ?_
          refine m0_i (mv_S (As := [.int 0, .int v9]) (rest := [.ref a.2.1]) ⟨hx, hb, hml, hown, hts⟩ (kX3_volumeAt l D I O H.size 0 v9 _ hw) (va_cwS 2 hts gX3_passOver_X3_volumeAt rfl rfl rfl hdSX3_volumeAt ⟨(Nat.le_of_ble_eq_true rfl), (Nat.le_of_ble_eq_true rfl)⟩) hK (nil_P (D := D) (H := H)) (nil_D (A := va_A (mdlW I a x) sz)) rfl hl.1 rfl (Nat.le_of_ble_eq_true rfl) dX3_passOver_68 ⟨(Nat.le_of_ble_eq_true rfl), (Nat.le_of_ble_eq_true rfl)⟩) hP hD hS hA (fun r30 _ H locs hw hP hD hS => ?_)
          refine lv_dup2_11 hx hb dX3_passOver_71 rfl rfl ?_
          obtain ⟨h31, hw⟩ := hw
          refine va_iald hx hb hK.1 hP 3 0 rfl rfl h31 dX3_passOver_72 ?_
          refine lv_iload hx hb dX3_passOver_73 (lv_at hl 0 rfl) ?_
          refine lv_isub hx hb dX3_passOver_75 ?_
          obtain ⟨h32, hw⟩ := hw
          refine va_iast hx hb hK.1 hP hD hS 3 0 rfl rfl h32 dX3_passOver_76 (fun H locs hP hD hS => ?_)
          have hP : va_P D vwCl (mdlW I a (upd (mN u29) (Int32.toNatClampNeg r30) (((mN u29) (Int32.toNatClampNeg r30)) - v26), mA u29, mP u29, mS u29, mE u29, mH u29)) H := hP
          have hD : va_D (va_A (mdlW I a x) sz) (mdlW I a (upd (mN u29) (Int32.toNatClampNeg r30) (((mN u29) (Int32.toNatClampNeg r30)) - v26), mA u29, mP u29, mS u29, mE u29, mH u29)) := hD
          refine lv_aload_n hx hb dX3_passOver_77 rfl (lv_at hl 3 rfl) ?_
          refine va_get (ci := 3) (v := .ref a.2.1) (C := RX3) (T := TX3) (N := 6) hx hb hts hiX3 hown hK.1 hP 0 rfl rfl 0 (by decide) f0 (fun _ h9 => h9) rfl dX3_passOver_78 ?_
          refine lv_bipush (v := 11) hx hb dX3_passOver_81 (by decide) ?_
          refine lv_dup2_11 hx hb dX3_passOver_83 rfl rfl ?_
          refine va_iald hx hb hK.1 hP 3 0 rfl rfl (vp_c 11 4416 (by decide)) dX3_passOver_84 ?_
          refine lv_aload_n hx hb dX3_passOver_85 rfl (lv_at hl 3 rfl) ?_
          refine va_get (ci := 3) (v := .ref a.2.1) (C := RX3) (T := TX3) (N := 6) hx hb hts hiX3 hown hK.1 hP 0 rfl rfl 0 (by decide) f0 (fun _ h9 => h9) rfl dX3_passOver_86 ?_
          refine lv_iconst (v := 0) hx hb dX3_passOver_89 (by decide) ?_
          refine lv_iload_n hx hb dX3_passOver_90 rfl (lv_at hl 1 rfl) ?_
          refine m0_i (mv_S (As := [.int 0, .int v9]) (rest := [.ref a.2.1, .int ((upd (mN u29) (Int32.toNatClampNeg r30) (((mN u29) (Int32.toNatClampNeg r30)) - v26)) (Int32.toNatClampNeg 11)), .int 11, .ref a.2.1]) ⟨hx, hb, hml, hown, hts⟩ (kX3_volumeAt l D I O H.size 0 v9 _ hw) (va_cwS 2 hts gX3_passOver_X3_volumeAt rfl rfl rfl hdSX3_volumeAt ⟨(Nat.le_of_ble_eq_true rfl), (Nat.le_of_ble_eq_true rfl)⟩) hK (nil_P (D := D) (H := H)) (nil_D (A := va_A (mdlW I a x) sz)) rfl hl.1 rfl (Nat.le_of_ble_eq_true rfl) dX3_passOver_91 ⟨(Nat.le_of_ble_eq_true rfl), (Nat.le_of_ble_eq_true rfl)⟩) hP hD hS hA (fun r33 _ H locs hw hP hD hS => ?_)
          obtain ⟨h34, hw⟩ := hw
          refine va_iald hx hb hK.1 hP 3 0 rfl rfl h34 dX3_passOver_94 ?_
          refine lv_if_ne (tgt := 102) hx hb dX3_passOver_95 (by decide) (fun c35 => ?_) (fun c35 => ?_)
          · have hw := hw.1 c35
            refine lv_iconst (v := 0) hx hb dX3_passOver_102 (by decide) ?_
            refine lv_isub hx hb dX3_passOver_103 ?_
            refine va_iast hx hb hK.1 hP hD hS 3 0 rfl rfl (vp_c 11 4416 (by decide)) dX3_passOver_104 (fun H locs hP hD hS => ?_)
            have hP : va_P D vwCl (mdlW I a (upd (upd (mN u29) (Int32.toNatClampNeg r30) (((mN u29) (Int32.toNatClampNeg r30)) - v26)) (Int32.toNatClampNeg 11) (((upd (mN u29) (Int32.toNatClampNeg r30) (((mN u29) (Int32.toNatClampNeg r30)) - v26)) (Int32.toNatClampNeg 11)) - 0), mA u29, mP u29, mS u29, mE u29, mH u29)) H := hP
            have hD : va_D (va_A (mdlW I a x) sz) (mdlW I a (upd (upd (mN u29) (Int32.toNatClampNeg r30) (((mN u29) (Int32.toNatClampNeg r30)) - v26)) (Int32.toNatClampNeg 11) (((upd (mN u29) (Int32.toNatClampNeg r30) (((mN u29) (Int32.toNatClampNeg r30)) - v26)) (Int32.toNatClampNeg 11)) - 0), mA u29, mP u29, mS u29, mE u29, mH u29)) := hD
            refine lv_iload_n hx hb dX3_passOver_105 rfl (lv_at hl 2 rfl) ?_
            refine lv_iload hx hb dX3_passOver_106 (lv_at hl 0 rfl) ?_
            refine lv_isub hx hb dX3_passOver_108 ?_
            refine lv_topi (fun v36 ev36 => ?_)
            have hw := hw v36 ev36
            refine lv_istore_n (lv' := [(2, .int v36), (4, .int v26), (3, .int v9), (0, .ref a.1), (1, .int p1)]) hx hb dX3_passOver_109 rfl hl (by decide) rfl (fun ls hl => ?_)
            refine lv_goto (tgt := 2) hx hb dX3_passOver_110 (by decide) ?_
            exact ihn6 v36 (upd (upd (mN u29) (Int32.toNatClampNeg r30) (((mN u29) (Int32.toNatClampNeg r30)) - v26)) (Int32.toNatClampNeg 11) (((upd (mN u29) (Int32.toNatClampNeg r30) (((mN u29) (Int32.toNatClampNeg r30)) - v26)) (Int32.toNatClampNeg 11)) - 0), mA u29, mP u29, mS u29, mE u29, mH u29) H locs ls hP hD hS (lv_sub hl [0, 3, 4] rfl) hw
          · have hw := hw.2 c35
            refine lv_iconst (v := 1) hx hb dX3_passOver_98 (by decide) ?_
            refine lv_goto (tgt := 103) hx hb dX3_passOver_99 (by decide) ?_
            refine lv_isub hx hb dX3_passOver_103 ?_
            refine va_iast hx hb hK.1 hP hD hS 3 0 rfl rfl (vp_c 11 4416 (by decide)) dX3_passOver_104 (fun H locs hP hD hS => ?_)
            have hP : va_P D vwCl (mdlW I a (upd (upd (mN u29) (Int32.toNatClampNeg r30) (((mN u29) (Int32.toNatClampNeg r30)) - v26)) (Int32.toNatClampNeg 11) (((upd (mN u29) (Int32.toNatClampNeg r30) (((mN u29) (Int32.toNatClampNeg r30)) - v26)) (Int32.toNatClampNeg 11)) - 1), mA u29, mP u29, mS u29, mE u29, mH u29)) H := hP
            have hD : va_D (va_A (mdlW I a x) sz) (mdlW I a (upd (upd (mN u29) (Int32.toNatClampNeg r30) (((mN u29) (Int32.toNatClampNeg r30)) - v26)) (Int32.toNatClampNeg 11) (((upd (mN u29) (Int32.toNatClampNeg r30) (((mN u29) (Int32.toNatClampNeg r30)) - v26)) (Int32.toNatClampNeg 11)) - 1), mA u29, mP u29, mS u29, mE u29, mH u29)) := hD
            refine lv_iload_n hx hb dX3_passOver_105 rfl (lv_at hl 2 rfl) ?_
            refine lv_iload hx hb dX3_passOver_106 (lv_at hl 0 rfl) ?_
            refine lv_isub hx hb dX3_passOver_108 ?_
            refine lv_topi (fun v37 ev37 => ?_)
            have hw := hw v37 ev37
            refine lv_istore_n (lv' := [(2, .int v37), (4, .int v26), (3, .int v9), (0, .ref a.1), (1, .int p1)]) hx hb dX3_passOver_109 rfl hl (by decide) rfl (fun ls hl => ?_)
            refine lv_goto (tgt := 2) hx hb dX3_passOver_110 (by decide) ?_
            exact ihn6 v37 (upd (upd (mN u29) (Int32.toNatClampNeg r30) (((mN u29) (Int32.toNatClampNeg r30)) - v26)) (Int32.toNatClampNeg 11) (((upd (mN u29) (Int32.toNatClampNeg r30) (((mN u29) (Int32.toNatClampNeg r30)) - v26)) (Int32.toNatClampNeg 11)) - 1), mA u29, mP u29, mS u29, mE u29, mH u29) H locs ls hP hD hS (lv_sub hl [0, 3, 4] rfl) hw
  refine ky7 _ (fun i2 w3 H locs ls hP hD hS hl hw => ?_) n1 p1 x H locs ls hP hD hS (lv_sub hl [0, 1, 2] rfl) hw
  exact m_vret (u := w3) hx hb hr hlocks hS hP hD dX3_passOver_113 hw
def qX3_leave_L4 (x : Mod) (K4 : Int32 → Int32 → Prop) : Nat → Int32 → Int32 → Prop
  | 0, _, _ => False
  | n6 + 1, i2, i3 => (qX3_volumeAt 1 i2 (fun r8 => (vp_in r8 4416 ∧ ((i3 < ((mN x) (Int32.toNatClampNeg r8)) → K4 i2 i3) ∧ (¬ i3 < ((mN x) (Int32.toNatClampNeg r8)) → (qX3_volumeAt 1 i2 (fun r11 => (vp_in r11 4416 ∧ (∀ v13 : Int32, v13 = i3 - ((mN x) (Int32.toNatClampNeg r11)) → qX3_leave_L4 x K4 n6 (i2 + 1) v13)))))))))
def qX3_leave_L65 (i2 : Int32) (K20 : Int32 → Mod → Prop) : Nat → Int32 → Mod → Prop
  | 0, _, _ => False
  | n22 + 1, i18, w19 => ((((mN w19) (Int32.toNatClampNeg 12)) ≤ i18 → K20 i18 w19) ∧ (¬ ((mN w19) (Int32.toNatClampNeg 12)) ≤ i18 → ((i2 ≤ 0 → K20 i18 w19) ∧ (¬ i2 ≤ 0 → (qX3_volumeAt 1 i18 (fun r26 => (qX3_volumeAt 1 (i18 + i2) (fun r27 => (vp_in r27 4416 ∧ (vp_in r26 4416 ∧ (qX3_densityAt 1 i18 (fun r30 => (qX3_densityAt 1 (i18 + i2) (fun r31 => (vp_in r31 4416 ∧ (vp_in r30 4416 ∧ qX3_leave_L65 i2 K20 n22 (i18 + 1) (upd (upd (mN w19) (Int32.toNatClampNeg r26) ((mN w19) (Int32.toNatClampNeg r27))) (Int32.toNatClampNeg r30) ((upd (mN w19) (Int32.toNatClampNeg r26) ((mN w19) (Int32.toNatClampNeg r27))) (Int32.toNatClampNeg r31)), mA w19, mP w19, mS w19, mE w19, mH w19)))))))))))))))))
def qX3_leave (x : Mod) (p1 : Int32) (Q : Mod → Prop) : Prop := (∃ n1, qX3_leave_L4 x (fun i2 i3 => (qX3_volumeAt 1 i2 (fun r14 => (vp_in r14 4416 ∧ (vp_in r14 4416 ∧ (∃ n17, qX3_leave_L65 i2 (fun i18 w19 => Q w19) n17 0 (upd (upd (mN x) (Int32.toNatClampNeg r14) (((mN x) (Int32.toNatClampNeg r14)) - i3)) (Int32.toNatClampNeg 12) (((upd (mN x) (Int32.toNatClampNeg r14) (((mN x) (Int32.toNatClampNeg r14)) - i3)) (Int32.toNatClampNeg 12)) - i2), mA x, mP x, mS x, mE x, mH x))))))) n1 0 p1)
set_option maxHeartbeats 4000000 in
set_option maxRecDepth 100000 in
theorem kX3_leave (l : Launch) (D : va_G) (I O : ClassId) (a : MA) (sz : Nat) (x : Mod) (p1 : Int32) (Q : Mod → Prop) (hw : qX3_leave x p1 Q) : Met l yX3_leave wsX3_leave rX3_leave (mPc D I O [.ref a.1, .int p1] (mdlW I a x) sz) (va_Qv (fun (u : Mod) => Q u) (mB D (va_A (mdlW I a x) sz) (fun u => mdlW I a u)) (va_A (mdlW I a x) sz)) 0 0 (va_A (mdlW I a x) sz) := by
  refine m_start (by decide) rfl (Nat.le_of_ble_eq_true rfl) (fun p e s m below meth c ls H locs hx hb hr hml hts hown hlocks hnm hK hP hD hA hS hl => ?_)
  have hown : s.vm.findClass RX3 = some m.cls := hown
  have hl : lv_has ls 5 [(0, .ref a.1), (1, .int p1)] := hl
  have hiX3 : ∀ w ∈ wsX30, w ∈ wsX3_leave := by decide +kernel
  have f0 := hts (.fieldLink RX3 7 "WellControlModel" "now" "[I") (by decide +kernel)
  unfold qX3_leave at hw
  refine lv_iload_n hx hb dX3_leave_0 rfl (lv_at hl 1 rfl) ?_
  refine lv_istore_n (lv' := [(2, .int p1), (0, .ref a.1), (1, .int p1)]) hx hb dX3_leave_1 rfl hl (by decide) rfl (fun ls hl => ?_)
  refine lv_iconst (v := 0) hx hb dX3_leave_2 (by decide) ?_
  refine lv_istore_n (lv' := [(3, .int 0), (2, .int p1), (0, .ref a.1), (1, .int p1)]) hx hb dX3_leave_3 rfl hl (by decide) rfl (fun ls hl => ?_)
  obtain ⟨n1, hw⟩ := hw
  have ky7 : ∀ (K4 : Int32 → Int32 → Prop) (_ : ∀ (i2 : Int32) (i3 : Int32) (H : Heap) (locs : List Loc) (ls : Array Slot), va_P D vwCl (mdlW I a x) H → va_D (va_A (mdlW I a x) sz) (mdlW I a x) → va_S (va_A (mdlW I a x) sz) s.heap H locs → lv_has ls 5 [(3, .int i2), (2, .int i3), (0, .ref a.1), (1, .int p1)] → K4 i2 i3 → W p l e rX3_leave s m ([.ref a.1, .int p1] : List Value).toArray below meth c H locs 0 0 (MQ below (va_Qv (fun (u : Mod) => Q u) (mB D (va_A (mdlW I a x) sz) (fun u => mdlW I a u)) (va_A (mdlW I a x) sz)) ([.ref a.1, .int p1] : List Value).toArray s 0 0 (va_A (mdlW I a x) sz)) (F0 m 37 ls [])) (n6 : Nat) (i2 : Int32) (i3 : Int32) (H : Heap) (locs : List Loc) (ls : Array Slot), va_P D vwCl (mdlW I a x) H → va_D (va_A (mdlW I a x) sz) (mdlW I a x) → va_S (va_A (mdlW I a x) sz) s.heap H locs → lv_has ls 5 [(3, .int i2), (2, .int i3), (0, .ref a.1), (1, .int p1)] → qX3_leave_L4 x K4 n6 i2 i3 → W p l e rX3_leave s m ([.ref a.1, .int p1] : List Value).toArray below meth c H locs 0 0 (MQ below (va_Qv (fun (u : Mod) => Q u) (mB D (va_A (mdlW I a x) sz) (fun u => mdlW I a u)) (va_A (mdlW I a x) sz)) ([.ref a.1, .int p1] : List Value).toArray s 0 0 (va_A (mdlW I a x) sz)) (F0 m 4 ls []) := by
    intro K4 hx5 n6
    induction n6 with
    | zero =>
      intro i2 i3 H locs ls hP hD hS hl hw
      exact hw.elim
    | succ n6 ihn6 =>
      intro i2 i3 H locs ls hP hD hS hl hw
      unfold qX3_leave_L4 at hw
      refine lv_iload_n hx hb dX3_leave_4 rfl (lv_at hl 1 rfl) ?_
      refine lv_aload_n hx hb dX3_leave_5 rfl (lv_at hl 2 rfl) ?_
      refine va_get (ci := 3) (v := .ref a.2.1) (C := RX3) (T := TX3) (N := 6) hx hb hts hiX3 hown hK.1 hP 0 rfl rfl 0 (by decide) f0 (fun _ h9 => h9) rfl dX3_leave_6 ?_
      refine lv_iconst (v := 1) hx hb dX3_leave_9 (by decide) ?_
      refine lv_iload_n hx hb dX3_leave_10 rfl (lv_at hl 0 rfl) ?_
      refine m0_i (mv_S (As := [.int 1, .int i2]) (rest := [.ref a.2.1, .int i3]) ⟨hx, hb, hml, hown, hts⟩ (kX3_volumeAt l D I O H.size 1 i2 _ hw) (va_cwS 2 hts gX3_leave_X3_volumeAt rfl rfl rfl hdSX3_volumeAt ⟨(Nat.le_of_ble_eq_true rfl), (Nat.le_of_ble_eq_true rfl)⟩) hK (nil_P (D := D) (H := H)) (nil_D (A := va_A (mdlW I a x) sz)) rfl hl.1 rfl (Nat.le_of_ble_eq_true rfl) dX3_leave_11 ⟨(Nat.le_of_ble_eq_true rfl), (Nat.le_of_ble_eq_true rfl)⟩) hP hD hS hA (fun r8 _ H locs hw hP hD hS => ?_)
      obtain ⟨h9, hw⟩ := hw
      refine va_iald hx hb hK.1 hP 3 0 rfl rfl h9 dX3_leave_14 ?_
      refine lv_icmp_lt (tgt := 37) hx hb dX3_leave_15 (by decide) (fun c10 => ?_) (fun c10 => ?_)
      · have hw := hw.1 c10
        exact hx5 i2 i3 H locs ls hP hD hS (lv_sub hl [0, 1, 2, 3] rfl) hw
      · have hw := hw.2 c10
        refine lv_iload_n hx hb dX3_leave_18 rfl (lv_at hl 1 rfl) ?_
        refine lv_aload_n hx hb dX3_leave_19 rfl (lv_at hl 2 rfl) ?_
        refine va_get (ci := 3) (v := .ref a.2.1) (C := RX3) (T := TX3) (N := 6) hx hb hts hiX3 hown hK.1 hP 0 rfl rfl 0 (by decide) f0 (fun _ h9 => h9) rfl dX3_leave_20 ?_
        refine lv_iconst (v := 1) hx hb dX3_leave_23 (by decide) ?_
        refine lv_iload_n hx hb dX3_leave_24 rfl (lv_at hl 0 rfl) ?_
        refine m0_i (mv_S (As := [.int 1, .int i2]) (rest := [.ref a.2.1, .int i3]) ⟨hx, hb, hml, hown, hts⟩ (kX3_volumeAt l D I O H.size 1 i2 _ hw) (va_cwS 2 hts gX3_leave_X3_volumeAt rfl rfl rfl hdSX3_volumeAt ⟨(Nat.le_of_ble_eq_true rfl), (Nat.le_of_ble_eq_true rfl)⟩) hK (nil_P (D := D) (H := H)) (nil_D (A := va_A (mdlW I a x) sz)) rfl hl.1 rfl (Nat.le_of_ble_eq_true rfl) dX3_leave_25 ⟨(Nat.le_of_ble_eq_true rfl), (Nat.le_of_ble_eq_true rfl)⟩) hP hD hS hA (fun r11 _ H locs hw hP hD hS => ?_)
        obtain ⟨h12, hw⟩ := hw
        refine va_iald hx hb hK.1 hP 3 0 rfl rfl h12 dX3_leave_28 ?_
        refine lv_isub hx hb dX3_leave_29 ?_
        refine lv_topi (fun v13 ev13 => ?_)
        have hw := hw v13 ev13
        refine lv_istore_n (lv' := [(2, .int v13), (3, .int i2), (0, .ref a.1), (1, .int p1)]) hx hb dX3_leave_30 rfl hl (by decide) rfl (fun ls hl => ?_)
        refine lv_iinc (v := i2 + 1) (lv' := [(3, .int (i2 + 1)), (2, .int v13), (0, .ref a.1), (1, .int p1)]) hx hb dX3_leave_31 hl (k := 1) rfl (congrArg (fun z => i2 + z) (show Int32.ofInt 1 = 1 from by decide)) (by decide) rfl (fun ls hl => ?_)
        refine lv_goto (tgt := 4) hx hb dX3_leave_34 (by decide) ?_
        exact ihn6 (i2 + 1) v13 H locs ls hP hD hS (lv_sub hl [0, 1, 2, 3] rfl) hw
  refine ky7 _ (fun i2 i3 H locs ls hP hD hS hl hw => ?_) n1 0 p1 H locs ls hP hD hS (lv_sub hl [0, 1, 2, 3] rfl) hw
  refine lv_aload_n hx hb dX3_leave_37 rfl (lv_at hl 2 rfl) ?_
  refine va_get (ci := 3) (v := .ref a.2.1) (C := RX3) (T := TX3) (N := 6) hx hb hts hiX3 hown hK.1 hP 0 rfl rfl 0 (by decide) f0 (fun _ h9 => h9) rfl dX3_leave_38 ?_
  refine lv_iconst (v := 1) hx hb dX3_leave_41 (by decide) ?_
  refine lv_iload_n hx hb dX3_leave_42 rfl (lv_at hl 0 rfl) ?_
  refine m0_i (mv_S (As := [.int 1, .int i2]) (rest := [.ref a.2.1]) ⟨hx, hb, hml, hown, hts⟩ (kX3_volumeAt l D I O H.size 1 i2 _ hw) (va_cwS 2 hts gX3_leave_X3_volumeAt rfl rfl rfl hdSX3_volumeAt ⟨(Nat.le_of_ble_eq_true rfl), (Nat.le_of_ble_eq_true rfl)⟩) hK (nil_P (D := D) (H := H)) (nil_D (A := va_A (mdlW I a x) sz)) rfl hl.1 rfl (Nat.le_of_ble_eq_true rfl) dX3_leave_43 ⟨(Nat.le_of_ble_eq_true rfl), (Nat.le_of_ble_eq_true rfl)⟩) hP hD hS hA (fun r14 _ H locs hw hP hD hS => ?_)
  refine lv_dup2_11 hx hb dX3_leave_46 rfl rfl ?_
  obtain ⟨h15, hw⟩ := hw
  refine va_iald hx hb hK.1 hP 3 0 rfl rfl h15 dX3_leave_47 ?_
  refine lv_iload_n hx hb dX3_leave_48 rfl (lv_at hl 1 rfl) ?_
  refine lv_isub hx hb dX3_leave_49 ?_
  obtain ⟨h16, hw⟩ := hw
  refine va_iast hx hb hK.1 hP hD hS 3 0 rfl rfl h16 dX3_leave_50 (fun H locs hP hD hS => ?_)
  have hP : va_P D vwCl (mdlW I a (upd (mN x) (Int32.toNatClampNeg r14) (((mN x) (Int32.toNatClampNeg r14)) - i3), mA x, mP x, mS x, mE x, mH x)) H := hP
  have hD : va_D (va_A (mdlW I a x) sz) (mdlW I a (upd (mN x) (Int32.toNatClampNeg r14) (((mN x) (Int32.toNatClampNeg r14)) - i3), mA x, mP x, mS x, mE x, mH x)) := hD
  refine lv_aload_n hx hb dX3_leave_51 rfl (lv_at hl 2 rfl) ?_
  refine va_get (ci := 3) (v := .ref a.2.1) (C := RX3) (T := TX3) (N := 6) hx hb hts hiX3 hown hK.1 hP 0 rfl rfl 0 (by decide) f0 (fun _ h9 => h9) rfl dX3_leave_52 ?_
  refine lv_bipush (v := 12) hx hb dX3_leave_55 (by decide) ?_
  refine lv_dup2_11 hx hb dX3_leave_57 rfl rfl ?_
  refine va_iald hx hb hK.1 hP 3 0 rfl rfl (vp_c 12 4416 (by decide)) dX3_leave_58 ?_
  refine lv_iload_n hx hb dX3_leave_59 rfl (lv_at hl 0 rfl) ?_
  refine lv_isub hx hb dX3_leave_60 ?_
  refine va_iast hx hb hK.1 hP hD hS 3 0 rfl rfl (vp_c 12 4416 (by decide)) dX3_leave_61 (fun H locs hP hD hS => ?_)
  have hP : va_P D vwCl (mdlW I a (upd (upd (mN x) (Int32.toNatClampNeg r14) (((mN x) (Int32.toNatClampNeg r14)) - i3)) (Int32.toNatClampNeg 12) (((upd (mN x) (Int32.toNatClampNeg r14) (((mN x) (Int32.toNatClampNeg r14)) - i3)) (Int32.toNatClampNeg 12)) - i2), mA x, mP x, mS x, mE x, mH x)) H := hP
  have hD : va_D (va_A (mdlW I a x) sz) (mdlW I a (upd (upd (mN x) (Int32.toNatClampNeg r14) (((mN x) (Int32.toNatClampNeg r14)) - i3)) (Int32.toNatClampNeg 12) (((upd (mN x) (Int32.toNatClampNeg r14) (((mN x) (Int32.toNatClampNeg r14)) - i3)) (Int32.toNatClampNeg 12)) - i2), mA x, mP x, mS x, mE x, mH x)) := hD
  refine lv_iconst (v := 0) hx hb dX3_leave_62 (by decide) ?_
  refine lv_istore (lv' := [(4, .int 0), (3, .int i2), (2, .int i3), (0, .ref a.1), (1, .int p1)]) hx hb dX3_leave_63 hl (by decide) rfl (fun ls hl => ?_)
  obtain ⟨n17, hw⟩ := hw
  have ky23 : ∀ (K20 : Int32 → Mod → Prop) (_ : ∀ (i18 : Int32) (w19 : Mod) (H : Heap) (locs : List Loc) (ls : Array Slot), va_P D vwCl (mdlW I a w19) H → va_D (va_A (mdlW I a x) sz) (mdlW I a w19) → va_S (va_A (mdlW I a x) sz) s.heap H locs → lv_has ls 5 [(4, .int i18), (3, .int i2), (2, .int i3), (0, .ref a.1), (1, .int p1)] → K20 i18 w19 → W p l e rX3_leave s m ([.ref a.1, .int p1] : List Value).toArray below meth c H locs 0 0 (MQ below (va_Qv (fun (u : Mod) => Q u) (mB D (va_A (mdlW I a x) sz) (fun u => mdlW I a u)) (va_A (mdlW I a x) sz)) ([.ref a.1, .int p1] : List Value).toArray s 0 0 (va_A (mdlW I a x) sz)) (F0 m 135 ls [])) (n22 : Nat) (i18 : Int32) (w19 : Mod) (H : Heap) (locs : List Loc) (ls : Array Slot), va_P D vwCl (mdlW I a w19) H → va_D (va_A (mdlW I a x) sz) (mdlW I a w19) → va_S (va_A (mdlW I a x) sz) s.heap H locs → lv_has ls 5 [(4, .int i18), (3, .int i2), (2, .int i3), (0, .ref a.1), (1, .int p1)] → qX3_leave_L65 i2 K20 n22 i18 w19 → W p l e rX3_leave s m ([.ref a.1, .int p1] : List Value).toArray below meth c H locs 0 0 (MQ below (va_Qv (fun (u : Mod) => Q u) (mB D (va_A (mdlW I a x) sz) (fun u => mdlW I a u)) (va_A (mdlW I a x) sz)) ([.ref a.1, .int p1] : List Value).toArray s 0 0 (va_A (mdlW I a x) sz)) (F0 m 65 ls []) := by
    intro K20 hx21 n22
    induction n22 with
    | zero =>
      intro i18 w19 H locs ls hP hD hS hl hw
      exact hw.elim
    | succ n22 ihn22 =>
      intro i18 w19 H locs ls hP hD hS hl hw
      unfold qX3_leave_L65 at hw
      refine lv_iload hx hb dX3_leave_65 (lv_at hl 0 rfl) ?_
      refine lv_aload_n hx hb dX3_leave_67 rfl (lv_at hl 3 rfl) ?_
      refine va_get (ci := 3) (v := .ref a.2.1) (C := RX3) (T := TX3) (N := 6) hx hb hts hiX3 hown hK.1 hP 0 rfl rfl 0 (by decide) f0 (fun _ h9 => h9) rfl dX3_leave_68 ?_
      refine lv_bipush (v := 12) hx hb dX3_leave_71 (by decide) ?_
      refine va_iald hx hb hK.1 hP 3 0 rfl rfl (vp_c 12 4416 (by decide)) dX3_leave_73 ?_
      refine lv_icmp_ge (tgt := 135) hx hb dX3_leave_74 (by decide) (fun c24 => ?_) (fun c24 => ?_)
      · have hw := hw.1 c24
        exact hx21 i18 w19 H locs ls hP hD hS (lv_sub hl [0, 1, 2, 3, 4] rfl) hw
      · have hw := hw.2 c24
        refine lv_iload_n hx hb dX3_leave_77 rfl (lv_at hl 1 rfl) ?_
        refine lv_if_le (tgt := 135) hx hb dX3_leave_78 (by decide) (fun c25 => ?_) (fun c25 => ?_)
        · have hw := hw.1 c25
          exact hx21 i18 w19 H locs ls hP hD hS (lv_sub hl [0, 1, 2, 3, 4] rfl) hw
        · have hw := hw.2 c25
          refine lv_aload_n hx hb dX3_leave_81 rfl (lv_at hl 3 rfl) ?_
          refine va_get (ci := 3) (v := .ref a.2.1) (C := RX3) (T := TX3) (N := 6) hx hb hts hiX3 hown hK.1 hP 0 rfl rfl 0 (by decide) f0 (fun _ h9 => h9) rfl dX3_leave_82 ?_
          refine lv_iconst (v := 1) hx hb dX3_leave_85 (by decide) ?_
          refine lv_iload hx hb dX3_leave_86 (lv_at hl 0 rfl) ?_
          refine m0_i (mv_S (As := [.int 1, .int i18]) (rest := [.ref a.2.1]) ⟨hx, hb, hml, hown, hts⟩ (kX3_volumeAt l D I O H.size 1 i18 _ hw) (va_cwS 2 hts gX3_leave_X3_volumeAt rfl rfl rfl hdSX3_volumeAt ⟨(Nat.le_of_ble_eq_true rfl), (Nat.le_of_ble_eq_true rfl)⟩) hK (nil_P (D := D) (H := H)) (nil_D (A := va_A (mdlW I a x) sz)) rfl hl.1 rfl (Nat.le_of_ble_eq_true rfl) dX3_leave_88 ⟨(Nat.le_of_ble_eq_true rfl), (Nat.le_of_ble_eq_true rfl)⟩) hP hD hS hA (fun r26 _ H locs hw hP hD hS => ?_)
          refine lv_aload_n hx hb dX3_leave_91 rfl (lv_at hl 3 rfl) ?_
          refine va_get (ci := 3) (v := .ref a.2.1) (C := RX3) (T := TX3) (N := 6) hx hb hts hiX3 hown hK.1 hP 0 rfl rfl 0 (by decide) f0 (fun _ h9 => h9) rfl dX3_leave_92 ?_
          refine lv_iconst (v := 1) hx hb dX3_leave_95 (by decide) ?_
          refine lv_iload hx hb dX3_leave_96 (lv_at hl 0 rfl) ?_
          refine lv_iload_n hx hb dX3_leave_98 rfl (lv_at hl 1 rfl) ?_
          refine lv_iadd hx hb dX3_leave_99 ?_
          refine m0_i (mv_S (As := [.int 1, .int (i18 + i2)]) (rest := [.ref a.2.1, .int r26, .ref a.2.1]) ⟨hx, hb, hml, hown, hts⟩ (kX3_volumeAt l D I O H.size 1 (i18 + i2) _ hw) (va_cwS 2 hts gX3_leave_X3_volumeAt rfl rfl rfl hdSX3_volumeAt ⟨(Nat.le_of_ble_eq_true rfl), (Nat.le_of_ble_eq_true rfl)⟩) hK (nil_P (D := D) (H := H)) (nil_D (A := va_A (mdlW I a x) sz)) rfl hl.1 rfl (Nat.le_of_ble_eq_true rfl) dX3_leave_100 ⟨(Nat.le_of_ble_eq_true rfl), (Nat.le_of_ble_eq_true rfl)⟩) hP hD hS hA (fun r27 _ H locs hw hP hD hS => ?_)
          obtain ⟨h28, hw⟩ := hw
          refine va_iald hx hb hK.1 hP 3 0 rfl rfl h28 dX3_leave_103 ?_
          obtain ⟨h29, hw⟩ := hw
          refine va_iast hx hb hK.1 hP hD hS 3 0 rfl rfl h29 dX3_leave_104 (fun H locs hP hD hS => ?_)
          have hP : va_P D vwCl (mdlW I a (upd (mN w19) (Int32.toNatClampNeg r26) ((mN w19) (Int32.toNatClampNeg r27)), mA w19, mP w19, mS w19, mE w19, mH w19)) H := hP
          have hD : va_D (va_A (mdlW I a x) sz) (mdlW I a (upd (mN w19) (Int32.toNatClampNeg r26) ((mN w19) (Int32.toNatClampNeg r27)), mA w19, mP w19, mS w19, mE w19, mH w19)) := hD
          refine lv_aload_n hx hb dX3_leave_105 rfl (lv_at hl 3 rfl) ?_
          refine va_get (ci := 3) (v := .ref a.2.1) (C := RX3) (T := TX3) (N := 6) hx hb hts hiX3 hown hK.1 hP 0 rfl rfl 0 (by decide) f0 (fun _ h9 => h9) rfl dX3_leave_106 ?_
          refine lv_iconst (v := 1) hx hb dX3_leave_109 (by decide) ?_
          refine lv_iload hx hb dX3_leave_110 (lv_at hl 0 rfl) ?_
          refine m0_i (mv_S (As := [.int 1, .int i18]) (rest := [.ref a.2.1]) ⟨hx, hb, hml, hown, hts⟩ (kX3_densityAt l D I O H.size 1 i18 _ hw) (va_cwS 2 hts gX3_leave_X3_densityAt rfl rfl rfl hdSX3_densityAt ⟨(Nat.le_of_ble_eq_true rfl), (Nat.le_of_ble_eq_true rfl)⟩) hK (nil_P (D := D) (H := H)) (nil_D (A := va_A (mdlW I a x) sz)) rfl hl.1 rfl (Nat.le_of_ble_eq_true rfl) dX3_leave_112 ⟨(Nat.le_of_ble_eq_true rfl), (Nat.le_of_ble_eq_true rfl)⟩) hP hD hS hA (fun r30 _ H locs hw hP hD hS => ?_)
          refine lv_aload_n hx hb dX3_leave_115 rfl (lv_at hl 3 rfl) ?_
          refine va_get (ci := 3) (v := .ref a.2.1) (C := RX3) (T := TX3) (N := 6) hx hb hts hiX3 hown hK.1 hP 0 rfl rfl 0 (by decide) f0 (fun _ h9 => h9) rfl dX3_leave_116 ?_
          refine lv_iconst (v := 1) hx hb dX3_leave_119 (by decide) ?_
          refine lv_iload hx hb dX3_leave_120 (lv_at hl 0 rfl) ?_
          refine lv_iload_n hx hb dX3_leave_122 rfl (lv_at hl 1 rfl) ?_
          refine lv_iadd hx hb dX3_leave_123 ?_
          refine m0_i (mv_S (As := [.int 1, .int (i18 + i2)]) (rest := [.ref a.2.1, .int r30, .ref a.2.1]) ⟨hx, hb, hml, hown, hts⟩ (kX3_densityAt l D I O H.size 1 (i18 + i2) _ hw) (va_cwS 2 hts gX3_leave_X3_densityAt rfl rfl rfl hdSX3_densityAt ⟨(Nat.le_of_ble_eq_true rfl), (Nat.le_of_ble_eq_true rfl)⟩) hK (nil_P (D := D) (H := H)) (nil_D (A := va_A (mdlW I a x) sz)) rfl hl.1 rfl (Nat.le_of_ble_eq_true rfl) dX3_leave_124 ⟨(Nat.le_of_ble_eq_true rfl), (Nat.le_of_ble_eq_true rfl)⟩) hP hD hS hA (fun r31 _ H locs hw hP hD hS => ?_)
          obtain ⟨h32, hw⟩ := hw
          refine va_iald hx hb hK.1 hP 3 0 rfl rfl h32 dX3_leave_127 ?_
          obtain ⟨h33, hw⟩ := hw
          refine va_iast hx hb hK.1 hP hD hS 3 0 rfl rfl h33 dX3_leave_128 (fun H locs hP hD hS => ?_)
          have hP : va_P D vwCl (mdlW I a (upd (upd (mN w19) (Int32.toNatClampNeg r26) ((mN w19) (Int32.toNatClampNeg r27))) (Int32.toNatClampNeg r30) ((upd (mN w19) (Int32.toNatClampNeg r26) ((mN w19) (Int32.toNatClampNeg r27))) (Int32.toNatClampNeg r31)), mA w19, mP w19, mS w19, mE w19, mH w19)) H := hP
          have hD : va_D (va_A (mdlW I a x) sz) (mdlW I a (upd (upd (mN w19) (Int32.toNatClampNeg r26) ((mN w19) (Int32.toNatClampNeg r27))) (Int32.toNatClampNeg r30) ((upd (mN w19) (Int32.toNatClampNeg r26) ((mN w19) (Int32.toNatClampNeg r27))) (Int32.toNatClampNeg r31)), mA w19, mP w19, mS w19, mE w19, mH w19)) := hD
          refine lv_iinc (v := i18 + 1) (lv' := [(4, .int (i18 + 1)), (3, .int i2), (2, .int i3), (0, .ref a.1), (1, .int p1)]) hx hb dX3_leave_129 hl (k := 0) rfl (congrArg (fun z => i18 + z) (show Int32.ofInt 1 = 1 from by decide)) (by decide) rfl (fun ls hl => ?_)
          refine lv_goto (tgt := 65) hx hb dX3_leave_132 (by decide) ?_
          exact ihn22 (i18 + 1) (upd (upd (mN w19) (Int32.toNatClampNeg r26) ((mN w19) (Int32.toNatClampNeg r27))) (Int32.toNatClampNeg r30) ((upd (mN w19) (Int32.toNatClampNeg r26) ((mN w19) (Int32.toNatClampNeg r27))) (Int32.toNatClampNeg r31)), mA w19, mP w19, mS w19, mE w19, mH w19) H locs ls hP hD hS (lv_sub hl [0, 1, 2, 3, 4] rfl) hw
  refine ky23 _ (fun i18 w19 H locs ls hP hD hS hl hw => ?_) n17 0 (upd (upd (mN x) (Int32.toNatClampNeg r14) (((mN x) (Int32.toNatClampNeg r14)) - i3)) (Int32.toNatClampNeg 12) (((upd (mN x) (Int32.toNatClampNeg r14) (((mN x) (Int32.toNatClampNeg r14)) - i3)) (Int32.toNatClampNeg 12)) - i2), mA x, mP x, mS x, mE x, mH x) H locs ls hP hD hS (lv_sub hl [0, 1, 2, 3, 4] rfl) hw
  exact m_vret (u := w19) hx hb hr hlocks hS hP hD dX3_leave_135 hw
def qX3_pumpMud (x : Mod) (p1 : Int32) (p2 : Int32) (Q : Mod → Prop) : Prop := (qX3_putOnTop x p1 p2 (fun u1 => (qX3_passOver u1 p1 (fun u2 => (qX3_leave u2 p1 (fun u3 => Q u3))))))
set_option maxHeartbeats 4000000 in
set_option maxRecDepth 100000 in
theorem kX3_pumpMud (l : Launch) (D : va_G) (I O : ClassId) (a : MA) (sz : Nat) (x : Mod) (p1 : Int32) (p2 : Int32) (Q : Mod → Prop) (hw : qX3_pumpMud x p1 p2 Q) : Met l yX3_pumpMud wsX3_pumpMud rX3_pumpMud (mPc D I O [.ref a.1, .int p1, .int p2] (mdlW I a x) sz) (va_Qv (fun (u : Mod) => Q u) (mB D (va_A (mdlW I a x) sz) (fun u => mdlW I a u)) (va_A (mdlW I a x) sz)) 0 0 (va_A (mdlW I a x) sz) := by
  refine m_start (by decide) rfl (Nat.le_of_ble_eq_true rfl) (fun p e s m below meth c ls H locs hx hb hr hml hts hown hlocks hnm hK hP hD hA hS hl => ?_)
  have hown : s.vm.findClass RX3 = some m.cls := hown
  have hl : lv_has ls 3 [(0, .ref a.1), (1, .int p1), (2, .int p2)] := hl
  unfold qX3_pumpMud at hw
  refine lv_aload_n hx hb dX3_pumpMud_0 rfl (lv_at hl 0 rfl) ?_
  refine lv_iload_n hx hb dX3_pumpMud_1 rfl (lv_at hl 1 rfl) ?_
  refine lv_iload_n hx hb dX3_pumpMud_2 rfl (lv_at hl 2 rfl) ?_
  refine mw_v (mv_V (As := [.int p1, .int p2]) (rest := []) ⟨hx, hb, hml, hown, hts⟩ (kX3_putOnTop l D I O a H.size x p1 p2 _ hw) (cwV 2 hts gX3_pumpMud_X3_putOnTop rfl rfl rfl hdVX3_putOnTop ⟨(Nat.le_of_ble_eq_true rfl), (Nat.le_of_ble_eq_true rfl)⟩) hK hP hD 0 3 rfl rfl rfl rfl hl.1 rfl (Nat.le_of_ble_eq_true rfl) dX3_pumpMud_3 ⟨(Nat.le_of_ble_eq_true rfl), (Nat.le_of_ble_eq_true rfl)⟩) hP hD hS hA (fun u1 H locs hw hP hD hS => ?_)
  have hP : va_P D vwCl (mdlW I a u1) H := hP
  have hD : va_D (va_A (mdlW I a x) sz) (mdlW I a u1) := hD
  refine lv_aload_n hx hb dX3_pumpMud_6 rfl (lv_at hl 0 rfl) ?_
  refine lv_iload_n hx hb dX3_pumpMud_7 rfl (lv_at hl 1 rfl) ?_
  refine mw_v (mv_V (As := [.int p1]) (rest := []) ⟨hx, hb, hml, hown, hts⟩ (kX3_passOver l D I O a H.size u1 p1 _ hw) (cwV 1 hts gX3_pumpMud_X3_passOver rfl rfl rfl hdVX3_passOver ⟨(Nat.le_of_ble_eq_true rfl), (Nat.le_of_ble_eq_true rfl)⟩) hK hP hD 0 3 rfl rfl rfl rfl hl.1 rfl (Nat.le_of_ble_eq_true rfl) dX3_pumpMud_8 ⟨(Nat.le_of_ble_eq_true rfl), (Nat.le_of_ble_eq_true rfl)⟩) hP hD hS hA (fun u2 H locs hw hP hD hS => ?_)
  have hP : va_P D vwCl (mdlW I a u2) H := hP
  have hD : va_D (va_A (mdlW I a x) sz) (mdlW I a u2) := hD
  refine lv_aload_n hx hb dX3_pumpMud_11 rfl (lv_at hl 0 rfl) ?_
  refine lv_iload_n hx hb dX3_pumpMud_12 rfl (lv_at hl 1 rfl) ?_
  refine mw_v (mv_V (As := [.int p1]) (rest := []) ⟨hx, hb, hml, hown, hts⟩ (kX3_leave l D I O a H.size u2 p1 _ hw) (cwV 1 hts gX3_pumpMud_X3_leave rfl rfl rfl hdVX3_leave ⟨(Nat.le_of_ble_eq_true rfl), (Nat.le_of_ble_eq_true rfl)⟩) hK hP hD 0 3 rfl rfl rfl rfl hl.1 rfl (Nat.le_of_ble_eq_true rfl) dX3_pumpMud_13 ⟨(Nat.le_of_ble_eq_true rfl), (Nat.le_of_ble_eq_true rfl)⟩) hP hD hS hA (fun u3 H locs hw hP hD hS => ?_)
  have hP : va_P D vwCl (mdlW I a u3) H := hP
  have hD : va_D (va_A (mdlW I a x) sz) (mdlW I a u3) := hD
  exact m_vret (u := u3) hx hb hr hlocks hS hP hD dX3_pumpMud_16 hw
