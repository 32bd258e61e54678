def qX3_fill (x : Mod) (Q : Mod → Prop) : Prop := (qX3_volumeAt 0 0 (fun r2 => (qX3_volumeOf (upd (mN x) (Int32.toNatClampNeg 11) 1, mA x, mP x, mS x, mE x, mH x) 0 (fun r3 => (vp_in r2 4416 ∧ (qX3_densityAt 0 0 (fun r5 => (vp_in r5 4416 ∧ (qX3_volumeAt 1 0 (fun r8 => (qX3_volumeOf (upd (upd (upd (upd (mN x) (Int32.toNatClampNeg 11) 1) (Int32.toNatClampNeg r2) r3) (Int32.toNatClampNeg r5) ((upd (upd (mN x) (Int32.toNatClampNeg 11) 1) (Int32.toNatClampNeg r2) r3) (Int32.toNatClampNeg 4))) (Int32.toNatClampNeg 12) 1, mA x, mP x, mS x, mE x, mH x) 1 (fun r9 => (vp_in r8 4416 ∧ (qX3_densityAt 1 0 (fun r11 => (vp_in r11 4416 ∧ Q (upd (upd (upd (upd (upd (upd (upd (upd (upd (mN x) (Int32.toNatClampNeg 11) 1) (Int32.toNatClampNeg r2) r3) (Int32.toNatClampNeg r5) ((upd (upd (mN x) (Int32.toNatClampNeg 11) 1) (Int32.toNatClampNeg r2) r3) (Int32.toNatClampNeg 4))) (Int32.toNatClampNeg 12) 1) (Int32.toNatClampNeg r8) r9) (Int32.toNatClampNeg r11) ((upd (upd (upd (upd (upd (mN x) (Int32.toNatClampNeg 11) 1) (Int32.toNatClampNeg r2) r3) (Int32.toNatClampNeg r5) ((upd (upd (mN x) (Int32.toNatClampNeg 11) 1) (Int32.toNatClampNeg r2) r3) (Int32.toNatClampNeg 4))) (Int32.toNatClampNeg 12) 1) (Int32.toNatClampNeg r8) r9) (Int32.toNatClampNeg 4))) (Int32.toNatClampNeg 8) 0) (Int32.toNatClampNeg 9) 0) (Int32.toNatClampNeg 10) 0, mA x, mP x, mS x, mE x, mH x)))))))))))))))))
set_option maxHeartbeats 4000000 in
set_option maxRecDepth 100000 in
theorem kX3_fill (l : Launch) (D : va_G) (I O : ClassId) (a : MA) (sz : Nat) (x : Mod) (Q : Mod → Prop) (hw : qX3_fill x Q) : Met l yX3_fill wsX3_fill rX3_fill (mPc D I O [.ref a.1] (mdlW I a x) sz) (va_Qv (fun (u : Mod) => Q u) (mB D (va_A (mdlW I a x) sz) (fun u => mdlW I a u)) (va_A (mdlW I a x) sz)) 0 0 (va_A (mdlW I a x) sz) := by
  refine m_start (by decide) rfl (Nat.le_of_ble_eq_true rfl) (fun p e s m below meth c ls H locs hx hb hr hml hts hown hlocks hnm hK hP hD hA hS hl => ?_)
  have hown : s.vm.findClass RX3 = some m.cls := hown
  have hl : lv_has ls 2 [(0, .ref a.1)] := hl
  have hiX3 : ∀ w ∈ wsX30, w ∈ wsX3_fill := by decide +kernel
  have f0 := hts (.fieldLink RX3 7 "WellControlModel" "now" "[I") (by decide +kernel)
  unfold qX3_fill at hw
  refine lv_iconst (v := 0) hx hb dX3_fill_0 (by decide) ?_
  refine lv_istore_n (lv' := [(1, .int 0), (0, .ref a.1)]) hx hb dX3_fill_1 rfl hl (by decide) rfl (fun ls hl => ?_)
  refine lv_iload_n hx hb dX3_fill_2 rfl (lv_at hl 0 rfl) ?_
  refine lv_iconst (v := 2) hx hb dX3_fill_3 (by decide) ?_
  refine lv_icmp_ge (tgt := 54) hx hb dX3_fill_4 (by decide) (fun c1 => ?_) (fun c1 => ?_)
  · exact absurd c1 (show ¬ ((2 : Int32) ≤ (0 : Int32)) from by decide)
  · refine lv_aload_n hx hb dX3_fill_7 rfl (lv_at hl 1 rfl) ?_
    refine va_get (ci := 3) (v := .ref a.2.1) (C := RX3) (T := TX3) (N := 6) hx hb hts hiX3 hown hK.1 hP 0 rfl rfl 0 (by decide) f0 (fun _ h9 => h9) rfl dX3_fill_8 ?_
    refine lv_bipush (v := 11) hx hb dX3_fill_11 (by decide) ?_
    refine lv_iload_n hx hb dX3_fill_13 rfl (lv_at hl 0 rfl) ?_
    refine lv_iadd hx hb dX3_fill_14 ?_
    rw [show ((11 : Int32) + 0) = 11 from by decide]
    refine lv_iconst (v := 1) hx hb dX3_fill_15 (by decide) ?_
    refine va_iast hx hb hK.1 hP hD hS 3 0 rfl rfl (vp_c 11 4416 (by decide)) dX3_fill_16 (fun H locs hP hD hS => ?_)
    have hP : va_P D vwCl (mdlW I a (upd (mN x) (Int32.toNatClampNeg 11) 1, mA x, mP x, mS x, mE x, mH x)) H := hP
    have hD : va_D (va_A (mdlW I a x) sz) (mdlW I a (upd (mN x) (Int32.toNatClampNeg 11) 1, mA x, mP x, mS x, mE x, mH x)) := hD
    refine lv_aload_n hx hb dX3_fill_17 rfl (lv_at hl 1 rfl) ?_
    refine va_get (ci := 3) (v := .ref a.2.1) (C := RX3) (T := TX3) (N := 6) hx hb hts hiX3 hown hK.1 hP 0 rfl rfl 0 (by decide) f0 (fun _ h9 => h9) rfl dX3_fill_18 ?_
    refine lv_iload_n hx hb dX3_fill_21 rfl (lv_at hl 0 rfl) ?_
    refine lv_iconst (v := 0) hx hb dX3_fill_22 (by decide) ?_
    refine m0_i (mv_S (As := [.int 0, .int 0]) (rest := [.ref a.2.1]) ⟨hx, hb, hml, hown, hts⟩ (kX3_volumeAt l D I O H.size 0 0 _ hw) (va_cwS 2 hts gX3_fill_X3_volumeAt rfl rfl rfl hdSX3_volumeAt ⟨(Nat.le_of_ble_eq_true rfl), (Nat.le_of_ble_eq_true rfl)⟩) hK (nil_P (D := D) (H := H)) (nil_D (A := va_A (mdlW I a x) sz)) rfl hl.1 rfl (Nat.le_of_ble_eq_true rfl) dX3_fill_23 ⟨(Nat.le_of_ble_eq_true rfl), (Nat.le_of_ble_eq_true rfl)⟩) hP hD hS hA (fun r2 _ H locs hw hP hD hS => ?_)
    refine lv_aload_n hx hb dX3_fill_26 rfl (lv_at hl 1 rfl) ?_
    refine lv_iload_n hx hb dX3_fill_27 rfl (lv_at hl 0 rfl) ?_
    refine mw_i (mv_V (As := [.int 0]) (rest := [.int r2, .ref a.2.1]) ⟨hx, hb, hml, hown, hts⟩ (kX3_volumeOf l D I O a H.size (upd (mN x) (Int32.toNatClampNeg 11) 1, mA x, mP x, mS x, mE x, mH x) 0 _ hw) (cwV 1 hts gX3_fill_X3_volumeOf rfl rfl rfl hdVX3_volumeOf ⟨(Nat.le_of_ble_eq_true rfl), (Nat.le_of_ble_eq_true rfl)⟩) hK hP hD 0 3 rfl rfl rfl rfl hl.1 rfl (Nat.le_of_ble_eq_true rfl) dX3_fill_28 ⟨(Nat.le_of_ble_eq_true rfl), (Nat.le_of_ble_eq_true rfl)⟩) hP hD hS hA (fun r3 _ H locs hw hP hD hS => ?_)
    have hP : va_P D vwCl (mdlW I a (upd (mN x) (Int32.toNatClampNeg 11) 1, mA x, mP x, mS x, mE x, mH x)) H := hP
    have hD : va_D (va_A (mdlW I a x) sz) (mdlW I a (upd (mN x) (Int32.toNatClampNeg 11) 1, mA x, mP x, mS x, mE x, mH x)) := hD
    obtain ⟨h4, hw⟩ := hw
    refine va_iast hx hb hK.1 hP hD hS 3 0 rfl rfl h4 dX3_fill_31 (fun H locs hP hD hS => ?_)
    have hP : va_P D vwCl (mdlW I a (upd (upd (mN x) (Int32.toNatClampNeg 11) 1) (Int32.toNatClampNeg r2) r3, mA x, mP x, mS x, mE x, mH x)) H := hP
    have hD : va_D (va_A (mdlW I a x) sz) (mdlW I a (upd (upd (mN x) (Int32.toNatClampNeg 11) 1) (Int32.toNatClampNeg r2) r3, mA x, mP x, mS x, mE x, mH x)) := hD
    refine lv_aload_n hx hb dX3_fill_32 rfl (lv_at hl 1 rfl) ?_
    refine va_get (ci := 3) (v := .ref a.2.1) (C := RX3) (T := TX3) (N := 6) hx hb hts hiX3 hown hK.1 hP 0 rfl rfl 0 (by decide) f0 (fun _ h9 => h9) rfl dX3_fill_33 ?_
    refine lv_iload_n hx hb dX3_fill_36 rfl (lv_at hl 0 rfl) ?_
    refine lv_iconst (v := 0) hx hb dX3_fill_37 (by decide) ?_
    refine m0_i (mv_S (As := [.int 0, .int 0]) (rest := [.ref a.2.1]) ⟨hx, hb, hml, hown, hts⟩ (kX3_densityAt l D I O H.size 0 0 _ hw) (va_cwS 2 hts gX3_fill_X3_densityAt rfl rfl rfl hdSX3_densityAt ⟨(Nat.le_of_ble_eq_true rfl), (Nat.le_of_ble_eq_true rfl)⟩) hK (nil_P (D := D) (H := H)) (nil_D (A := va_A (mdlW I a x) sz)) rfl hl.1 rfl (Nat.le_of_ble_eq_true rfl) dX3_fill_38 ⟨(Nat.le_of_ble_eq_true rfl), (Nat.le_of_ble_eq_true rfl)⟩) hP hD hS hA (fun r5 _ H locs hw hP hD hS => ?_)
    refine lv_aload_n hx hb dX3_fill_41 rfl (lv_at hl 1 rfl) ?_
    refine va_get (ci := 3) (v := .ref a.2.1) (C := RX3) (T := TX3) (N := 6) hx hb hts hiX3 hown hK.1 hP 0 rfl rfl 0 (by decide) f0 (fun _ h9 => h9) rfl dX3_fill_42 ?_
    refine lv_iconst (v := 4) hx hb dX3_fill_45 (by decide) ?_
    refine va_iald hx hb hK.1 hP 3 0 rfl rfl (vp_c 4 4416 (by decide)) dX3_fill_46 ?_
    obtain ⟨h6, hw⟩ := hw
    refine va_iast hx hb hK.1 hP hD hS 3 0 rfl rfl h6 dX3_fill_47 (fun H locs hP hD hS => ?_)
    have hP : va_P D vwCl (mdlW I a (upd (upd (upd (mN x) (Int32.toNatClampNeg 11) 1) (Int32.toNatClampNeg r2) r3) (Int32.toNatClampNeg r5) ((upd (upd (mN x) (Int32.toNatClampNeg 11) 1) (Int32.toNatClampNeg r2) r3) (Int32.toNatClampNeg 4)), mA x, mP x, mS x, mE x, mH x)) H := hP
    have hD : va_D (va_A (mdlW I a x) sz) (mdlW I a (upd (upd (upd (mN x) (Int32.toNatClampNeg 11) 1) (Int32.toNatClampNeg r2) r3) (Int32.toNatClampNeg r5) ((upd (upd (mN x) (Int32.toNatClampNeg 11) 1) (Int32.toNatClampNeg r2) r3) (Int32.toNatClampNeg 4)), mA x, mP x, mS x, mE x, mH x)) := hD
    refine lv_iinc (v := 1) (lv' := [(1, .int 1), (0, .ref a.1)]) hx hb dX3_fill_48 hl (k := 0) rfl (by decide) (by decide) rfl (fun ls hl => ?_)
    refine lv_goto (tgt := 2) hx hb dX3_fill_51 (by decide) ?_
    refine lv_iload_n hx hb dX3_fill_2 rfl (lv_at hl 0 rfl) ?_
    refine lv_iconst (v := 2) hx hb dX3_fill_3 (by decide) ?_
    refine lv_icmp_ge (tgt := 54) hx hb dX3_fill_4 (by decide) (fun c7 => ?_) (fun c7 => ?_)
    · exact absurd c7 (show ¬ ((2 : Int32) ≤ (1 : Int32)) from by decide)
    · refine lv_aload_n hx hb dX3_fill_7 rfl (lv_at hl 1 rfl) ?_
      refine va_get (ci := 3) (v := .ref a.2.1) (C := RX3) (T := TX3) (N := 6) hx hb hts hiX3 hown hK.1 hP 0 rfl rfl 0 (by decide) f0 (fun _ h9 => h9) rfl dX3_fill_8 ?_
      refine lv_bipush (v := 11) hx hb dX3_fill_11 (by decide) ?_
      refine lv_iload_n hx hb dX3_fill_13 rfl (lv_at hl 0 rfl) ?_
      refine lv_iadd hx hb dX3_fill_14 ?_
      rw [show ((11 : Int32) + 1) = 12 from by decide]
      refine lv_iconst (v := 1) hx hb dX3_fill_15 (by decide) ?_
      refine va_iast hx hb hK.1 hP hD hS 3 0 rfl rfl (vp_c 12 4416 (by decide)) dX3_fill_16 (fun H locs hP hD hS => ?_)
      have hP : va_P D vwCl (mdlW I a (upd (upd (upd (upd (mN x) (Int32.toNatClampNeg 11) 1) (Int32.toNatClampNeg r2) r3) (Int32.toNatClampNeg r5) ((upd (upd (mN x) (Int32.toNatClampNeg 11) 1) (Int32.toNatClampNeg r2) r3) (Int32.toNatClampNeg 4))) (Int32.toNatClampNeg 12) 1, mA x, mP x, mS x, mE x, mH x)) H := hP
      have hD : va_D (va_A (mdlW I a x) sz) (mdlW I a (upd (upd (upd (upd (mN x) (Int32.toNatClampNeg 11) 1) (Int32.toNatClampNeg r2) r3) (Int32.toNatClampNeg r5) ((upd (upd (mN x) (Int32.toNatClampNeg 11) 1) (Int32.toNatClampNeg r2) r3) (Int32.toNatClampNeg 4))) (Int32.toNatClampNeg 12) 1, mA x, mP x, mS x, mE x, mH x)) := hD
      refine lv_aload_n hx hb dX3_fill_17 rfl (lv_at hl 1 rfl) ?_
      refine va_get (ci := 3) (v := .ref a.2.1) (C := RX3) (T := TX3) (N := 6) hx hb hts hiX3 hown hK.1 hP 0 rfl rfl 0 (by decide) f0 (fun _ h9 => h9) rfl dX3_fill_18 ?_
      refine lv_iload_n hx hb dX3_fill_21 rfl (lv_at hl 0 rfl) ?_
      refine lv_iconst (v := 0) hx hb dX3_fill_22 (by decide) ?_
      refine m0_i (mv_S (As := [.int 1, .int 0]) (rest := [.ref a.2.1]) ⟨hx, hb, hml, hown, hts⟩ (kX3_volumeAt l D I O H.size 1 0 _ hw) (va_cwS 2 hts gX3_fill_X3_volumeAt rfl rfl rfl hdSX3_volumeAt ⟨(Nat.le_of_ble_eq_true rfl), (Nat.le_of_ble_eq_true rfl)⟩) hK (nil_P (D := D) (H := H)) (nil_D (A := va_A (mdlW I a x) sz)) rfl hl.1 rfl (Nat.le_of_ble_eq_true rfl) dX3_fill_23 ⟨(Nat.le_of_ble_eq_true rfl), (Nat.le_of_ble_eq_true rfl)⟩) hP hD hS hA (fun r8 _ H locs hw hP hD hS => ?_)
      refine lv_aload_n hx hb dX3_fill_26 rfl (lv_at hl 1 rfl) ?_
      refine lv_iload_n hx hb dX3_fill_27 rfl (lv_at hl 0 rfl) ?_
      refine mw_i (mv_V (As := [.int 1]) (rest := [.int r8, .ref a.2.1]) ⟨hx, hb, hml, hown, hts⟩ (kX3_volumeOf l D I O a H.size (upd (upd (upd (upd (mN x) (Int32.toNatClampNeg 11) 1) (Int32.toNatClampNeg r2) r3) (Int32.toNatClampNeg r5) ((upd (upd (mN x) (Int32.toNatClampNeg 11) 1) (Int32.toNatClampNeg r2) r3) (Int32.toNatClampNeg 4))) (Int32.toNatClampNeg 12) 1, mA x, mP x, mS x, mE x, mH x) 1 _ hw) (cwV 1 hts gX3_fill_X3_volumeOf rfl rfl rfl hdVX3_volumeOf ⟨(Nat.le_of_ble_eq_true rfl), (Nat.le_of_ble_eq_true rfl)⟩) hK hP hD 0 3 rfl rfl rfl rfl hl.1 rfl (Nat.le_of_ble_eq_true rfl) dX3_fill_28 ⟨(Nat.le_of_ble_eq_true rfl), (Nat.le_of_ble_eq_true rfl)⟩) hP hD hS hA (fun r9 _ H locs hw hP hD hS => ?_)
      have hP : va_P D vwCl (mdlW I a (upd (upd (upd (upd (mN x) (Int32.toNatClampNeg 11) 1) (Int32.toNatClampNeg r2) r3) (Int32.toNatClampNeg r5) ((upd (upd (mN x) (Int32.toNatClampNeg 11) 1) (Int32.toNatClampNeg r2) r3) (Int32.toNatClampNeg 4))) (Int32.toNatClampNeg 12) 1, mA x, mP x, mS x, mE x, mH x)) H := hP
      have hD : va_D (va_A (mdlW I a x) sz) (mdlW I a (upd (upd (upd (upd (mN x) (Int32.toNatClampNeg 11) 1) (Int32.toNatClampNeg r2) r3) (Int32.toNatClampNeg r5) ((upd (upd (mN x) (Int32.toNatClampNeg 11) 1) (Int32.toNatClampNeg r2) r3) (Int32.toNatClampNeg 4))) (Int32.toNatClampNeg 12) 1, mA x, mP x, mS x, mE x, mH x)) := hD
      obtain ⟨h10, hw⟩ := hw
      refine va_iast hx hb hK.1 hP hD hS 3 0 rfl rfl h10 dX3_fill_31 (fun H locs hP hD hS => ?_)
      have hP : va_P D vwCl (mdlW I a (upd (upd (upd (upd (upd (mN x) (Int32.toNatClampNeg 11) 1) (Int32.toNatClampNeg r2) r3) (Int32.toNatClampNeg r5) ((upd (upd (mN x) (Int32.toNatClampNeg 11) 1) (Int32.toNatClampNeg r2) r3) (Int32.toNatClampNeg 4))) (Int32.toNatClampNeg 12) 1) (Int32.toNatClampNeg r8) r9, mA x, mP x, mS x, mE x, mH x)) H := hP
      have hD : va_D (va_A (mdlW I a x) sz) (mdlW I a (upd (upd (upd (upd (upd (mN x) (Int32.toNatClampNeg 11) 1) (Int32.toNatClampNeg r2) r3) (Int32.toNatClampNeg r5) ((upd (upd (mN x) (Int32.toNatClampNeg 11) 1) (Int32.toNatClampNeg r2) r3) (Int32.toNatClampNeg 4))) (Int32.toNatClampNeg 12) 1) (Int32.toNatClampNeg r8) r9, mA x, mP x, mS x, mE x, mH x)) := hD
      refine lv_aload_n hx hb dX3_fill_32 rfl (lv_at hl 1 rfl) ?_
      refine va_get (ci := 3) (v := .ref a.2.1) (C := RX3) (T := TX3) (N := 6) hx hb hts hiX3 hown hK.1 hP 0 rfl rfl 0 (by decide) f0 (fun _ h9 => h9) rfl dX3_fill_33 ?_
      refine lv_iload_n hx hb dX3_fill_36 rfl (lv_at hl 0 rfl) ?_
      refine lv_iconst (v := 0) hx hb dX3_fill_37 (by decide) ?_
      refine m0_i (mv_S (As := [.int 1, .int 0]) (rest := [.ref a.2.1]) ⟨hx, hb, hml, hown, hts⟩ (kX3_densityAt l D I O H.size 1 0 _ hw) (va_cwS 2 hts gX3_fill_X3_densityAt rfl rfl rfl hdSX3_densityAt ⟨(Nat.le_of_ble_eq_true rfl), (Nat.le_of_ble_eq_true rfl)⟩) hK (nil_P (D := D) (H := H)) (nil_D (A := va_A (mdlW I a x) sz)) rfl hl.1 rfl (Nat.le_of_ble_eq_true rfl) dX3_fill_38 ⟨(Nat.le_of_ble_eq_true rfl), (Nat.le_of_ble_eq_true rfl)⟩) hP hD hS hA (fun r11 _ H locs hw hP hD hS => ?_)
      refine lv_aload_n hx hb dX3_fill_41 rfl (lv_at hl 1 rfl) ?_
      refine va_get (ci := 3) (v := .ref a.2.1) (C := RX3) (T := TX3) (N := 6) hx hb hts hiX3 hown hK.1 hP 0 rfl rfl 0 (by decide) f0 (fun _ h9 => h9) rfl dX3_fill_42 ?_
      refine lv_iconst (v := 4) hx hb dX3_fill_45 (by decide) ?_
      refine va_iald hx hb hK.1 hP 3 0 rfl rfl (vp_c 4 4416 (by decide)) dX3_fill_46 ?_
      obtain ⟨h12, hw⟩ := hw
      refine va_iast hx hb hK.1 hP hD hS 3 0 rfl rfl h12 dX3_fill_47 (fun H locs hP hD hS => ?_)
      have hP : va_P D vwCl (mdlW I a (upd (upd (upd (upd (upd (upd (mN x) (Int32.toNatClampNeg 11) 1) (Int32.toNatClampNeg r2) r3) (Int32.toNatClampNeg r5) ((upd (upd (mN x) (Int32.toNatClampNeg 11) 1) (Int32.toNatClampNeg r2) r3) (Int32.toNatClampNeg 4))) (Int32.toNatClampNeg 12) 1) (Int32.toNatClampNeg r8) r9) (Int32.toNatClampNeg r11) ((upd (upd (upd (upd (upd (mN x) (Int32.toNatClampNeg 11) 1) (Int32.toNatClampNeg r2) r3) (Int32.toNatClampNeg r5) ((upd (upd (mN x) (Int32.toNatClampNeg 11) 1) (Int32.toNatClampNeg r2) r3) (Int32.toNatClampNeg 4))) (Int32.toNatClampNeg 12) 1) (Int32.toNatClampNeg r8) r9) (Int32.toNatClampNeg 4)), mA x, mP x, mS x, mE x, mH x)) H := hP
      have hD : va_D (va_A (mdlW I a x) sz) (mdlW I a (upd (upd (upd (upd (upd (upd (mN x) (Int32.toNatClampNeg 11) 1) (Int32.toNatClampNeg r2) r3) (Int32.toNatClampNeg r5) ((upd (upd (mN x) (Int32.toNatClampNeg 11) 1) (Int32.toNatClampNeg r2) r3) (Int32.toNatClampNeg 4))) (Int32.toNatClampNeg 12) 1) (Int32.toNatClampNeg r8) r9) (Int32.toNatClampNeg r11) ((upd (upd (upd (upd (upd (mN x) (Int32.toNatClampNeg 11) 1) (Int32.toNatClampNeg r2) r3) (Int32.toNatClampNeg r5) ((upd (upd (mN x) (Int32.toNatClampNeg 11) 1) (Int32.toNatClampNeg r2) r3) (Int32.toNatClampNeg 4))) (Int32.toNatClampNeg 12) 1) (Int32.toNatClampNeg r8) r9) (Int32.toNatClampNeg 4)), mA x, mP x, mS x, mE x, mH x)) := hD
      refine lv_iinc (v := 2) (lv' := [(1, .int 2), (0, .ref a.1)]) hx hb dX3_fill_48 hl (k := 0) rfl (by decide) (by decide) rfl (fun ls hl => ?_)
      refine lv_goto (tgt := 2) hx hb dX3_fill_51 (by decide) ?_
      refine lv_iload_n hx hb dX3_fill_2 rfl (lv_at hl 0 rfl) ?_
      refine lv_iconst (v := 2) hx hb dX3_fill_3 (by decide) ?_
      refine lv_icmp_ge (tgt := 54) hx hb dX3_fill_4 (by decide) (fun c13 => ?_) (fun c13 => ?_)
      · refine lv_aload_n hx hb dX3_fill_54 rfl (lv_at hl 1 rfl) ?_
        refine va_get (ci := 3) (v := .ref a.2.1) (C := RX3) (T := TX3) (N := 6) hx hb hts hiX3 hown hK.1 hP 0 rfl rfl 0 (by decide) f0 (fun _ h9 => h9) rfl dX3_fill_55 ?_
        refine lv_bipush (v := 8) hx hb dX3_fill_58 (by decide) ?_
        refine lv_iconst (v := 0) hx hb dX3_fill_60 (by decide) ?_
        refine va_iast hx hb hK.1 hP hD hS 3 0 rfl rfl (vp_c 8 4416 (by decide)) dX3_fill_61 (fun H locs hP hD hS => ?_)
        have hP : va_P D vwCl (mdlW I a (upd (upd (upd (upd (upd (upd (upd (mN x) (Int32.toNatClampNeg 11) 1) (Int32.toNatClampNeg r2) r3) (Int32.toNatClampNeg r5) ((upd (upd (mN x) (Int32.toNatClampNeg 11) 1) (Int32.toNatClampNeg r2) r3) (Int32.toNatClampNeg 4))) (Int32.toNatClampNeg 12) 1) (Int32.toNatClampNeg r8) r9) (Int32.toNatClampNeg r11) ((upd (upd (upd (upd (upd (mN x) (Int32.toNatClampNeg 11) 1) (Int32.toNatClampNeg r2) r3) (Int32.toNatClampNeg r5) ((upd (upd (mN x) (Int32.toNatClampNeg 11) 1) (Int32.toNatClampNeg r2) r3) (Int32.toNatClampNeg 4))) (Int32.toNatClampNeg 12) 1) (Int32.toNatClampNeg r8) r9) (Int32.toNatClampNeg 4))) (Int32.toNatClampNeg 8) 0, mA x, mP x, mS x, mE x, mH x)) H := hP
        have hD : va_D (va_A (mdlW I a x) sz) (mdlW I a (upd (upd (upd (upd (upd (upd (upd (mN x) (Int32.toNatClampNeg 11) 1) (Int32.toNatClampNeg r2) r3) (Int32.toNatClampNeg r5) ((upd (upd (mN x) (Int32.toNatClampNeg 11) 1) (Int32.toNatClampNeg r2) r3) (Int32.toNatClampNeg 4))) (Int32.toNatClampNeg 12) 1) (Int32.toNatClampNeg r8) r9) (Int32.toNatClampNeg r11) ((upd (upd (upd (upd (upd (mN x) (Int32.toNatClampNeg 11) 1) (Int32.toNatClampNeg r2) r3) (Int32.toNatClampNeg r5) ((upd (upd (mN x) (Int32.toNatClampNeg 11) 1) (Int32.toNatClampNeg r2) r3) (Int32.toNatClampNeg 4))) (Int32.toNatClampNeg 12) 1) (Int32.toNatClampNeg r8) r9) (Int32.toNatClampNeg 4))) (Int32.toNatClampNeg 8) 0, mA x, mP x, mS x, mE x, mH x)) := hD
        refine lv_aload_n hx hb dX3_fill_62 rfl (lv_at hl 1 rfl) ?_
        refine va_get (ci := 3) (v := .ref a.2.1) (C := RX3) (T := TX3) (N := 6) hx hb hts hiX3 hown hK.1 hP 0 rfl rfl 0 (by decide) f0 (fun _ h9 => h9) rfl dX3_fill_63 ?_
        refine lv_bipush (v := 9) hx hb dX3_fill_66 (by decide) ?_
        refine lv_iconst (v := 0) hx hb dX3_fill_68 (by decide) ?_
        refine va_iast hx hb hK.1 hP hD hS 3 0 rfl rfl (vp_c 9 4416 (by decide)) dX3_fill_69 (fun H locs hP hD hS => ?_)
        have hP : va_P D vwCl (mdlW I a (upd (upd (upd (upd (upd (upd (upd (upd (mN x) (Int32.toNatClampNeg 11) 1) (Int32.toNatClampNeg r2) r3) (Int32.toNatClampNeg r5) ((upd (upd (mN x) (Int32.toNatClampNeg 11) 1) (Int32.toNatClampNeg r2) r3) (Int32.toNatClampNeg 4))) (Int32.toNatClampNeg 12) 1) (Int32.toNatClampNeg r8) r9) (Int32.toNatClampNeg r11) ((upd (upd (upd (upd (upd (mN x) (Int32.toNatClampNeg 11) 1) (Int32.toNatClampNeg r2) r3) (Int32.toNatClampNeg r5) ((upd (upd (mN x) (Int32.toNatClampNeg 11) 1) (Int32.toNatClampNeg r2) r3) (Int32.toNatClampNeg 4))) (Int32.toNatClampNeg 12) 1) (Int32.toNatClampNeg r8) r9) (Int32.toNatClampNeg 4))) (Int32.toNatClampNeg 8) 0) (Int32.toNatClampNeg 9) 0, mA x, mP x, mS x, mE x, mH x)) H := hP
        have hD : va_D (va_A (mdlW I a x) sz) (mdlW I a (upd (upd (upd (upd (upd (upd (upd (upd (mN x) (Int32.toNatClampNeg 11) 1) (Int32.toNatClampNeg r2) r3) (Int32.toNatClampNeg r5) ((upd (upd (mN x) (Int32.toNatClampNeg 11) 1) (Int32.toNatClampNeg r2) r3) (Int32.toNatClampNeg 4))) (Int32.toNatClampNeg 12) 1) (Int32.toNatClampNeg r8) r9) (Int32.toNatClampNeg r11) ((upd (upd (upd (upd (upd (mN x) (Int32.toNatClampNeg 11) 1) (Int32.toNatClampNeg r2) r3) (Int32.toNatClampNeg r5) ((upd (upd (mN x) (Int32.toNatClampNeg 11) 1) (Int32.toNatClampNeg r2) r3) (Int32.toNatClampNeg 4))) (Int32.toNatClampNeg 12) 1) (Int32.toNatClampNeg r8) r9) (Int32.toNatClampNeg 4))) (Int32.toNatClampNeg 8) 0) (Int32.toNatClampNeg 9) 0, mA x, mP x, mS x, mE x, mH x)) := hD
        refine lv_aload_n hx hb dX3_fill_70 rfl (lv_at hl 1 rfl) ?_
        refine va_get (ci := 3) (v := .ref a.2.1) (C := RX3) (T := TX3) (N := 6) hx hb hts hiX3 hown hK.1 hP 0 rfl rfl 0 (by decide) f0 (fun _ h9 => h9) rfl dX3_fill_71 ?_
        refine lv_bipush (v := 10) hx hb dX3_fill_74 (by decide) ?_
        refine lv_iconst (v := 0) hx hb dX3_fill_76 (by decide) ?_
        refine va_iast hx hb hK.1 hP hD hS 3 0 rfl rfl (vp_c 10 4416 (by decide)) dX3_fill_77 (fun H locs hP hD hS => ?_)
        have hP : va_P D vwCl (mdlW I a (upd (upd (upd (upd (upd (upd (upd (upd (upd (mN x) (Int32.toNatClampNeg 11) 1) (Int32.toNatClampNeg r2) r3) (Int32.toNatClampNeg r5) ((upd (upd (mN x) (Int32.toNatClampNeg 11) 1) (Int32.toNatClampNeg r2) r3) (Int32.toNatClampNeg 4))) (Int32.toNatClampNeg 12) 1) (Int32.toNatClampNeg r8) r9) (Int32.toNatClampNeg r11) ((upd (upd (upd (upd (upd (mN x) (Int32.toNatClampNeg 11) 1) (Int32.toNatClampNeg r2) r3) (Int32.toNatClampNeg r5) ((upd (upd (mN x) (Int32.toNatClampNeg 11) 1) (Int32.toNatClampNeg r2) r3) (Int32.toNatClampNeg 4))) (Int32.toNatClampNeg 12) 1) (Int32.toNatClampNeg r8) r9) (Int32.toNatClampNeg 4))) (Int32.toNatClampNeg 8) 0) (Int32.toNatClampNeg 9) 0) (Int32.toNatClampNeg 10) 0, mA x, mP x, mS x, mE x, mH x)) H := hP
        have hD : va_D (va_A (mdlW I a x) sz) (mdlW I a (upd (upd (upd (upd (upd (upd (upd (upd (upd (mN x) (Int32.toNatClampNeg 11) 1) (Int32.toNatClampNeg r2) r3) (Int32.toNatClampNeg r5) ((upd (upd (mN x) (Int32.toNatClampNeg 11) 1) (Int32.toNatClampNeg r2) r3) (Int32.toNatClampNeg 4))) (Int32.toNatClampNeg 12) 1) (Int32.toNatClampNeg r8) r9) (Int32.toNatClampNeg r11) ((upd (upd (upd (upd (upd (mN x) (Int32.toNatClampNeg 11) 1) (Int32.toNatClampNeg r2) r3) (Int32.toNatClampNeg r5) ((upd (upd (mN x) (Int32.toNatClampNeg 11) 1) (Int32.toNatClampNeg r2) r3) (Int32.toNatClampNeg 4))) (Int32.toNatClampNeg 12) 1) (Int32.toNatClampNeg r8) r9) (Int32.toNatClampNeg 4))) (Int32.toNatClampNeg 8) 0) (Int32.toNatClampNeg 9) 0) (Int32.toNatClampNeg 10) 0, mA x, mP x, mS x, mE x, mH x)) := hD
        exact m_vret (u := (upd (upd (upd (upd (upd (upd (upd (upd (upd (mN x) (Int32.toNatClampNeg 11) 1) (Int32.toNatClampNeg r2) r3) (Int32.toNatClampNeg r5) ((upd (upd (mN x) (Int32.toNatClampNeg 11) 1) (Int32.toNatClampNeg r2) r3) (Int32.toNatClampNeg 4))) (Int32.toNatClampNeg 12) 1) (Int32.toNatClampNeg r8) r9) (Int32.toNatClampNeg r11) ((upd (upd (upd (upd (upd (mN x) (Int32.toNatClampNeg 11) 1) (Int32.toNatClampNeg r2) r3) (Int32.toNatClampNeg r5) ((upd (upd (mN x) (Int32.toNatClampNeg 11) 1) (Int32.toNatClampNeg r2) r3) (Int32.toNatClampNeg 4))) (Int32.toNatClampNeg 12) 1) (Int32.toNatClampNeg r8) r9) (Int32.toNatClampNeg 4))) (Int32.toNatClampNeg 8) 0) (Int32.toNatClampNeg 9) 0) (Int32.toNatClampNeg 10) 0, mA x, mP x, mS x, mE x, mH x)) hx hb hr hlocks hS hP hD dX3_fill_78 hw
      · exact absurd (show (2 : Int32) ≤ (2 : Int32) from by decide) c13
def qX3_putOnTop_L37  (K8 : Int32 → Mod → Prop) : Nat → Int32 → Mod → Prop
  | 0, _, _ => False
  | n10 + 1, i6, w7 => qX3_putOnTop_L37 K8 n10 i6 w7
def qX3_putOnTop (x : Mod) (p1 : Int32) (p2 : Int32) (Q : Mod → Prop) : Prop := (qX3_densityAt 0 0 (fun r1 => (vp_in r1 4416 ∧ ((¬ ((mN x) (Int32.toNatClampNeg r1)) = p2 → (∀ v4 : Int32, v4 = (mN x) (Int32.toNatClampNeg 11) → (∃ n5, qX3_putOnTop_L37 (fun i6 w7 => (qX3_volumeAt 0 0 (fun r12 => (vp_in r12 4416 ∧ (qX3_densityAt 0 0 (fun r14 => (vp_in r14 4416 ∧ Q (upd (upd (upd (mN w7) (Int32.toNatClampNeg r12) p1) (Int32.toNatClampNeg r14) p2) (Int32.toNatClampNeg 11) (((upd (upd (mN w7) (Int32.toNatClampNeg r12) p1) (Int32.toNatClampNeg r14) p2) (Int32.toNatClampNeg 11)) + 1), mA w7, mP w7, mS w7, mE w7, mH w7)))))))) n5 v4 x))) ∧ (((mN x) (Int32.toNatClampNeg r1)) = p2 → (qX3_volumeAt 0 0 (fun r16 => (vp_in r16 4416 ∧ (vp_in r16 4416 ∧ Q (upd (mN x) (Int32.toNatClampNeg r16) (((mN x) (Int32.toNatClampNeg r16)) + p1), mA x, mP x, mS x, mE x, mH x))))))))))
set_option maxHeartbeats 4000000 in
set_option maxRecDepth 100000 in
theorem kX3_putOnTop (l : Launch) (D : va_G) (I O : ClassId) (a : MA) (sz : Nat) (x : Mod) (p1 : Int32) (p2 : Int32) (Q : Mod → Prop) (hw : qX3_putOnTop x p1 p2 Q) : Met l yX3_putOnTop wsX3_putOnTop rX3_putOnTop (mPc D I O [.ref a.1, .int p1, .int p2] (mdlW I a x) sz) (va_Qv (fun (u : Mod) => Q u) (mB D (va_A (mdlW I a x) sz) (fun u => mdlW I a u)) (va_A (mdlW I a x) sz)) 0 0 (va_A (mdlW I a x) sz) := by
  refine m_start (by decide) rfl (Nat.le_of_ble_eq_true rfl) (fun p e s m below meth c ls H locs hx hb hr hml hts hown hlocks hnm hK hP hD hA hS hl => ?_)
  have hown : s.vm.findClass RX3 = some m.cls := hown
  have hl : lv_has ls 4 [(0, .ref a.1), (1, .int p1), (2, .int p2)] := hl
  have hiX3 : ∀ w ∈ wsX30, w ∈ wsX3_putOnTop := by decide +kernel
  have f0 := hts (.fieldLink RX3 7 "WellControlModel" "now" "[I") (by decide +kernel)
  unfold qX3_putOnTop at hw
  refine lv_aload_n hx hb dX3_putOnTop_0 rfl (lv_at hl 0 rfl) ?_
  refine va_get (ci := 3) (v := .ref a.2.1) (C := RX3) (T := TX3) (N := 6) hx hb hts hiX3 hown hK.1 hP 0 rfl rfl 0 (by decide) f0 (fun _ h9 => h9) rfl dX3_putOnTop_1 ?_
  refine lv_iconst (v := 0) hx hb dX3_putOnTop_4 (by decide) ?_
  refine lv_iconst (v := 0) hx hb dX3_putOnTop_5 (by decide) ?_
  refine m0_i (mv_S (As := [.int 0, .int 0]) (rest := [.ref a.2.1]) ⟨hx, hb, hml, hown, hts⟩ (kX3_densityAt l D I O H.size 0 0 _ hw) (va_cwS 2 hts gX3_putOnTop_X3_densityAt rfl rfl rfl hdSX3_densityAt ⟨(Nat.le_of_ble_eq_true rfl), (Nat.le_of_ble_eq_true rfl)⟩) hK (nil_P (D := D) (H := H)) (nil_D (A := va_A (mdlW I a x) sz)) rfl hl.1 rfl (Nat.le_of_ble_eq_true rfl) dX3_putOnTop_6 ⟨(Nat.le_of_ble_eq_true rfl), (Nat.le_of_ble_eq_true rfl)⟩) hP hD hS hA (fun r1 _ H locs hw hP hD hS => ?_)
  obtain ⟨h2, hw⟩ := hw
  refine va_iald hx hb hK.1 hP 3 0 rfl rfl h2 dX3_putOnTop_9 ?_
  refine lv_iload_n hx hb dX3_putOnTop_10 rfl (lv_at hl 2 rfl) ?_
  refine lv_icmp_ne (tgt := 29) hx hb dX3_putOnTop_11 (by decide) (fun c3 => ?_) (fun c3 => ?_)
  · have hw := hw.1 c3
    refine lv_aload_n hx hb dX3_putOnTop_29 rfl (lv_at hl 0 rfl) ?_
    refine va_get (ci := 3) (v := .ref a.2.1) (C := RX3) (T := TX3) (N := 6) hx hb hts hiX3 hown hK.1 hP 0 rfl rfl 0 (by decide) f0 (fun _ h9 => h9) rfl dX3_putOnTop_30 ?_
    refine lv_bipush (v := 11) hx hb dX3_putOnTop_33 (by decide) ?_
    refine va_iald hx hb hK.1 hP 3 0 rfl rfl (vp_c 11 4416 (by decide)) dX3_putOnTop_35 ?_
    refine lv_topi (fun v4 ev4 => ?_)
    have hw := hw v4 ev4
    refine lv_istore_n (lv' := [(3, .int v4), (0, .ref a.1), (1, .int p1), (2, .int p2)]) hx hb dX3_putOnTop_36 rfl hl (by decide) rfl (fun ls hl => ?_)
    obtain ⟨n5, hw⟩ := hw
    have ky11 : ∀ (K8 : Int32 → Mod → Prop) (_ : ∀ (i6 : Int32) (w7 : Mod) (H : Heap) (locs : List Loc) (ls : Array Slot), va_P D vwCl (mdlW I a w7) H → va_D (va_A (mdlW I a x) sz) (mdlW I a w7) → va_S (va_A (mdlW I a x) sz) s.heap H locs → lv_has ls 4 [(3, .int i6), (0, .ref a.1), (1, .int p1), (2, .int p2)] → K8 i6 w7 → W p l e rX3_putOnTop s m ([.ref a.1, .int p1, .int p2] : List Value).toArray below meth c H locs 0 0 (MQ below (va_Qv (fun (u : Mod) => Q u) (mB D (va_A (mdlW I a x) sz) (fun u => mdlW I a u)) (va_A (mdlW I a x) sz)) ([.ref a.1, .int p1, .int p2] : List Value).toArray s 0 0 (va_A (mdlW I a x) sz)) (F0 m 91 ls [])) (n10 : Nat) (i6 : Int32) (w7 : Mod) (H : Heap) (locs : List Loc) (ls : Array Slot), va_P D vwCl (mdlW I a w7) H → va_D (va_A (mdlW I a x) sz) (mdlW I a w7) → va_S (va_A (mdlW I a x) sz) s.heap H locs → lv_has ls 4 [(3, .int i6), (0, .ref a.1), (1, .int p1), (2, .int p2)] → qX3_putOnTop_L37 K8 n10 i6 w7 → W p l e rX3_putOnTop s m ([.ref a.1, .int p1, .int p2] : List Value).toArray below meth c H locs 0 0 (MQ below (va_Qv (fun (u : Mod) => Q u) (mB D (va_A (mdlW I a x) sz) (fun u => mdlW I a u)) (va_A (mdlW I a x) sz)) ([.ref a.1, .int p1, .int p2] : List Value).toArray s 0 0 (va_A (mdlW I a x) sz)) (F0 m 37 ls []) := by
      intro K8 hx9 n10
      induction n10 with
      | zero =>
        intro i6 w7 H locs ls hP hD hS hl hw
        exact hw.elim
      | succ n10 ihn10 =>
        intro i6 w7 H locs ls hP hD hS hl hw
        unfold qX3_putOnTop_L37 at hw
        exact ihn10 i6 w7 H locs ls hP hD hS (lv_sub hl [0, 1, 2, 3] rfl) hw
    refine ky11 _ (fun i6 w7 H locs ls hP hD hS hl hw => ?_) n5 v4 x H locs ls hP hD hS (lv_sub hl [0, 1, 2, 3] rfl) hw
    refine lv_aload_n hx hb dX3_putOnTop_91 rfl (lv_at hl 1 rfl) ?_
    refine va_get (ci := 3) (v := .ref a.2.1) (C := RX3) (T := TX3) (N := 6) hx hb hts hiX3 hown hK.1 hP 0 rfl rfl 0 (by decide) f0 (fun _ h9 => h9) rfl dX3_putOnTop_92 ?_
    refine lv_iconst (v := 0) hx hb dX3_putOnTop_95 (by decide) ?_
    refine lv_iconst (v := 0) hx hb dX3_putOnTop_96 (by decide) ?_
    refine m0_i (mv_S (As := [.int 0, .int 0]) (rest := [.ref a.2.1]) ⟨hx, hb, hml, hown, hts⟩ (kX3_volumeAt l D I O H.size 0 0 _ hw) (va_cwS 2 hts gX3_putOnTop_X3_volumeAt rfl rfl rfl hdSX3_volumeAt ⟨(Nat.le_of_ble_eq_true rfl), (Nat.le_of_ble_eq_true rfl)⟩) hK (nil_P (D := D) (H := H)) (nil_D (A := va_A (mdlW I a x) sz)) rfl hl.1 rfl (Nat.le_of_ble_eq_true rfl) dX3_putOnTop_97 ⟨(Nat.le_of_ble_eq_true rfl), (Nat.le_of_ble_eq_true rfl)⟩) hP hD hS hA (fun r12 _ H locs hw hP hD hS => ?_)
    refine lv_iload_n hx hb dX3_putOnTop_100 rfl (lv_at hl 2 rfl) ?_
    obtain ⟨h13, hw⟩ := hw
    refine va_iast hx hb hK.1 hP hD hS 3 0 rfl rfl h13 dX3_putOnTop_101 (fun H locs hP hD hS => ?_)
    have hP : va_P D vwCl (mdlW I a (upd (mN w7) (Int32.toNatClampNeg r12) p1, mA w7, mP w7, mS w7, mE w7, mH w7)) H := hP
    have hD : va_D (va_A (mdlW I a x) sz) (mdlW I a (upd (mN w7) (Int32.toNatClampNeg r12) p1, mA w7, mP w7, mS w7, mE w7, mH w7)) := hD
    refine lv_aload_n hx hb dX3_putOnTop_102 rfl (lv_at hl 1 rfl) ?_
    refine va_get (ci := 3) (v := .ref a.2.1) (C := RX3) (T := TX3) (N := 6) hx hb hts hiX3 hown hK.1 hP 0 rfl rfl 0 (by decide) f0 (fun _ h9 => h9) rfl dX3_putOnTop_103 ?_
    refine lv_iconst (v := 0) hx hb dX3_putOnTop_106 (by decide) ?_
    refine lv_iconst (v := 0) hx hb dX3_putOnTop_107 (by decide) ?_
    refine m0_i (mv_S (As := [.int 0, .int 0]) (rest := [.ref a.2.1]) ⟨hx, hb, hml, hown, hts⟩ (kX3_densityAt l D I O H.size 0 0 _ hw) (va_cwS 2 hts gX3_putOnTop_X3_densityAt rfl rfl rfl hdSX3_densityAt ⟨(Nat.le_of_ble_eq_true rfl), (Nat.le_of_ble_eq_true rfl)⟩) hK (nil_P (D := D) (H := H)) (nil_D (A := va_A (mdlW I a x) sz)) rfl hl.1 rfl (Nat.le_of_ble_eq_true rfl) dX3_putOnTop_108 ⟨(Nat.le_of_ble_eq_true rfl), (Nat.le_of_ble_eq_true rfl)⟩) hP hD hS hA (fun r14 _ H locs hw hP hD hS => ?_)
    refine lv_iload_n hx hb dX3_putOnTop_111 rfl (lv_at hl 3 rfl) ?_
    obtain ⟨h15, hw⟩ := hw
    refine va_iast hx hb hK.1 hP hD hS 3 0 rfl rfl h15 dX3_putOnTop_112 (fun H locs hP hD hS => ?_)
    have hP : va_P D vwCl (mdlW I a (upd (upd (mN w7) (Int32.toNatClampNeg r12) p1) (Int32.toNatClampNeg r14) p2, mA w7, mP w7, mS w7, mE w7, mH w7)) H := hP
    have hD : va_D (va_A (mdlW I a x) sz) (mdlW I a (upd (upd (mN w7) (Int32.toNatClampNeg r12) p1) (Int32.toNatClampNeg r14) p2, mA w7, mP w7, mS w7, mE w7, mH w7)) := hD
    refine lv_aload_n hx hb dX3_putOnTop_113 rfl (lv_at hl 1 rfl) ?_
    refine va_get (ci := 3) (v := .ref a.2.1) (C := RX3) (T := TX3) (N := 6) hx hb hts hiX3 hown hK.1 hP 0 rfl rfl 0 (by decide) f0 (fun _ h9 => h9) rfl dX3_putOnTop_114 ?_
    refine lv_bipush (v := 11) hx hb dX3_putOnTop_117 (by decide) ?_
    refine lv_dup2_11 hx hb dX3_putOnTop_119 rfl rfl ?_
    refine va_iald hx hb hK.1 hP 3 0 rfl rfl (vp_c 11 4416 (by decide)) dX3_putOnTop_120 ?_
    refine lv_iconst (v := 1) hx hb dX3_putOnTop_121 (by decide) ?_
    refine lv_iadd hx hb dX3_putOnTop_122 ?_
    refine va_iast hx hb hK.1 hP hD hS 3 0 rfl rfl (vp_c 11 4416 (by decide)) dX3_putOnTop_123 (fun H locs hP hD hS => ?_)
    have hP : va_P D vwCl (mdlW I a (upd (upd (upd (mN w7) (Int32.toNatClampNeg r12) p1) (Int32.toNatClampNeg r14) p2) (Int32.toNatClampNeg 11) (((upd (upd (mN w7) (Int32.toNatClampNeg r12) p1) (Int32.toNatClampNeg r14) p2) (Int32.toNatClampNeg 11)) + 1), mA w7, mP w7, mS w7, mE w7, mH w7)) H := hP
    have hD : va_D (va_A (mdlW I a x) sz) (mdlW I a (upd (upd (upd (mN w7) (Int32.toNatClampNeg r12) p1) (Int32.toNatClampNeg r14) p2) (Int32.toNatClampNeg 11) (((upd (upd (mN w7) (Int32.toNatClampNeg r12) p1) (Int32.toNatClampNeg r14) p2) (Int32.toNatClampNeg 11)) + 1), mA w7, mP w7, mS w7, mE w7, mH w7)) := hD
    exact m_vret (u := (upd (upd (upd (mN w7) (Int32.toNatClampNeg r12) p1) (Int32.toNatClampNeg r14) p2) (Int32.toNatClampNeg 11) (((upd (upd (mN w7) (Int32.toNatClampNeg r12) p1) (Int32.toNatClampNeg r14) p2) (Int32.toNatClampNeg 11)) + 1), mA w7, mP w7, mS w7, mE w7, mH w7)) hx hb hr hlocks hS hP hD dX3_putOnTop_124 hw
  · have hw := hw.2 c3
    refine lv_aload_n hx hb dX3_putOnTop_14 rfl (lv_at hl 0 rfl) ?_
    refine va_get (ci := 3) (v := .ref a.2.1) (C := RX3) (T := TX3) (N := 6) hx hb hts hiX3 hown hK.1 hP 0 rfl rfl 0 (by decide) f0 (fun _ h9 => h9) rfl dX3_putOnTop_15 ?_
    refine lv_iconst (v := 0) hx hb dX3_putOnTop_18 (by decide) ?_
    refine lv_iconst (v := 0) hx hb dX3_putOnTop_19 (by decide) ?_
    refine m0_i (mv_S (As := [.int 0, .int 0]) (rest := [.ref a.2.1]) ⟨hx, hb, hml, hown, hts⟩ (kX3_volumeAt l D I O H.size 0 0 _ hw) (va_cwS 2 hts gX3_putOnTop_X3_volumeAt rfl rfl rfl hdSX3_volumeAt ⟨(Nat.le_of_ble_eq_true rfl), (Nat.le_of_ble_eq_true rfl)⟩) hK (nil_P (D := D) (H := H)) (nil_D (A := va_A (mdlW I a x) sz)) rfl hl.1 rfl (Nat.le_of_ble_eq_true rfl) dX3_putOnTop_20 ⟨(Nat.le_of_ble_eq_true rfl), (Nat.le_of_ble_eq_true rfl)⟩) hP hD hS hA (fun r16 _ H locs hw hP hD hS => ?_)
    refine lv_dup2_11 hx hb dX3_putOnTop_23 rfl rfl ?_
    obtain ⟨h17, hw⟩ := hw
    refine va_iald hx hb hK.1 hP 3 0 rfl rfl h17 dX3_putOnTop_24 ?_
    refine lv_iload_n hx hb dX3_putOnTop_25 rfl (lv_at hl 1 rfl) ?_
    refine lv_iadd hx hb dX3_putOnTop_26 ?_
    obtain ⟨h18, hw⟩ := hw
    refine va_iast hx hb hK.1 hP hD hS 3 0 rfl rfl h18 dX3_putOnTop_27 (fun H locs hP hD hS => ?_)
    have hP : va_P D vwCl (mdlW I a (upd (mN x) (Int32.toNatClampNeg r16) (((mN x) (Int32.toNatClampNeg r16)) + p1), mA x, mP x, mS x, mE x, mH x)) H := hP
    have hD : va_D (va_A (mdlW I a x) sz) (mdlW I a (upd (mN x) (Int32.toNatClampNeg r16) (((mN x) (Int32.toNatClampNeg r16)) + p1), mA x, mP x, mS x, mE x, mH x)) := hD
    exact m_vret (u := (upd (mN x) (Int32.toNatClampNeg r16) (((mN x) (Int32.toNatClampNeg r16)) + p1), mA x, mP x, mS x, mE x, mH x)) hx hb hr hlocks hS hP hD dX3_putOnTop_28 hw
def qX3_enter (x : Mod) (p1 : Int32) (p2 : Int32) (Q : Mod → Prop) : Prop := (∀ v1 : Int32, v1 = ((mN x) (Int32.toNatClampNeg 12)) - 1 → (qX3_densityAt 1 v1 (fun r2 => (vp_in r2 4416 ∧ ((¬ ((mN x) (Int32.toNatClampNeg r2)) = p2 → (qX3_volumeAt 1 (v1 + 1) (fun r5 => (vp_in r5 4416 ∧ (qX3_densityAt 1 (v1 + 1) (fun r7 => (vp_in r7 4416 ∧ Q (upd (upd (upd (mN x) (Int32.toNatClampNeg r5) p1) (Int32.toNatClampNeg r7) p2) (Int32.toNatClampNeg 12) (((upd (upd (mN x) (Int32.toNatClampNeg r5) p1) (Int32.toNatClampNeg r7) p2) (Int32.toNatClampNeg 12)) + 1), mA x, mP x, mS x, mE x, mH x)))))))) ∧ (((mN x) (Int32.toNatClampNeg r2)) = p2 → (qX3_volumeAt 1 v1 (fun r9 => (vp_in r9 4416 ∧ (vp_in r9 4416 ∧ Q (upd (mN x) (Int32.toNatClampNeg r9) (((mN x) (Int32.toNatClampNeg r9)) + p1), mA x, mP x, mS x, mE x, mH x)))))))))))
set_option maxHeartbeats 4000000 in
set_option maxRecDepth 100000 in
theorem kX3_enter (l : Launch) (D : va_G) (I O : ClassId) (a : MA) (sz : Nat) (x : Mod) (p1 : Int32) (p2 : Int32) (Q : Mod → Prop) (hw : qX3_enter x p1 p2 Q) : Met l yX3_enter wsX3_enter rX3_enter (mPc D I O [.ref a.1, .int p1, .int p2] (mdlW I a x) sz) (va_Qv (fun (u : Mod) => Q u) (mB D (va_A (mdlW I a x) sz) (fun u => mdlW I a u)) (va_A (mdlW I a x) sz)) 0 0 (va_A (mdlW I a x) sz) := by
  refine m_start (by decide) rfl (Nat.le_of_ble_eq_true rfl) (fun p e s m below meth c ls H locs hx hb hr hml hts hown hlocks hnm hK hP hD hA hS hl => ?_)
  have hown : s.vm.findClass RX3 = some m.cls := hown
  have hl : lv_has ls 4 [(0, .ref a.1), (1, .int p1), (2, .int p2)] := hl
  have hiX3 : ∀ w ∈ wsX30, w ∈ wsX3_enter := by decide +kernel
  have f0 := hts (.fieldLink RX3 7 "WellControlModel" "now" "[I") (by decide +kernel)
  unfold qX3_enter at hw
  refine lv_aload_n hx hb dX3_enter_0 rfl (lv_at hl 0 rfl) ?_
  refine va_get (ci := 3) (v := .ref a.2.1) (C := RX3) (T := TX3) (N := 6) hx hb hts hiX3 hown hK.1 hP 0 rfl rfl 0 (by decide) f0 (fun _ h9 => h9) rfl dX3_enter_1 ?_
  refine lv_bipush (v := 12) hx hb dX3_enter_4 (by decide) ?_
  refine va_iald hx hb hK.1 hP 3 0 rfl rfl (vp_c 12 4416 (by decide)) dX3_enter_6 ?_
  refine lv_iconst (v := 1) hx hb dX3_enter_7 (by decide) ?_
  refine lv_isub hx hb dX3_enter_8 ?_
  refine lv_topi (fun v1 ev1 => ?_)
  have hw := hw v1 ev1
  refine lv_istore_n (lv' := [(3, .int v1), (0, .ref a.1), (1, .int p1), (2, .int p2)]) hx hb dX3_enter_9 rfl hl (by decide) rfl (fun ls hl => ?_)
  refine lv_aload_n hx hb dX3_enter_10 rfl (lv_at hl 1 rfl) ?_
  refine va_get (ci := 3) (v := .ref a.2.1) (C := RX3) (T := TX3) (N := 6) hx hb hts hiX3 hown hK.1 hP 0 rfl rfl 0 (by decide) f0 (fun _ h9 => h9) rfl dX3_enter_11 ?_
  refine lv_iconst (v := 1) hx hb dX3_enter_14 (by decide) ?_
  refine lv_iload_n hx hb dX3_enter_15 rfl (lv_at hl 0 rfl) ?_
  refine m0_i (mv_S (As := [.int 1, .int v1]) (rest := [.ref a.2.1]) ⟨hx, hb, hml, hown, hts⟩ (kX3_densityAt l D I O H.size 1 v1 _ hw) (va_cwS 2 hts gX3_enter_X3_densityAt rfl rfl rfl hdSX3_densityAt ⟨(Nat.le_of_ble_eq_true rfl), (Nat.le_of_ble_eq_true rfl)⟩) hK (nil_P (D := D) (H := H)) (nil_D (A := va_A (mdlW I a x) sz)) rfl hl.1 rfl (Nat.le_of_ble_eq_true rfl) dX3_enter_16 ⟨(Nat.le_of_ble_eq_true rfl), (Nat.le_of_ble_eq_true rfl)⟩) hP hD hS hA (fun r2 _ H locs hw hP hD hS => ?_)
  obtain ⟨h3, hw⟩ := hw
  refine va_iald hx hb hK.1 hP 3 0 rfl rfl h3 dX3_enter_19 ?_
  refine lv_iload_n hx hb dX3_enter_20 rfl (lv_at hl 3 rfl) ?_
  refine lv_icmp_ne (tgt := 39) hx hb dX3_enter_21 (by decide) (fun c4 => ?_) (fun c4 => ?_)
  · have hw := hw.1 c4
    refine lv_aload_n hx hb dX3_enter_39 rfl (lv_at hl 1 rfl) ?_
    refine va_get (ci := 3) (v := .ref a.2.1) (C := RX3) (T := TX3) (N := 6) hx hb hts hiX3 hown hK.1 hP 0 rfl rfl 0 (by decide) f0 (fun _ h9 => h9) rfl dX3_enter_40 ?_
    refine lv_iconst (v := 1) hx hb dX3_enter_43 (by decide) ?_
    refine lv_iload_n hx hb dX3_enter_44 rfl (lv_at hl 0 rfl) ?_
    refine lv_iconst (v := 1) hx hb dX3_enter_45 (by decide) ?_
    refine lv_iadd hx hb dX3_enter_46 ?_
    refine m0_i (mv_S (As := [.int 1, .int (v1 + 1)]) (rest := [.ref a.2.1]) ⟨hx, hb, hml, hown, hts⟩ (kX3_volumeAt l D I O H.size 1 (v1 + 1) _ hw) (va_cwS 2 hts gX3_enter_X3_volumeAt rfl rfl rfl hdSX3_volumeAt ⟨(Nat.le_of_ble_eq_true rfl), (Nat.le_of_ble_eq_true rfl)⟩) hK (nil_P (D := D) (H := H)) (nil_D (A := va_A (mdlW I a x) sz)) rfl hl.1 rfl (Nat.le_of_ble_eq_true rfl) dX3_enter_47 ⟨(Nat.le_of_ble_eq_true rfl), (Nat.le_of_ble_eq_true rfl)⟩) hP hD hS hA (fun r5 _ H locs hw hP hD hS => ?_)
    refine lv_iload_n hx hb dX3_enter_50 rfl (lv_at hl 2 rfl) ?_
    obtain ⟨h6, hw⟩ := hw
    refine va_iast hx hb hK.1 hP hD hS 3 0 rfl rfl h6 dX3_enter_51 (fun H locs hP hD hS => ?_)
    have hP : va_P D vwCl (mdlW I a (upd (mN x) (Int32.toNatClampNeg r5) p1, mA x, mP x, mS x, mE x, mH x)) H := hP
    have hD : va_D (va_A (mdlW I a x) sz) (mdlW I a (upd (mN x) (Int32.toNatClampNeg r5) p1, mA x, mP x, mS x, mE x, mH x)) := hD
    refine lv_aload_n hx hb dX3_enter_52 rfl (lv_at hl 1 rfl) ?_
    refine va_get (ci := 3) (v := .ref a.2.1) (C := RX3) (T := TX3) (N := 6) hx hb hts hiX3 hown hK.1 hP 0 rfl rfl 0 (by decide) f0 (fun _ h9 => h9) rfl dX3_enter_53 ?_
    refine lv_iconst (v := 1) hx hb dX3_enter_56 (by decide) ?_
    refine lv_iload_n hx hb dX3_enter_57 rfl (lv_at hl 0 rfl) ?_
    refine lv_iconst (v := 1) hx hb dX3_enter_58 (by decide) ?_
    refine lv_iadd hx hb dX3_enter_59 ?_
    refine m0_i (mv_S (As := [.int 1, .int (v1 + 1)]) (rest := [.ref a.2.1]) ⟨hx, hb, hml, hown, hts⟩ (kX3_densityAt l D I O H.size 1 (v1 + 1) _ hw) (va_cwS 2 hts gX3_enter_X3_densityAt rfl rfl rfl hdSX3_densityAt ⟨(Nat.le_of_ble_eq_true rfl), (Nat.le_of_ble_eq_true rfl)⟩) hK (nil_P (D := D) (H := H)) (nil_D (A := va_A (mdlW I a x) sz)) rfl hl.1 rfl (Nat.le_of_ble_eq_true rfl) dX3_enter_60 ⟨(Nat.le_of_ble_eq_true rfl), (Nat.le_of_ble_eq_true rfl)⟩) hP hD hS hA (fun r7 _ H locs hw hP hD hS => ?_)
    refine lv_iload_n hx hb dX3_enter_63 rfl (lv_at hl 3 rfl) ?_
    obtain ⟨h8, hw⟩ := hw
    refine va_iast hx hb hK.1 hP hD hS 3 0 rfl rfl h8 dX3_enter_64 (fun H locs hP hD hS => ?_)
    have hP : va_P D vwCl (mdlW I a (upd (upd (mN x) (Int32.toNatClampNeg r5) p1) (Int32.toNatClampNeg r7) p2, mA x, mP x, mS x, mE x, mH x)) H := hP
    have hD : va_D (va_A (mdlW I a x) sz) (mdlW I a (upd (upd (mN x) (Int32.toNatClampNeg r5) p1) (Int32.toNatClampNeg r7) p2, mA x, mP x, mS x, mE x, mH x)) := hD
    refine lv_aload_n hx hb dX3_enter_65 rfl (lv_at hl 1 rfl) ?_
    refine va_get (ci := 3) (v := .ref a.2.1) (C := RX3) (T := TX3) (N := 6) hx hb hts hiX3 hown hK.1 hP 0 rfl rfl 0 (by decide) f0 (fun _ h9 => h9) rfl dX3_enter_66 ?_
    refine lv_bipush (v := 12) hx hb dX3_enter_69 (by decide) ?_
    refine lv_dup2_11 hx hb dX3_enter_71 rfl rfl ?_
    refine va_iald hx hb hK.1 hP 3 0 rfl rfl (vp_c 12 4416 (by decide)) dX3_enter_72 ?_
    refine lv_iconst (v := 1) hx hb dX3_enter_73 (by decide) ?_
    refine lv_iadd hx hb dX3_enter_74 ?_
    refine va_iast hx hb hK.1 hP hD hS 3 0 rfl rfl (vp_c 12 4416 (by decide)) dX3_enter_75 (fun H locs hP hD hS => ?_)
    have hP : va_P D vwCl (mdlW I a (upd (upd (upd (mN x) (Int32.toNatClampNeg r5) p1) (Int32.toNatClampNeg r7) p2) (Int32.toNatClampNeg 12) (((upd (upd (mN x) (Int32.toNatClampNeg r5) p1) (Int32.toNatClampNeg r7) p2) (Int32.toNatClampNeg 12)) + 1), mA x, mP x, mS x, mE x, mH x)) H := hP
    have hD : va_D (va_A (mdlW I a x) sz) (mdlW I a (upd (upd (upd (mN x) (Int32.toNatClampNeg r5) p1) (Int32.toNatClampNeg r7) p2) (Int32.toNatClampNeg 12) (((upd (upd (mN x) (Int32.toNatClampNeg r5) p1) (Int32.toNatClampNeg r7) p2) (Int32.toNatClampNeg 12)) + 1), mA x, mP x, mS x, mE x, mH x)) := hD
    exact m_vret (u := (upd (upd (upd (mN x) (Int32.toNatClampNeg r5) p1) (Int32.toNatClampNeg r7) p2) (Int32.toNatClampNeg 12) (((upd (upd (mN x) (Int32.toNatClampNeg r5) p1) (Int32.toNatClampNeg r7) p2) (Int32.toNatClampNeg 12)) + 1), mA x, mP x, mS x, mE x, mH x)) hx hb hr hlocks hS hP hD dX3_enter_76 hw
  · have hw := hw.2 c4
    refine lv_aload_n hx hb dX3_enter_24 rfl (lv_at hl 1 rfl) ?_
    refine va_get (ci := 3) (v := .ref a.2.1) (C := RX3) (T := TX3) (N := 6) hx hb hts hiX3 hown hK.1 hP 0 rfl rfl 0 (by decide) f0 (fun _ h9 => h9) rfl dX3_enter_25 ?_
    refine lv_iconst (v := 1) hx hb dX3_enter_28 (by decide) ?_
    refine lv_iload_n hx hb dX3_enter_29 rfl (lv_at hl 0 rfl) ?_
    refine m0_i (mv_S (As := [.int 1, .int v1]) (rest := [.ref a.2.1]) ⟨hx, hb, hml, hown, hts⟩ (kX3_volumeAt l D I O H.size 1 v1 _ hw) (va_cwS 2 hts gX3_enter_X3_volumeAt rfl rfl rfl hdSX3_volumeAt ⟨(Nat.le_of_ble_eq_true rfl), (Nat.le_of_ble_eq_true rfl)⟩) hK (nil_P (D := D) (H := H)) (nil_D (A := va_A (mdlW I a x) sz)) rfl hl.1 rfl (Nat.le_of_ble_eq_true rfl) dX3_enter_30 ⟨(Nat.le_of_ble_eq_true rfl), (Nat.le_of_ble_eq_true rfl)⟩) hP hD hS hA (fun r9 _ H locs hw hP hD hS => ?_)
    refine lv_dup2_11 hx hb dX3_enter_33 rfl rfl ?_
    obtain ⟨h10, hw⟩ := hw
    refine va_iald hx hb hK.1 hP 3 0 rfl rfl h10 dX3_enter_34 ?_
    refine lv_iload_n hx hb dX3_enter_35 rfl (lv_at hl 2 rfl) ?_
    refine lv_iadd hx hb dX3_enter_36 ?_
    obtain ⟨h11, hw⟩ := hw
    refine va_iast hx hb hK.1 hP hD hS 3 0 rfl rfl h11 dX3_enter_37 (fun H locs hP hD hS => ?_)
    have hP : va_P D vwCl (mdlW I a (upd (mN x) (Int32.toNatClampNeg r9) (((mN x) (Int32.toNatClampNeg r9)) + p1), mA x, mP x, mS x, mE x, mH x)) H := hP
    have hD : va_D (va_A (mdlW I a x) sz) (mdlW I a (upd (mN x) (Int32.toNatClampNeg r9) (((mN x) (Int32.toNatClampNeg r9)) + p1), mA x, mP x, mS x, mE x, mH x)) := hD
    exact m_vret (u := (upd (mN x) (Int32.toNatClampNeg r9) (((mN x) (Int32.toNatClampNeg r9)) + p1), mA x, mP x, mS x, mE x, mH x)) hx hb hr hlocks hS hP hD dX3_enter_38 hw
def qX3_passOver_L2  (K4 : Int32 → Mod → Prop) : Nat → Int32 → Mod → Prop
  | 0, _, _ => False
  | n6 + 1, i2, w3 => qX3_passOver_L2 K4 n6 i2 w3
def qX3_passOver (x : Mod) (p1 : Int32) (Q : Mod → Prop) : Prop := (∃ n1, qX3_passOver_L2 (fun i2 w3 => Q w3) n1 p1 x)
set_option maxHeartbeats 4000000 in
set_option maxRecDepth 100000 in
theorem kX3_passOver (l : Launch) (D : va_G) (I O : ClassId) (a : MA) (sz : Nat) (x : Mod) (p1 : Int32) (Q : Mod → Prop) (hw : qX3_passOver x p1 Q) : Met l yX3_passOver wsX3_passOver rX3_passOver (mPc D I O [.ref a.1, .int p1] (mdlW I a x) sz) (va_Qv (fun (u : Mod) => Q u) (mB D (va_A (mdlW I a x) sz) (fun u => mdlW I a u)) (va_A (mdlW I a x) sz)) 0 0 (va_A (mdlW I a x) sz) := by
  refine m_start (by decide) rfl (Nat.le_of_ble_eq_true rfl) (fun p e s m below meth c ls H locs hx hb hr hml hts hown hlocks hnm hK hP hD hA hS hl => ?_)
  have hown : s.vm.findClass RX3 = some m.cls := hown
  have hl : lv_has ls 5 [(0, .ref a.1), (1, .int p1)] := hl
  unfold qX3_passOver at hw
  refine lv_iload_n hx hb dX3_passOver_0 rfl (lv_at hl 1 rfl) ?_
  refine lv_istore_n (lv' := [(2, .int p1), (0, .ref a.1), (1, .int p1)]) hx hb dX3_passOver_1 rfl hl (by decide) rfl (fun ls hl => ?_)
  obtain ⟨n1, hw⟩ := hw
  have ky7 : ∀ (K4 : Int32 → Mod → Prop) (_ : ∀ (i2 : Int32) (w3 : Mod) (H : Heap) (locs : List Loc) (ls : Array Slot), va_P D vwCl (mdlW I a w3) H → va_D (va_A (mdlW I a x) sz) (mdlW I a w3) → va_S (va_A (mdlW I a x) sz) s.heap H locs → lv_has ls 5 [(2, .int i2), (0, .ref a.1), (1, .int p1)] → K4 i2 w3 → W p l e rX3_passOver s m ([.ref a.1, .int p1] : List Value).toArray below meth c H locs 0 0 (MQ below (va_Qv (fun (u : Mod) => Q u) (mB D (va_A (mdlW I a x) sz) (fun u => mdlW I a u)) (va_A (mdlW I a x) sz)) ([.ref a.1, .int p1] : List Value).toArray s 0 0 (va_A (mdlW I a x) sz)) (F0 m 113 ls [])) (n6 : Nat) (i2 : Int32) (w3 : Mod) (H : Heap) (locs : List Loc) (ls : Array Slot), va_P D vwCl (mdlW I a w3) H → va_D (va_A (mdlW I a x) sz) (mdlW I a w3) → va_S (va_A (mdlW I a x) sz) s.heap H locs → lv_has ls 5 [(2, .int i2), (0, .ref a.1), (1, .int p1)] → qX3_passOver_L2 K4 n6 i2 w3 → W p l e rX3_passOver s m ([.ref a.1, .int p1] : List Value).toArray below meth c H locs 0 0 (MQ below (va_Qv (fun (u : Mod) => Q u) (mB D (va_A (mdlW I a x) sz) (fun u => mdlW I a u)) (va_A (mdlW I a x) sz)) ([.ref a.1, .int p1] : List Value).toArray s 0 0 (va_A (mdlW I a x) sz)) (F0 m 2 ls []) := by
    intro K4 hx5 n6
    induction n6 with
    | zero =>
      intro i2 w3 H locs ls hP hD hS hl hw
      exact hw.elim
    | succ n6 ihn6 =>
      intro i2 w3 H locs ls hP hD hS hl hw
      unfold qX3_passOver_L2 at hw
      exact ihn6 i2 w3 H locs ls hP hD hS (lv_sub hl [0, 1, 2] rfl) hw
  refine ky7 _ (fun i2 w3 H locs ls hP hD hS hl hw => ?_) n1 p1 x H locs ls hP hD hS (lv_sub hl [0, 1, 2] rfl) hw
  exact m_vret (u := w3) hx hb hr hlocks hS hP hD dX3_passOver_113 hw
def qX3_leave_L4  (K4 : Int32 → Int32 → Prop) : Nat → Int32 → Int32 → Prop
  | 0, _, _ => False
  | n6 + 1, i2, i3 => qX3_leave_L4 K4 n6 i2 i3
def qX3_leave_L65  (K14 : Int32 → Mod → Prop) : Nat → Int32 → Mod → Prop
  | 0, _, _ => False
  | n16 + 1, i12, w13 => qX3_leave_L65 K14 n16 i12 w13
def qX3_leave (x : Mod) (p1 : Int32) (Q : Mod → Prop) : Prop := (∃ n1, qX3_leave_L4 (fun i2 i3 => (qX3_volumeAt 1 i2 (fun r8 => (vp_in r8 4416 ∧ (vp_in r8 4416 ∧ (∃ n11, qX3_leave_L65 (fun i12 w13 => Q w13) n11 0 (upd (upd (mN x) (Int32.toNatClampNeg r8) (((mN x) (Int32.toNatClampNeg r8)) - i3)) (Int32.toNatClampNeg 12) (((upd (mN x) (Int32.toNatClampNeg r8) (((mN x) (Int32.toNatClampNeg r8)) - i3)) (Int32.toNatClampNeg 12)) - i2), mA x, mP x, mS x, mE x, mH x))))))) n1 0 p1)
set_option maxHeartbeats 4000000 in
set_option maxRecDepth 100000 in
theorem kX3_leave (l : Launch) (D : va_G) (I O : ClassId) (a : MA) (sz : Nat) (x : Mod) (p1 : Int32) (Q : Mod → Prop) (hw : qX3_leave x p1 Q) : Met l yX3_leave wsX3_leave rX3_leave (mPc D I O [.ref a.1, .int p1] (mdlW I a x) sz) (va_Qv (fun (u : Mod) => Q u) (mB D (va_A (mdlW I a x) sz) (fun u => mdlW I a u)) (va_A (mdlW I a x) sz)) 0 0 (va_A (mdlW I a x) sz) := by
  refine m_start (by decide) rfl (Nat.le_of_ble_eq_true rfl) (fun p e s m below meth c ls H locs hx hb hr hml hts hown hlocks hnm hK hP hD hA hS hl => ?_)
  have hown : s.vm.findClass RX3 = some m.cls := hown
  have hl : lv_has ls 5 [(0, .ref a.1), (1, .int p1)] := hl
  have hiX3 : ∀ w ∈ wsX30, w ∈ wsX3_leave := by decide +kernel
  have f0 := hts (.fieldLink RX3 7 "WellControlModel" "now" "[I") (by decide +kernel)
  unfold qX3_leave at hw
  refine lv_iload_n hx hb dX3_leave_0 rfl (lv_at hl 1 rfl) ?_
  refine lv_istore_n (lv' := [(2, .int p1), (0, .ref a.1), (1, .int p1)]) hx hb dX3_leave_1 rfl hl (by decide) rfl (fun ls hl => ?_)
  refine lv_iconst (v := 0) hx hb dX3_leave_2 (by decide) ?_
  refine lv_istore_n (lv' := [(3, .int 0), (2, .int p1), (0, .ref a.1), (1, .int p1)]) hx hb dX3_leave_3 rfl hl (by decide) rfl (fun ls hl => ?_)
  obtain ⟨n1, hw⟩ := hw
  have ky7 : ∀ (K4 : Int32 → Int32 → Prop) (_ : ∀ (i2 : Int32) (i3 : Int32) (H : Heap) (locs : List Loc) (ls : Array Slot), va_P D vwCl (mdlW I a x) H → va_D (va_A (mdlW I a x) sz) (mdlW I a x) → va_S (va_A (mdlW I a x) sz) s.heap H locs → lv_has ls 5 [(3, .int i2), (2, .int i3), (0, .ref a.1), (1, .int p1)] → K4 i2 i3 → W p l e rX3_leave s m ([.ref a.1, .int p1] : List Value).toArray below meth c H locs 0 0 (MQ below (va_Qv (fun (u : Mod) => Q u) (mB D (va_A (mdlW I a x) sz) (fun u => mdlW I a u)) (va_A (mdlW I a x) sz)) ([.ref a.1, .int p1] : List Value).toArray s 0 0 (va_A (mdlW I a x) sz)) (F0 m 37 ls [])) (n6 : Nat) (i2 : Int32) (i3 : Int32) (H : Heap) (locs : List Loc) (ls : Array Slot), va_P D vwCl (mdlW I a x) H → va_D (va_A (mdlW I a x) sz) (mdlW I a x) → va_S (va_A (mdlW I a x) sz) s.heap H locs → lv_has ls 5 [(3, .int i2), (2, .int i3), (0, .ref a.1), (1, .int p1)] → qX3_leave_L4 K4 n6 i2 i3 → W p l e rX3_leave s m ([.ref a.1, .int p1] : List Value).toArray below meth c H locs 0 0 (MQ below (va_Qv (fun (u : Mod) => Q u) (mB D (va_A (mdlW I a x) sz) (fun u => mdlW I a u)) (va_A (mdlW I a x) sz)) ([.ref a.1, .int p1] : List Value).toArray s 0 0 (va_A (mdlW I a x) sz)) (F0 m 4 ls []) := by
    intro K4 hx5 n6
    induction n6 with
    | zero =>
      intro i2 i3 H locs ls hP hD hS hl hw
      exact hw.elim
    | succ n6 ihn6 =>
      intro i2 i3 H locs ls hP hD hS hl hw
      unfold qX3_leave_L4 at hw
      exact ihn6 i2 i3 H locs ls hP hD hS (lv_sub hl [0, 1, 2, 3] rfl) hw
  refine ky7 _ (fun i2 i3 H locs ls hP hD hS hl hw => ?_) n1 0 p1 H locs ls hP hD hS (lv_sub hl [0, 1, 2, 3] rfl) hw
  refine lv_aload_n hx hb dX3_leave_37 rfl (lv_at hl 2 rfl) ?_
  refine va_get (ci := 3) (v := .ref a.2.1) (C := RX3) (T := TX3) (N := 6) hx hb hts hiX3 hown hK.1 hP 0 rfl rfl 0 (by decide) f0 (fun _ h9 => h9) rfl dX3_leave_38 ?_
  refine lv_iconst (v := 1) hx hb dX3_leave_41 (by decide) ?_
  refine lv_iload_n hx hb dX3_leave_42 rfl (lv_at hl 0 rfl) ?_
  refine m0_i (mv_S (As := [.int 1, .int i2]) (rest := [.ref a.2.1]) ⟨hx, hb, hml, hown, hts⟩ (kX3_volumeAt l D I O H.size 1 i2 _ hw) (va_cwS 2 hts gX3_leave_X3_volumeAt rfl rfl rfl hdSX3_volumeAt ⟨(Nat.le_of_ble_eq_true rfl), (Nat.le_of_ble_eq_true rfl)⟩) hK (nil_P (D := D) (H := H)) (nil_D (A := va_A (mdlW I a x) sz)) rfl hl.1 rfl (Nat.le_of_ble_eq_true rfl) dX3_leave_43 ⟨(Nat.le_of_ble_eq_true rfl), (Nat.le_of_ble_eq_true rfl)⟩) hP hD hS hA (fun r8 _ H locs hw hP hD hS => ?_)
  refine lv_dup2_11 hx hb dX3_leave_46 rfl rfl ?_
  obtain ⟨h9, hw⟩ := hw
  refine va_iald hx hb hK.1 hP 3 0 rfl rfl h9 dX3_leave_47 ?_
  refine lv_iload_n hx hb dX3_leave_48 rfl (lv_at hl 1 rfl) ?_
  refine lv_isub hx hb dX3_leave_49 ?_
  obtain ⟨h10, hw⟩ := hw
  refine va_iast hx hb hK.1 hP hD hS 3 0 rfl rfl h10 dX3_leave_50 (fun H locs hP hD hS => ?_)
  have hP : va_P D vwCl (mdlW I a (upd (mN x) (Int32.toNatClampNeg r8) (((mN x) (Int32.toNatClampNeg r8)) - i3), mA x, mP x, mS x, mE x, mH x)) H := hP
  have hD : va_D (va_A (mdlW I a x) sz) (mdlW I a (upd (mN x) (Int32.toNatClampNeg r8) (((mN x) (Int32.toNatClampNeg r8)) - i3), mA x, mP x, mS x, mE x, mH x)) := hD
  refine lv_aload_n hx hb dX3_leave_51 rfl (lv_at hl 2 rfl) ?_
  refine va_get (ci := 3) (v := .ref a.2.1) (C := RX3) (T := TX3) (N := 6) hx hb hts hiX3 hown hK.1 hP 0 rfl rfl 0 (by decide) f0 (fun _ h9 => h9) rfl dX3_leave_52 ?_
  refine lv_bipush (v := 12) hx hb dX3_leave_55 (by decide) ?_
  refine lv_dup2_11 hx hb dX3_leave_57 rfl rfl ?_
  refine va_iald hx hb hK.1 hP 3 0 rfl rfl (vp_c 12 4416 (by decide)) dX3_leave_58 ?_
  refine lv_iload_n hx hb dX3_leave_59 rfl (lv_at hl 0 rfl) ?_
  refine lv_isub hx hb dX3_leave_60 ?_
  refine va_iast hx hb hK.1 hP hD hS 3 0 rfl rfl (vp_c 12 4416 (by decide)) dX3_leave_61 (fun H locs hP hD hS => ?_)
  have hP : va_P D vwCl (mdlW I a (upd (upd (mN x) (Int32.toNatClampNeg r8) (((mN x) (Int32.toNatClampNeg r8)) - i3)) (Int32.toNatClampNeg 12) (((upd (mN x) (Int32.toNatClampNeg r8) (((mN x) (Int32.toNatClampNeg r8)) - i3)) (Int32.toNatClampNeg 12)) - i2), mA x, mP x, mS x, mE x, mH x)) H := hP
  have hD : va_D (va_A (mdlW I a x) sz) (mdlW I a (upd (upd (mN x) (Int32.toNatClampNeg r8) (((mN x) (Int32.toNatClampNeg r8)) - i3)) (Int32.toNatClampNeg 12) (((upd (mN x) (Int32.toNatClampNeg r8) (((mN x) (Int32.toNatClampNeg r8)) - i3)) (Int32.toNatClampNeg 12)) - i2), mA x, mP x, mS x, mE x, mH x)) := hD
  refine lv_iconst (v := 0) hx hb dX3_leave_62 (by decide) ?_
  refine lv_istore (lv' := [(4, .int 0), (3, .int i2), (2, .int i3), (0, .ref a.1), (1, .int p1)]) hx hb dX3_leave_63 hl (by decide) rfl (fun ls hl => ?_)
  obtain ⟨n11, hw⟩ := hw
  have ky17 : ∀ (K14 : Int32 → Mod → Prop) (_ : ∀ (i12 : Int32) (w13 : Mod) (H : Heap) (locs : List Loc) (ls : Array Slot), va_P D vwCl (mdlW I a w13) H → va_D (va_A (mdlW I a x) sz) (mdlW I a w13) → va_S (va_A (mdlW I a x) sz) s.heap H locs → lv_has ls 5 [(4, .int i12), (3, .int i2), (2, .int i3), (0, .ref a.1), (1, .int p1)] → K14 i12 w13 → W p l e rX3_leave s m ([.ref a.1, .int p1] : List Value).toArray below meth c H locs 0 0 (MQ below (va_Qv (fun (u : Mod) => Q u) (mB D (va_A (mdlW I a x) sz) (fun u => mdlW I a u)) (va_A (mdlW I a x) sz)) ([.ref a.1, .int p1] : List Value).toArray s 0 0 (va_A (mdlW I a x) sz)) (F0 m 135 ls [])) (n16 : Nat) (i12 : Int32) (w13 : Mod) (H : Heap) (locs : List Loc) (ls : Array Slot), va_P D vwCl (mdlW I a w13) H → va_D (va_A (mdlW I a x) sz) (mdlW I a w13) → va_S (va_A (mdlW I a x) sz) s.heap H locs → lv_has ls 5 [(4, .int i12), (3, .int i2), (2, .int i3), (0, .ref a.1), (1, .int p1)] → qX3_leave_L65 K14 n16 i12 w13 → W p l e rX3_leave s m ([.ref a.1, .int p1] : List Value).toArray below meth c H locs 0 0 (MQ below (va_Qv (fun (u : Mod) => Q u) (mB D (va_A (mdlW I a x) sz) (fun u => mdlW I a u)) (va_A (mdlW I a x) sz)) ([.ref a.1, .int p1] : List Value).toArray s 0 0 (va_A (mdlW I a x) sz)) (F0 m 65 ls []) := by
    intro K14 hx15 n16
    induction n16 with
    | zero =>
      intro i12 w13 H locs ls hP hD hS hl hw
      exact hw.elim
    | succ n16 ihn16 =>
      intro i12 w13 H locs ls hP hD hS hl hw
      unfold qX3_leave_L65 at hw
      exact ihn16 i12 w13 H locs ls hP hD hS (lv_sub hl [0, 1, 2, 3, 4] rfl) hw
  refine ky17 _ (fun i12 w13 H locs ls hP hD hS hl hw => ?_) n11 0 (upd (upd (mN x) (Int32.toNatClampNeg r8) (((mN x) (Int32.toNatClampNeg r8)) - i3)) (Int32.toNatClampNeg 12) (((upd (mN x) (Int32.toNatClampNeg r8) (((mN x) (Int32.toNatClampNeg r8)) - i3)) (Int32.toNatClampNeg 12)) - i2), mA x, mP x, mS x, mE x, mH x) H locs ls hP hD hS (lv_sub hl [0, 1, 2, 3, 4] rfl) hw
  exact m_vret (u := w13) hx hb hr hlocks hS hP hD dX3_leave_135 hw
def qX3_pumpMud (x : Mod) (p1 : Int32) (p2 : Int32) (Q : Mod → Prop) : Prop := (qX3_putOnTop x p1 p2 (fun u1 => (qX3_passOver u1 p1 (fun u2 => (qX3_leave u2 p1 (fun u3 => Q u3))))))
set_option maxHeartbeats 4000000 in
set_option maxRecDepth 100000 in
theorem kX3_pumpMud (l : Launch) (D : va_G) (I O : ClassId) (a : MA) (sz : Nat) (x : Mod) (p1 : Int32) (p2 : Int32) (Q : Mod → Prop) (hw : qX3_pumpMud x p1 p2 Q) : Met l yX3_pumpMud wsX3_pumpMud rX3_pumpMud (mPc D I O [.ref a.1, .int p1, .int p2] (mdlW I a x) sz) (va_Qv (fun (u : Mod) => Q u) (mB D (va_A (mdlW I a x) sz) (fun u => mdlW I a u)) (va_A (mdlW I a x) sz)) 0 0 (va_A (mdlW I a x) sz) := by
  refine m_start (by decide) rfl (Nat.le_of_ble_eq_true rfl) (fun p e s m below meth c ls H locs hx hb hr hml hts hown hlocks hnm hK hP hD hA hS hl => ?_)
  have hown : s.vm.findClass RX3 = some m.cls := hown
  have hl : lv_has ls 3 [(0, .ref a.1), (1, .int p1), (2, .int p2)] := hl
  unfold qX3_pumpMud at hw
  refine lv_aload_n hx hb dX3_pumpMud_0 rfl (lv_at hl 0 rfl) ?_
  refine lv_iload_n hx hb dX3_pumpMud_1 rfl (lv_at hl 1 rfl) ?_
  refine lv_iload_n hx hb dX3_pumpMud_2 rfl (lv_at hl 2 rfl) ?_
  refine mw_v (mv_V (As := [.int p1, .int p2]) (rest := []) ⟨hx, hb, hml, hown, hts⟩ (kX3_putOnTop l D I O a H.size x p1 p2 _ hw) (cwV 2 hts gX3_pumpMud_X3_putOnTop rfl rfl rfl hdVX3_putOnTop ⟨(Nat.le_of_ble_eq_true rfl), (Nat.le_of_ble_eq_true rfl)⟩) hK hP hD 0 3 rfl rfl rfl rfl hl.1 rfl (Nat.le_of_ble_eq_true rfl) dX3_pumpMud_3 ⟨(Nat.le_of_ble_eq_true rfl), (Nat.le_of_ble_eq_true rfl)⟩) hP hD hS hA (fun u1 H locs hw hP hD hS => ?_)
  have hP : va_P D vwCl (mdlW I a u1) H := hP
  have hD : va_D (va_A (mdlW I a x) sz) (mdlW I a u1) := hD
  refine lv_aload_n hx hb dX3_pumpMud_6 rfl (lv_at hl 0 rfl) ?_
  refine lv_iload_n hx hb dX3_pumpMud_7 rfl (lv_at hl 1 rfl) ?_
  refine mw_v (mv_V (As := [.int p1]) (rest := []) ⟨hx, hb, hml, hown, hts⟩ (kX3_passOver l D I O a H.size u1 p1 _ hw) (cwV 1 hts gX3_pumpMud_X3_passOver rfl rfl rfl hdVX3_passOver ⟨(Nat.le_of_ble_eq_true rfl), (Nat.le_of_ble_eq_true rfl)⟩) hK hP hD 0 3 rfl rfl rfl rfl hl.1 rfl (Nat.le_of_ble_eq_true rfl) dX3_pumpMud_8 ⟨(Nat.le_of_ble_eq_true rfl), (Nat.le_of_ble_eq_true rfl)⟩) hP hD hS hA (fun u2 H locs hw hP hD hS => ?_)
  have hP : va_P D vwCl (mdlW I a u2) H := hP
  have hD : va_D (va_A (mdlW I a x) sz) (mdlW I a u2) := hD
  refine lv_aload_n hx hb dX3_pumpMud_11 rfl (lv_at hl 0 rfl) ?_
  refine lv_iload_n hx hb dX3_pumpMud_12 rfl (lv_at hl 1 rfl) ?_
  refine mw_v (mv_V (As := [.int p1]) (rest := []) ⟨hx, hb, hml, hown, hts⟩ (kX3_leave l D I O a H.size u2 p1 _ hw) (cwV 1 hts gX3_pumpMud_X3_leave rfl rfl rfl hdVX3_leave ⟨(Nat.le_of_ble_eq_true rfl), (Nat.le_of_ble_eq_true rfl)⟩) hK hP hD 0 3 rfl rfl rfl rfl hl.1 rfl (Nat.le_of_ble_eq_true rfl) dX3_pumpMud_13 ⟨(Nat.le_of_ble_eq_true rfl), (Nat.le_of_ble_eq_true rfl)⟩) hP hD hS hA (fun u3 H locs hw hP hD hS => ?_)
  have hP : va_P D vwCl (mdlW I a u3) H := hP
  have hD : va_D (va_A (mdlW I a x) sz) (mdlW I a u3) := hD
  exact m_vret (u := u3) hx hb hr hlocks hS hP hD dX3_pumpMud_16 hw
