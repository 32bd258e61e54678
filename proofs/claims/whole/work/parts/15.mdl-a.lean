def qX3_in (p1 : Int32) (p2 : Int32) (p3 : Int32) (Q : Int32 → Prop) : Prop := ((p1 < p2 → Q 0) ∧ (¬ p1 < p2 → ((p3 < p1 → Q 0) ∧ (¬ p3 < p1 → Q 1))))
set_option maxHeartbeats 4000000 in
set_option maxRecDepth 100000 in
theorem kX3_in (l : Launch) (D : va_G) (I O : ClassId) (sz : Nat) (p1 : Int32) (p2 : Int32) (p3 : Int32) (Q : Int32 → Prop) (hw : qX3_in p1 p2 p3 Q) : Met l yX3_in wsX3_in rX3_in (mPc D I O [.int p1, .int p2, .int p3] ([]) sz) (va_Qi (fun r (_ : Unit) => Q r) (mB D (va_A ([]) sz) (fun _ => [])) (va_A ([]) sz)) 0 0 (va_A ([]) sz) := by
  refine m_start (by decide) rfl (Nat.le_of_ble_eq_true rfl) (fun p e s m below meth c ls H locs hx hb hr hml hts hown hlocks hnm hK hP hD hA hS hl => ?_)
  have hown : s.vm.findClass RX3 = some m.cls := hown
  have hl : lv_has ls 3 [(0, .int p1), (1, .int p2), (2, .int p3)] := hl
  unfold qX3_in at hw
  refine lv_iload_n hx hb dX3_in_0 rfl (lv_at hl 0 rfl) ?_
  refine lv_iload_n hx hb dX3_in_1 rfl (lv_at hl 1 rfl) ?_
  refine lv_icmp_lt (tgt := 14) hx hb dX3_in_2 (by decide) (fun c1 => ?_) (fun c1 => ?_)
  · have hw := hw.1 c1
    refine lv_iconst (v := 0) hx hb dX3_in_14 (by decide) ?_
    exact m_zret (u := ()) hx hb hr hlocks (by decide) hS hP hD dX3_in_15 hw
  · have hw := hw.2 c1
    refine lv_iload_n hx hb dX3_in_5 rfl (lv_at hl 0 rfl) ?_
    refine lv_iload_n hx hb dX3_in_6 rfl (lv_at hl 2 rfl) ?_
    refine lv_icmp_gt (tgt := 14) hx hb dX3_in_7 (by decide) (fun c2 => ?_) (fun c2 => ?_)
    · have hw := hw.1 c2
      refine lv_iconst (v := 0) hx hb dX3_in_14 (by decide) ?_
      exact m_zret (u := ()) hx hb hr hlocks (by decide) hS hP hD dX3_in_15 hw
    · have hw := hw.2 c2
      refine lv_iconst (v := 1) hx hb dX3_in_10 (by decide) ?_
      refine lv_goto (tgt := 15) hx hb dX3_in_11 (by decide) ?_
      exact m_zret (u := ()) hx hb hr hlocks (by decide) hS hP hD dX3_in_15 hw
def qX3_isColumn (p1 : Int32) (Q : Int32 → Prop) : Prop := (qX3_in p1 0 1 (fun r1 => (narrow .boolean (.int r1) = .int r1 ∧ Q r1)))
set_option maxHeartbeats 4000000 in
set_option maxRecDepth 100000 in
theorem kX3_isColumn (l : Launch) (D : va_G) (I O : ClassId) (sz : Nat) (p1 : Int32) (Q : Int32 → Prop) (hw : qX3_isColumn p1 Q) : Met l yX3_isColumn wsX3_isColumn rX3_isColumn (mPc D I O [.int p1] ([]) sz) (va_Qi (fun r (_ : Unit) => Q r) (mB D (va_A ([]) sz) (fun _ => [])) (va_A ([]) sz)) 0 0 (va_A ([]) sz) := by
  refine m_start (by decide) rfl (Nat.le_of_ble_eq_true rfl) (fun p e s m below meth c ls H locs hx hb hr hml hts hown hlocks hnm hK hP hD hA hS hl => ?_)
  have hown : s.vm.findClass RX3 = some m.cls := hown
  have hl : lv_has ls 1 [(0, .int p1)] := hl
  unfold qX3_isColumn at hw
  refine lv_iload_n hx hb dX3_isColumn_0 rfl (lv_at hl 0 rfl) ?_
  refine lv_iconst (v := 0) hx hb dX3_isColumn_1 (by decide) ?_
  refine lv_iconst (v := 1) hx hb dX3_isColumn_2 (by decide) ?_
  refine m0_i (mv_S (As := [.int p1, .int 0, .int 1]) (rest := []) ⟨hx, hb, hml, hown, hts⟩ (kX3_in l D I O H.size p1 0 1 _ hw) (va_cwS 3 hts gX3_isColumn_X3_in rfl rfl rfl hdSX3_in ⟨(Nat.le_of_ble_eq_true rfl), (Nat.le_of_ble_eq_true rfl)⟩) hK (nil_P (D := D) (H := H)) (nil_D (A := va_A ([]) sz)) rfl hl.1 rfl (Nat.le_of_ble_eq_true rfl) dX3_isColumn_3 ⟨(Nat.le_of_ble_eq_true rfl), (Nat.le_of_ble_eq_true rfl)⟩) hP hD hS hA (fun r1 _ H locs hw hP hD hS => ?_)
  exact m_zret (u := ()) hx hb hr hlocks hw.1 hS hP hD dX3_isColumn_6 hw.2
def qX3_volumeAt (p1 : Int32) (p2 : Int32) (Q : Int32 → Prop) : Prop := Q ((16 + (2200 * p1)) + p2)
set_option maxHeartbeats 4000000 in
set_option maxRecDepth 100000 in
theorem kX3_volumeAt (l : Launch) (D : va_G) (I O : ClassId) (sz : Nat) (p1 : Int32) (p2 : Int32) (Q : Int32 → Prop) (hw : qX3_volumeAt p1 p2 Q) : Met l yX3_volumeAt wsX3_volumeAt rX3_volumeAt (mPc D I O [.int p1, .int p2] ([]) sz) (va_Qi (fun r (_ : Unit) => Q r) (mB D (va_A ([]) sz) (fun _ => [])) (va_A ([]) sz)) 0 0 (va_A ([]) sz) := by
  refine m_start (by decide) rfl (Nat.le_of_ble_eq_true rfl) (fun p e s m below meth c ls H locs hx hb hr hml hts hown hlocks hnm hK hP hD hA hS hl => ?_)
  have hown : s.vm.findClass RX3 = some m.cls := hown
  have hl : lv_has ls 2 [(0, .int p1), (1, .int p2)] := hl
  unfold qX3_volumeAt at hw
  refine lv_bipush (v := 16) hx hb dX3_volumeAt_0 (by decide) ?_
  refine lv_sipush (v := 2200) hx hb dX3_volumeAt_2 (by decide) ?_
  refine lv_iload_n hx hb dX3_volumeAt_5 rfl (lv_at hl 0 rfl) ?_
  refine lv_imul hx hb dX3_volumeAt_6 ?_
  refine lv_iadd hx hb dX3_volumeAt_7 ?_
  refine lv_iload_n hx hb dX3_volumeAt_8 rfl (lv_at hl 1 rfl) ?_
  refine lv_iadd hx hb dX3_volumeAt_9 ?_
  exact m_iret (u := ()) hx hb hr hlocks hS hP hD dX3_volumeAt_10 hw
def qX3_densityAt (p1 : Int32) (p2 : Int32) (Q : Int32 → Prop) : Prop := (qX3_volumeAt p1 p2 (fun r1 => Q (r1 + 1100)))
set_option maxHeartbeats 4000000 in
set_option maxRecDepth 100000 in
theorem kX3_densityAt (l : Launch) (D : va_G) (I O : ClassId) (sz : Nat) (p1 : Int32) (p2 : Int32) (Q : Int32 → Prop) (hw : qX3_densityAt p1 p2 Q) : Met l yX3_densityAt wsX3_densityAt rX3_densityAt (mPc D I O [.int p1, .int p2] ([]) sz) (va_Qi (fun r (_ : Unit) => Q r) (mB D (va_A ([]) sz) (fun _ => [])) (va_A ([]) sz)) 0 0 (va_A ([]) sz) := by
  refine m_start (by decide) rfl (Nat.le_of_ble_eq_true rfl) (fun p e s m below meth c ls H locs hx hb hr hml hts hown hlocks hnm hK hP hD hA hS hl => ?_)
  have hown : s.vm.findClass RX3 = some m.cls := hown
  have hl : lv_has ls 2 [(0, .int p1), (1, .int p2)] := hl
  unfold qX3_densityAt at hw
  refine lv_iload_n hx hb dX3_densityAt_0 rfl (lv_at hl 0 rfl) ?_
  refine lv_iload_n hx hb dX3_densityAt_1 rfl (lv_at hl 1 rfl) ?_
  refine m0_i (mv_S (As := [.int p1, .int p2]) (rest := []) ⟨hx, hb, hml, hown, hts⟩ (kX3_volumeAt l D I O H.size p1 p2 _ hw) (va_cwS 2 hts gX3_densityAt_X3_volumeAt rfl rfl rfl hdSX3_volumeAt ⟨(Nat.le_of_ble_eq_true rfl), (Nat.le_of_ble_eq_true rfl)⟩) hK (nil_P (D := D) (H := H)) (nil_D (A := va_A ([]) sz)) rfl hl.1 rfl (Nat.le_of_ble_eq_true rfl) dX3_densityAt_2 ⟨(Nat.le_of_ble_eq_true rfl), (Nat.le_of_ble_eq_true rfl)⟩) hP hD hS hA (fun r1 _ H locs hw hP hD hS => ?_)
  refine lv_sipush (v := 1100) hx hb dX3_densityAt_5 (by decide) ?_
  refine lv_iadd hx hb dX3_densityAt_8 ?_
  exact m_iret (u := ()) hx hb hr hlocks hS hP hD dX3_densityAt_9 hw
def qX3_error (x : Mod) (p1 : Int32) (Q : Int32 → Mod → Prop) : Prop := (vp_in ((-2) - p1) 4 ∧ (vp_in ((-2) - p1) 4 ∧ Q p1 (mN x, mA x, mP x, mS x, upd (mE x) (Int32.toNatClampNeg ((-2) - p1)) (((mE x) (Int32.toNatClampNeg ((-2) - p1))) + 1), mH x)))
set_option maxHeartbeats 4000000 in
set_option maxRecDepth 100000 in
theorem kX3_error (l : Launch) (D : va_G) (I O : ClassId) (a : MA) (sz : Nat) (x : Mod) (p1 : Int32) (Q : Int32 → Mod → Prop) (hw : qX3_error x p1 Q) : Met l yX3_error wsX3_error rX3_error (mPc D I O [.ref a.1, .int p1] (mdlW I a x) sz) (va_Qi (fun r (u : Mod) => Q r u) (mB D (va_A (mdlW I a x) sz) (fun u => mdlW I a u)) (va_A (mdlW I a x) sz)) 0 0 (va_A (mdlW I a x) sz) := by
  refine m_start (by decide) rfl (Nat.le_of_ble_eq_true rfl) (fun p e s m below meth c ls H locs hx hb hr hml hts hown hlocks hnm hK hP hD hA hS hl => ?_)
  have hown : s.vm.findClass RX3 = some m.cls := hown
  have hl : lv_has ls 2 [(0, .ref a.1), (1, .int p1)] := hl
  have hiX3 : ∀ w ∈ wsX30, w ∈ wsX3_error := by decide +kernel
  have f0 := hts (.fieldLink RX3 19 "WellControlModel" "errors" "[I") (by decide +kernel)
  unfold qX3_error at hw
  refine lv_aload_n hx hb dX3_error_0 rfl (lv_at hl 0 rfl) ?_
  refine va_get (ci := 3) (v := .ref a.2.2.2.2) (C := RX3) (T := TX3) (N := 6) hx hb hts hiX3 hown hK.1 hP 0 rfl rfl 4 (by decide) f0 (fun _ h9 => h9) rfl dX3_error_1 ?_
  refine lv_bipush (v := (-2)) hx hb dX3_error_4 (by decide) ?_
  refine lv_iload_n hx hb dX3_error_6 rfl (lv_at hl 1 rfl) ?_
  refine lv_isub hx hb dX3_error_7 ?_
  refine lv_dup2_11 hx hb dX3_error_8 rfl rfl ?_
  obtain ⟨h1, hw⟩ := hw
  refine va_iald hx hb hK.1 hP 1 0 rfl rfl h1 dX3_error_9 ?_
  refine lv_iconst (v := 1) hx hb dX3_error_10 (by decide) ?_
  refine lv_iadd hx hb dX3_error_11 ?_
  obtain ⟨h2, hw⟩ := hw
  refine va_iast hx hb hK.1 hP hD hS 1 0 rfl rfl h2 dX3_error_12 (fun H locs hP hD hS => ?_)
  have hP : va_P D vwCl (mdlW I a (mN x, mA x, mP x, mS x, upd (mE x) (Int32.toNatClampNeg ((-2) - p1)) (((mE x) (Int32.toNatClampNeg ((-2) - p1))) + 1), mH x)) H := hP
  have hD : va_D (va_A (mdlW I a x) sz) (mdlW I a (mN x, mA x, mP x, mS x, upd (mE x) (Int32.toNatClampNeg ((-2) - p1)) (((mE x) (Int32.toNatClampNeg ((-2) - p1))) + 1), mH x)) := hD
  refine lv_iload_n hx hb dX3_error_13 rfl (lv_at hl 1 rfl) ?_
  exact m_iret (u := (mN x, mA x, mP x, mS x, upd (mE x) (Int32.toNatClampNeg ((-2) - p1)) (((mE x) (Int32.toNatClampNeg ((-2) - p1))) + 1), mH x)) hx hb hr hlocks hS hP hD dX3_error_14 hw
def qX3_volumeOf (x : Mod) (p1 : Int32) (Q : Int32 → Prop) : Prop := (vp_in (1 + p1) 4416 ∧ Q (((mN x) (Int32.toNatClampNeg 0)) * ((mN x) (Int32.toNatClampNeg (1 + p1)))))
set_option maxHeartbeats 4000000 in
set_option maxRecDepth 100000 in
theorem kX3_volumeOf (l : Launch) (D : va_G) (I O : ClassId) (a : MA) (sz : Nat) (x : Mod) (p1 : Int32) (Q : Int32 → Prop) (hw : qX3_volumeOf x p1 Q) : Met l yX3_volumeOf wsX3_volumeOf rX3_volumeOf (mPc D I O [.ref a.1, .int p1] (mdlW I a x) sz) (va_Qi (fun r (_ : Unit) => Q r) (mB D (va_A (mdlW I a x) sz) (fun _ => mdlW I a x)) (va_A (mdlW I a x) sz)) 0 0 (va_A (mdlW I a x) sz) := by
  refine m_start (by decide) rfl (Nat.le_of_ble_eq_true rfl) (fun p e s m below meth c ls H locs hx hb hr hml hts hown hlocks hnm hK hP hD hA hS hl => ?_)
  have hown : s.vm.findClass RX3 = some m.cls := hown
  have hl : lv_has ls 2 [(0, .ref a.1), (1, .int p1)] := hl
  have hiX3 : ∀ w ∈ wsX30, w ∈ wsX3_volumeOf := by decide +kernel
  have f0 := hts (.fieldLink RX3 7 "WellControlModel" "now" "[I") (by decide +kernel)
  unfold qX3_volumeOf at hw
  refine lv_aload_n hx hb dX3_volumeOf_0 rfl (lv_at hl 0 rfl) ?_
  refine va_get (ci := 3) (v := .ref a.2.1) (C := RX3) (T := TX3) (N := 6) hx hb hts hiX3 hown hK.1 hP 0 rfl rfl 0 (by decide) f0 (fun _ h9 => h9) rfl dX3_volumeOf_1 ?_
  refine lv_iconst (v := 0) hx hb dX3_volumeOf_4 (by decide) ?_
  refine va_iald hx hb hK.1 hP 3 0 rfl rfl (vp_c 0 4416 (by decide)) dX3_volumeOf_5 ?_
  refine lv_aload_n hx hb dX3_volumeOf_6 rfl (lv_at hl 0 rfl) ?_
  refine va_get (ci := 3) (v := .ref a.2.1) (C := RX3) (T := TX3) (N := 6) hx hb hts hiX3 hown hK.1 hP 0 rfl rfl 0 (by decide) f0 (fun _ h9 => h9) rfl dX3_volumeOf_7 ?_
  refine lv_iconst (v := 1) hx hb dX3_volumeOf_10 (by decide) ?_
  refine lv_iload_n hx hb dX3_volumeOf_11 rfl (lv_at hl 1 rfl) ?_
  refine lv_iadd hx hb dX3_volumeOf_12 ?_
  obtain ⟨h1, hw⟩ := hw
  refine va_iald hx hb hK.1 hP 3 0 rfl rfl h1 dX3_volumeOf_13 ?_
  refine lv_imul hx hb dX3_volumeOf_14 ?_
  exact m_iret (u := ()) hx hb hr hlocks hS hP hD dX3_volumeOf_15 hw
def qX3_copy_L3 (p2 : Int32) (p4 : Int32) (xf : Nat → Int32) (nf : Nat) (nt : Nat) (K4 : Int32 → (Nat → Int32) → Prop) : Nat → Int32 → (Nat → Int32) → Prop
  | 0, _, _ => False
  | n6 + 1, i2, w3 => ((16 ≤ i2 → K4 i2 w3) ∧ (¬ 16 ≤ i2 → (vp_in (p2 + i2) nf ∧ (vp_in (p4 + i2) nt ∧ qX3_copy_L3 p2 p4 xf nf nt K4 n6 (i2 + 1) (upd w3 (Int32.toNatClampNeg (p4 + i2)) (xf (Int32.toNatClampNeg (p2 + i2))))))))
def qX3_copy_L51 (p2 : Int32) (p4 : Int32) (xf : Nat → Int32) (nf : Nat) (nt : Nat) (K15 : Int32 → (Nat → Int32) → Prop) : Nat → Int32 → (Nat → Int32) → Prop
  | 0, _, _ => False
  | n17 + 1, i13, w14 => (vp_in ((p2 + 11) + 0) nf ∧ (((xf (Int32.toNatClampNeg ((p2 + 11) + 0))) ≤ i13 → K15 i13 w14) ∧ (¬ (xf (Int32.toNatClampNeg ((p2 + 11) + 0))) ≤ i13 → (vp_in ((p2 + 16) + i13) nf ∧ (vp_in ((p4 + 16) + i13) nt ∧ (vp_in (((p2 + 16) + 1100) + i13) nf ∧ (vp_in (((p4 + 16) + 1100) + i13) nt ∧ qX3_copy_L51 p2 p4 xf nf nt K15 n17 (i13 + 1) (upd (upd w14 (Int32.toNatClampNeg ((p4 + 16) + i13)) (xf (Int32.toNatClampNeg ((p2 + 16) + i13)))) (Int32.toNatClampNeg (((p4 + 16) + 1100) + i13)) (xf (Int32.toNatClampNeg (((p2 + 16) + 1100) + i13)))))))))))
def qX3_copy_L51b (p2 : Int32) (p4 : Int32) (xf : Nat → Int32) (nf : Nat) (nt : Nat) (K29 : Int32 → (Nat → Int32) → Prop) : Nat → Int32 → (Nat → Int32) → Prop
  | 0, _, _ => False
  | n31 + 1, i27, w28 => (vp_in ((p2 + 11) + 1) nf ∧ (((xf (Int32.toNatClampNeg ((p2 + 11) + 1))) ≤ i27 → K29 i27 w28) ∧ (¬ (xf (Int32.toNatClampNeg ((p2 + 11) + 1))) ≤ i27 → (vp_in ((p2 + 2216) + i27) nf ∧ (vp_in ((p4 + 2216) + i27) nt ∧ (vp_in (((p2 + 2216) + 1100) + i27) nf ∧ (vp_in (((p4 + 2216) + 1100) + i27) nt ∧ qX3_copy_L51b p2 p4 xf nf nt K29 n31 (i27 + 1) (upd (upd w28 (Int32.toNatClampNeg ((p4 + 2216) + i27)) (xf (Int32.toNatClampNeg ((p2 + 2216) + i27)))) (Int32.toNatClampNeg (((p4 + 2216) + 1100) + i27)) (xf (Int32.toNatClampNeg (((p2 + 2216) + 1100) + i27)))))))))))
def qX3_copy (nf : Nat) (nt : Nat) (xf : Nat → Int32) (xt : Nat → Int32) (p2 : Int32) (p4 : Int32) (Q : (Nat → Int32) → Prop) : Prop := (∃ n1, qX3_copy_L3 p2 p4 xf nf nt (fun i2 w3 => (∃ n12, qX3_copy_L51 p2 p4 xf nf nt (fun i13 w14 => (∃ n26, qX3_copy_L51b p2 p4 xf nf nt (fun i27 w28 => Q w28) n26 0 w14)) n12 0 w3)) n1 0 xt)
set_option maxHeartbeats 4000000 in
set_option maxRecDepth 100000 in
theorem kX3_copy_ft (l : Launch) (D : va_G) (I O : ClassId) (f : Nat) (t : Nat) (sz : Nat) (nf : Nat) (nt : Nat) (xf : Nat → Int32) (xt : Nat → Int32) (p2 : Int32) (p4 : Int32) (Q : (Nat → Int32) → Prop) (hw : qX3_copy nf nt xf xt p2 p4 Q) : Met l yX3_copy wsX3_copy rX3_copy (mPc D I O [.ref f, .int p2, .ref t, .int p4] (arB I f nf xf ++ arB I t nt xt) sz) (va_Qv (fun (u : Nat → Int32) => Q u) (mB D (va_A (arB I f nf xf ++ arB I t nt xt) sz) (fun u => arB I f nf xf ++ arB I t nt u)) (va_A (arB I f nf xf ++ arB I t nt xt) sz)) 0 0 (va_A (arB I f nf xf ++ arB I t nt xt) sz) := by
  refine m_start (by decide) rfl (Nat.le_of_ble_eq_true rfl) (fun p e s m below meth c ls H locs hx hb hr hml hts hown hlocks hnm hK hP hD hA hS hl => ?_)
  have hown : s.vm.findClass RX3 = some m.cls := hown
  have hl : lv_has ls 7 [(0, .ref f), (1, .int p2), (2, .ref t), (3, .int p4)] := hl
  unfold qX3_copy at hw
  refine lv_iconst (v := 0) hx hb dX3_copy_0 (by decide) ?_
  refine lv_istore (lv' := [(4, .int 0), (0, .ref f), (1, .int p2), (2, .ref t), (3, .int p4)]) hx hb dX3_copy_1 hl (by decide) rfl (fun ls hl => ?_)
  obtain ⟨n1, hw⟩ := hw
  have ky7 : ∀ (K4 : Int32 → (Nat → Int32) → Prop) (_ : ∀ (i2 : Int32) (w3 : Nat → Int32) (H : Heap) (locs : List Loc) (ls : Array Slot), va_P D vwCl (arB I f nf xf ++ arB I t nt w3) H → va_D (va_A (arB I f nf xf ++ arB I t nt xt) sz) (arB I f nf xf ++ arB I t nt w3) → va_S (va_A (arB I f nf xf ++ arB I t nt xt) sz) s.heap H locs → lv_has ls 7 [(4, .int i2), (0, .ref f), (1, .int p2), (2, .ref t), (3, .int p4)] → K4 i2 w3 → W p l e rX3_copy s m ([.ref f, .int p2, .ref t, .int p4] : List Value).toArray below meth c H locs 0 0 (MQ below (va_Qv (fun (u : Nat → Int32) => Q u) (mB D (va_A (arB I f nf xf ++ arB I t nt xt) sz) (fun u => arB I f nf xf ++ arB I t nt u)) (va_A (arB I f nf xf ++ arB I t nt xt) sz)) ([.ref f, .int p2, .ref t, .int p4] : List Value).toArray s 0 0 (va_A (arB I f nf xf ++ arB I t nt xt) sz)) (F0 m 28 ls [])) (n6 : Nat) (i2 : Int32) (w3 : Nat → Int32) (H : Heap) (locs : List Loc) (ls : Array Slot), va_P D vwCl (arB I f nf xf ++ arB I t nt w3) H → va_D (va_A (arB I f nf xf ++ arB I t nt xt) sz) (arB I f nf xf ++ arB I t nt w3) → va_S (va_A (arB I f nf xf ++ arB I t nt xt) sz) s.heap H locs → lv_has ls 7 [(4, .int i2), (0, .ref f), (1, .int p2), (2, .ref t), (3, .int p4)] → qX3_copy_L3 p2 p4 xf nf nt K4 n6 i2 w3 → W p l e rX3_copy s m ([.ref f, .int p2, .ref t, .int p4] : List Value).toArray below meth c H locs 0 0 (MQ below (va_Qv (fun (u : Nat → Int32) => Q u) (mB D (va_A (arB I f nf xf ++ arB I t nt xt) sz) (fun u => arB I f nf xf ++ arB I t nt u)) (va_A (arB I f nf xf ++ arB I t nt xt) sz)) ([.ref f, .int p2, .ref t, .int p4] : List Value).toArray s 0 0 (va_A (arB I f nf xf ++ arB I t nt xt) sz)) (F0 m 3 ls []) := by
    intro K4 hx5 n6
    induction n6 with
    | zero =>
      intro i2 w3 H locs ls hP hD hS hl hw
      exact hw.elim
    | succ n6 ihn6 =>
      intro i2 w3 H locs ls hP hD hS hl hw
      unfold qX3_copy_L3 at hw
      refine lv_iload hx hb dX3_copy_3 (lv_at hl 0 rfl) ?_
      refine lv_bipush (v := 16) hx hb dX3_copy_5 (by decide) ?_
      refine lv_icmp_ge (tgt := 28) hx hb dX3_copy_7 (by decide) (fun c8 => ?_) (fun c8 => ?_)
      · have hw := hw.1 c8
        exact hx5 i2 w3 H locs ls hP hD hS (lv_sub hl [0, 1, 2, 3, 4] rfl) hw
      · have hw := hw.2 c8
        refine lv_aload_n hx hb dX3_copy_10 rfl (lv_at hl 3 rfl) ?_
        refine lv_iload_n hx hb dX3_copy_11 rfl (lv_at hl 4 rfl) ?_
        refine lv_iload hx hb dX3_copy_12 (lv_at hl 0 rfl) ?_
        refine lv_iadd hx hb dX3_copy_14 ?_
        refine lv_aload_n hx hb dX3_copy_15 rfl (lv_at hl 1 rfl) ?_
        refine lv_iload_n hx hb dX3_copy_16 rfl (lv_at hl 2 rfl) ?_
        refine lv_iload hx hb dX3_copy_17 (lv_at hl 0 rfl) ?_
        refine lv_iadd hx hb dX3_copy_19 ?_
        obtain ⟨h9, hw⟩ := hw
        refine va_iald hx hb hK.1 hP 0 0 rfl rfl h9 dX3_copy_20 ?_
        obtain ⟨h10, hw⟩ := hw
        refine va_iast hx hb hK.1 hP hD hS 1 0 rfl rfl h10 dX3_copy_21 (fun H locs hP hD hS => ?_)
        have hP : va_P D vwCl (arB I f nf xf ++ arB I t nt (upd w3 (Int32.toNatClampNeg (p4 + i2)) (xf (Int32.toNatClampNeg (p2 + i2))))) H := hP
        have hD : va_D (va_A (arB I f nf xf ++ arB I t nt xt) sz) (arB I f nf xf ++ arB I t nt (upd w3 (Int32.toNatClampNeg (p4 + i2)) (xf (Int32.toNatClampNeg (p2 + i2))))) := hD
        refine lv_iinc (v := i2 + 1) (lv' := [(4, .int (i2 + 1)), (0, .ref f), (1, .int p2), (2, .ref t), (3, .int p4)]) hx hb dX3_copy_22 hl (k := 0) rfl (congrArg (fun z => i2 + z) (show Int32.ofInt 1 = 1 from by decide)) (by decide) rfl (fun ls hl => ?_)
        refine lv_goto (tgt := 3) hx hb dX3_copy_25 (by decide) ?_
        exact ihn6 (i2 + 1) (upd w3 (Int32.toNatClampNeg (p4 + i2)) (xf (Int32.toNatClampNeg (p2 + i2)))) H locs ls hP hD hS (lv_sub hl [0, 1, 2, 3, 4] rfl) hw
  refine ky7 _ (fun i2 w3 H locs ls hP hD hS hl hw => ?_) n1 0 xt H locs ls hP hD hS (lv_sub hl [0, 1, 2, 3, 4] rfl) hw
  refine lv_iconst (v := 0) hx hb dX3_copy_28 (by decide) ?_
  refine lv_istore (lv' := [(4, .int 0), (0, .ref f), (1, .int p2), (2, .ref t), (3, .int p4)]) hx hb dX3_copy_29 hl (by decide) rfl (fun ls hl => ?_)
  refine lv_iload hx hb dX3_copy_31 (lv_at hl 0 rfl) ?_
  refine lv_iconst (v := 2) hx hb dX3_copy_33 (by decide) ?_
  refine lv_icmp_ge (tgt := 121) hx hb dX3_copy_34 (by decide) (fun c11 => ?_) (fun c11 => ?_)
  · exact absurd c11 (show ¬ ((2 : Int32) ≤ (0 : Int32)) from by decide)
  · refine lv_bipush (v := 16) hx hb dX3_copy_37 (by decide) ?_
    refine lv_sipush (v := 2200) hx hb dX3_copy_39 (by decide) ?_
    refine lv_iload hx hb dX3_copy_42 (lv_at hl 0 rfl) ?_
    refine lv_imul hx hb dX3_copy_44 ?_
    rw [show ((2200 : Int32) * 0) = 0 from by decide]
    refine lv_iadd hx hb dX3_copy_45 ?_
    rw [show ((16 : Int32) + 0) = 16 from by decide]
    refine lv_istore (lv' := [(5, .int 16), (4, .int 0), (0, .ref f), (1, .int p2), (2, .ref t), (3, .int p4)]) hx hb dX3_copy_46 hl (by decide) rfl (fun ls hl => ?_)
    refine lv_iconst (v := 0) hx hb dX3_copy_48 (by decide) ?_
    refine lv_istore (lv' := [(6, .int 0), (5, .int 16), (4, .int 0), (0, .ref f), (1, .int p2), (2, .ref t), (3, .int p4)]) hx hb dX3_copy_49 hl (by decide) rfl (fun ls hl => ?_)
    obtain ⟨n12, hw⟩ := hw
    have ky18 : ∀ (K15 : Int32 → (Nat → Int32) → Prop) (_ : ∀ (i13 : Int32) (w14 : Nat → Int32) (H : Heap) (locs : List Loc) (ls : Array Slot), va_P D vwCl (arB I f nf xf ++ arB I t nt w14) H → va_D (va_A (arB I f nf xf ++ arB I t nt xt) sz) (arB I f nf xf ++ arB I t nt w14) → va_S (va_A (arB I f nf xf ++ arB I t nt xt) sz) s.heap H locs → lv_has ls 7 [(6, .int i13), (5, .int 16), (4, .int 0), (0, .ref f), (1, .int p2), (2, .ref t), (3, .int p4)] → K15 i13 w14 → W p l e rX3_copy s m ([.ref f, .int p2, .ref t, .int p4] : List Value).toArray below meth c H locs 0 0 (MQ below (va_Qv (fun (u : Nat → Int32) => Q u) (mB D (va_A (arB I f nf xf ++ arB I t nt xt) sz) (fun u => arB I f nf xf ++ arB I t nt u)) (va_A (arB I f nf xf ++ arB I t nt xt) sz)) ([.ref f, .int p2, .ref t, .int p4] : List Value).toArray s 0 0 (va_A (arB I f nf xf ++ arB I t nt xt) sz)) (F0 m 115 ls [])) (n17 : Nat) (i13 : Int32) (w14 : Nat → Int32) (H : Heap) (locs : List Loc) (ls : Array Slot), va_P D vwCl (arB I f nf xf ++ arB I t nt w14) H → va_D (va_A (arB I f nf xf ++ arB I t nt xt) sz) (arB I f nf xf ++ arB I t nt w14) → va_S (va_A (arB I f nf xf ++ arB I t nt xt) sz) s.heap H locs → lv_has ls 7 [(6, .int i13), (5, .int 16), (4, .int 0), (0, .ref f), (1, .int p2), (2, .ref t), (3, .int p4)] → qX3_copy_L51 p2 p4 xf nf nt K15 n17 i13 w14 → W p l e rX3_copy s m ([.ref f, .int p2, .ref t, .int p4] : List Value).toArray below meth c H locs 0 0 (MQ below (va_Qv (fun (u : Nat → Int32) => Q u) (mB D (va_A (arB I f nf xf ++ arB I t nt xt) sz) (fun u => arB I f nf xf ++ arB I t nt u)) (va_A (arB I f nf xf ++ arB I t nt xt) sz)) ([.ref f, .int p2, .ref t, .int p4] : List Value).toArray s 0 0 (va_A (arB I f nf xf ++ arB I t nt xt) sz)) (F0 m 51 ls []) := by
      intro K15 hx16 n17
      induction n17 with
      | zero =>
        intro i13 w14 H locs ls hP hD hS hl hw
        exact hw.elim
      | succ n17 ihn17 =>
        intro i13 w14 H locs ls hP hD hS hl hw
        unfold qX3_copy_L51 at hw
        refine lv_iload hx hb dX3_copy_51 (lv_at hl 0 rfl) ?_
        refine lv_aload_n hx hb dX3_copy_53 rfl (lv_at hl 3 rfl) ?_
        refine lv_iload_n hx hb dX3_copy_54 rfl (lv_at hl 4 rfl) ?_
        refine lv_bipush (v := 11) hx hb dX3_copy_55 (by decide) ?_
        refine lv_iadd hx hb dX3_copy_57 ?_
        refine lv_iload hx hb dX3_copy_58 (lv_at hl 2 rfl) ?_
        refine lv_iadd hx hb dX3_copy_60 ?_
        obtain ⟨h19, hw⟩ := hw
        refine va_iald hx hb hK.1 hP 0 0 rfl rfl h19 dX3_copy_61 ?_
        refine lv_icmp_ge (tgt := 115) hx hb dX3_copy_62 (by decide) (fun c20 => ?_) (fun c20 => ?_)
        · have hw := hw.1 c20
          exact hx16 i13 w14 H locs ls hP hD hS (lv_sub hl [0, 1, 2, 3, 4, 5, 6] rfl) hw
        · have hw := hw.2 c20
          refine lv_aload_n hx hb dX3_copy_65 rfl (lv_at hl 5 rfl) ?_
          refine lv_iload_n hx hb dX3_copy_66 rfl (lv_at hl 6 rfl) ?_
          refine lv_iload hx hb dX3_copy_67 (lv_at hl 1 rfl) ?_
          refine lv_iadd hx hb dX3_copy_69 ?_
          refine lv_iload hx hb dX3_copy_70 (lv_at hl 0 rfl) ?_
          refine lv_iadd hx hb dX3_copy_72 ?_
          refine lv_aload_n hx hb dX3_copy_73 rfl (lv_at hl 3 rfl) ?_
          refine lv_iload_n hx hb dX3_copy_74 rfl (lv_at hl 4 rfl) ?_
          refine lv_iload hx hb dX3_copy_75 (lv_at hl 1 rfl) ?_
          refine lv_iadd hx hb dX3_copy_77 ?_
          refine lv_iload hx hb dX3_copy_78 (lv_at hl 0 rfl) ?_
          refine lv_iadd hx hb dX3_copy_80 ?_
          obtain ⟨h21, hw⟩ := hw
          refine va_iald hx hb hK.1 hP 0 0 rfl rfl h21 dX3_copy_81 ?_
          obtain ⟨h22, hw⟩ := hw
          refine va_iast hx hb hK.1 hP hD hS 1 0 rfl rfl h22 dX3_copy_82 (fun H locs hP hD hS => ?_)
          have hP : va_P D vwCl (arB I f nf xf ++ arB I t nt (upd w14 (Int32.toNatClampNeg ((p4 + 16) + i13)) (xf (Int32.toNatClampNeg ((p2 + 16) + i13))))) H := hP
          have hD : va_D (va_A (arB I f nf xf ++ arB I t nt xt) sz) (arB I f nf xf ++ arB I t nt (upd w14 (Int32.toNatClampNeg ((p4 + 16) + i13)) (xf (Int32.toNatClampNeg ((p2 + 16) + i13))))) := hD
          refine lv_aload_n hx hb dX3_copy_83 rfl (lv_at hl 5 rfl) ?_
          refine lv_iload_n hx hb dX3_copy_84 rfl (lv_at hl 6 rfl) ?_
          refine lv_iload hx hb dX3_copy_85 (lv_at hl 1 rfl) ?_
          refine lv_iadd hx hb dX3_copy_87 ?_
          refine lv_sipush (v := 1100) hx hb dX3_copy_88 (by decide) ?_
          refine lv_iadd hx hb dX3_copy_91 ?_
          refine lv_iload hx hb dX3_copy_92 (lv_at hl 0 rfl) ?_
          refine lv_iadd hx hb dX3_copy_94 ?_
          refine lv_aload_n hx hb dX3_copy_95 rfl (lv_at hl 3 rfl) ?_
          refine lv_iload_n hx hb dX3_copy_96 rfl (lv_at hl 4 rfl) ?_
          refine lv_iload hx hb dX3_copy_97 (lv_at hl 1 rfl) ?_
          refine lv_iadd hx hb dX3_copy_99 ?_
          refine lv_sipush (v := 1100) hx hb dX3_copy_100 (by decide) ?_
          refine lv_iadd hx hb dX3_copy_103 ?_
          refine lv_iload hx hb dX3_copy_104 (lv_at hl 0 rfl) ?_
          refine lv_iadd hx hb dX3_copy_106 ?_
          obtain ⟨h23, hw⟩ := hw
          refine va_iald hx hb hK.1 hP 0 0 rfl rfl h23 dX3_copy_107 ?_
          obtain ⟨h24, hw⟩ := hw
          refine va_iast hx hb hK.1 hP hD hS 1 0 rfl rfl h24 dX3_copy_108 (fun H locs hP hD hS => ?_)
          have hP : va_P D vwCl (arB I f nf xf ++ arB I t nt (upd (upd w14 (Int32.toNatClampNeg ((p4 + 16) + i13)) (xf (Int32.toNatClampNeg ((p2 + 16) + i13)))) (Int32.toNatClampNeg (((p4 + 16) + 1100) + i13)) (xf (Int32.toNatClampNeg (((p2 + 16) + 1100) + i13))))) H := hP
          have hD : va_D (va_A (arB I f nf xf ++ arB I t nt xt) sz) (arB I f nf xf ++ arB I t nt (upd (upd w14 (Int32.toNatClampNeg ((p4 + 16) + i13)) (xf (Int32.toNatClampNeg ((p2 + 16) + i13)))) (Int32.toNatClampNeg (((p4 + 16) + 1100) + i13)) (xf (Int32.toNatClampNeg (((p2 + 16) + 1100) + i13))))) := hD
          refine lv_iinc (v := i13 + 1) (lv' := [(6, .int (i13 + 1)), (5, .int 16), (4, .int 0), (0, .ref f), (1, .int p2), (2, .ref t), (3, .int p4)]) hx hb dX3_copy_109 hl (k := 0) rfl (congrArg (fun z => i13 + z) (show Int32.ofInt 1 = 1 from by decide)) (by decide) rfl (fun ls hl => ?_)
          refine lv_goto (tgt := 51) hx hb dX3_copy_112 (by decide) ?_
          exact ihn17 (i13 + 1) (upd (upd w14 (Int32.toNatClampNeg ((p4 + 16) + i13)) (xf (Int32.toNatClampNeg ((p2 + 16) + i13)))) (Int32.toNatClampNeg (((p4 + 16) + 1100) + i13)) (xf (Int32.toNatClampNeg (((p2 + 16) + 1100) + i13)))) H locs ls hP hD hS (lv_sub hl [0, 1, 2, 3, 4, 5, 6] rfl) hw
    refine ky18 _ (fun i13 w14 H locs ls hP hD hS hl hw => ?_) n12 0 w3 H locs ls hP hD hS (lv_sub hl [0, 1, 2, 3, 4, 5, 6] rfl) hw
    refine lv_iinc (v := 1) (lv' := [(4, .int 1), (6, .int i13), (5, .int 16), (0, .ref f), (1, .int p2), (2, .ref t), (3, .int p4)]) hx hb dX3_copy_115 hl (k := 2) rfl (by decide) (by decide) rfl (fun ls hl => ?_)
    refine lv_goto (tgt := 31) hx hb dX3_copy_118 (by decide) ?_
    refine lv_iload hx hb dX3_copy_31 (lv_at hl 0 rfl) ?_
    refine lv_iconst (v := 2) hx hb dX3_copy_33 (by decide) ?_
    refine lv_icmp_ge (tgt := 121) hx hb dX3_copy_34 (by decide) (fun c25 => ?_) (fun c25 => ?_)
    · exact absurd c25 (show ¬ ((2 : Int32) ≤ (1 : Int32)) from by decide)
    · refine lv_bipush (v := 16) hx hb dX3_copy_37 (by decide) ?_
      refine lv_sipush (v := 2200) hx hb dX3_copy_39 (by decide) ?_
      refine lv_iload hx hb dX3_copy_42 (lv_at hl 0 rfl) ?_
      refine lv_imul hx hb dX3_copy_44 ?_
      rw [show ((2200 : Int32) * 1) = 2200 from by decide]
      refine lv_iadd hx hb dX3_copy_45 ?_
      rw [show ((16 : Int32) + 2200) = 2216 from by decide]
      refine lv_istore (lv' := [(5, .int 2216), (4, .int 1), (6, .int i13), (0, .ref f), (1, .int p2), (2, .ref t), (3, .int p4)]) hx hb dX3_copy_46 hl (by decide) rfl (fun ls hl => ?_)
      refine lv_iconst (v := 0) hx hb dX3_copy_48 (by decide) ?_
      refine lv_istore (lv' := [(6, .int 0), (5, .int 2216), (4, .int 1), (0, .ref f), (1, .int p2), (2, .ref t), (3, .int p4)]) hx hb dX3_copy_49 hl (by decide) rfl (fun ls hl => ?_)
      obtain ⟨n26, hw⟩ := hw
      have ky32 : ∀ (K29 : Int32 → (Nat → Int32) → Prop) (_ : ∀ (i27 : Int32) (w28 : Nat → Int32) (H : Heap) (locs : List Loc) (ls : Array Slot), va_P D vwCl (arB I f nf xf ++ arB I t nt w28) H → va_D (va_A (arB I f nf xf ++ arB I t nt xt) sz) (arB I f nf xf ++ arB I t nt w28) → va_S (va_A (arB I f nf xf ++ arB I t nt xt) sz) s.heap H locs → lv_has ls 7 [(6, .int i27), (5, .int 2216), (4, .int 1), (0, .ref f), (1, .int p2), (2, .ref t), (3, .int p4)] → K29 i27 w28 → W p l e rX3_copy s m ([.ref f, .int p2, .ref t, .int p4] : List Value).toArray below meth c H locs 0 0 (MQ below (va_Qv (fun (u : Nat → Int32) => Q u) (mB D (va_A (arB I f nf xf ++ arB I t nt xt) sz) (fun u => arB I f nf xf ++ arB I t nt u)) (va_A (arB I f nf xf ++ arB I t nt xt) sz)) ([.ref f, .int p2, .ref t, .int p4] : List Value).toArray s 0 0 (va_A (arB I f nf xf ++ arB I t nt xt) sz)) (F0 m 115 ls [])) (n31 : Nat) (i27 : Int32) (w28 : Nat → Int32) (H : Heap) (locs : List Loc) (ls : Array Slot), va_P D vwCl (arB I f nf xf ++ arB I t nt w28) H → va_D (va_A (arB I f nf xf ++ arB I t nt xt) sz) (arB I f nf xf ++ arB I t nt w28) → va_S (va_A (arB I f nf xf ++ arB I t nt xt) sz) s.heap H locs → lv_has ls 7 [(6, .int i27), (5, .int 2216), (4, .int 1), (0, .ref f), (1, .int p2), (2, .ref t), (3, .int p4)] → qX3_copy_L51b p2 p4 xf nf nt K29 n31 i27 w28 → W p l e rX3_copy s m ([.ref f, .int p2, .ref t, .int p4] : List Value).toArray below meth c H locs 0 0 (MQ below (va_Qv (fun (u : Nat → Int32) => Q u) (mB D (va_A (arB I f nf xf ++ arB I t nt xt) sz) (fun u => arB I f nf xf ++ arB I t nt u)) (va_A (arB I f nf xf ++ arB I t nt xt) sz)) ([.ref f, .int p2, .ref t, .int p4] : List Value).toArray s 0 0 (va_A (arB I f nf xf ++ arB I t nt xt) sz)) (F0 m 51 ls []) := by
        intro K29 hx30 n31
        induction n31 with
        | zero =>
          intro i27 w28 H locs ls hP hD hS hl hw
          exact hw.elim
        | succ n31 ihn31 =>
          intro i27 w28 H locs ls hP hD hS hl hw
          unfold qX3_copy_L51b at hw
          refine lv_iload hx hb dX3_copy_51 (lv_at hl 0 rfl) ?_
          refine lv_aload_n hx hb dX3_copy_53 rfl (lv_at hl 3 rfl) ?_
          refine lv_iload_n hx hb dX3_copy_54 rfl (lv_at hl 4 rfl) ?_
          refine lv_bipush (v := 11) hx hb dX3_copy_55 (by decide) ?_
          refine lv_iadd hx hb dX3_copy_57 ?_
          refine lv_iload hx hb dX3_copy_58 (lv_at hl 2 rfl) ?_
          refine lv_iadd hx hb dX3_copy_60 ?_
          obtain ⟨h33, hw⟩ := hw
          refine va_iald hx hb hK.1 hP 0 0 rfl rfl h33 dX3_copy_61 ?_
          refine lv_icmp_ge (tgt := 115) hx hb dX3_copy_62 (by decide) (fun c34 => ?_) (fun c34 => ?_)
          · have hw := hw.1 c34
            exact hx30 i27 w28 H locs ls hP hD hS (lv_sub hl [0, 1, 2, 3, 4, 5, 6] rfl) hw
          · have hw := hw.2 c34
            refine lv_aload_n hx hb dX3_copy_65 rfl (lv_at hl 5 rfl) ?_
            refine lv_iload_n hx hb dX3_copy_66 rfl (lv_at hl 6 rfl) ?_
            refine lv_iload hx hb dX3_copy_67 (lv_at hl 1 rfl) ?_
            refine lv_iadd hx hb dX3_copy_69 ?_
            refine lv_iload hx hb dX3_copy_70 (lv_at hl 0 rfl) ?_
            refine lv_iadd hx hb dX3_copy_72 ?_
            refine lv_aload_n hx hb dX3_copy_73 rfl (lv_at hl 3 rfl) ?_
            refine lv_iload_n hx hb dX3_copy_74 rfl (lv_at hl 4 rfl) ?_
            refine lv_iload hx hb dX3_copy_75 (lv_at hl 1 rfl) ?_
            refine lv_iadd hx hb dX3_copy_77 ?_
            refine lv_iload hx hb dX3_copy_78 (lv_at hl 0 rfl) ?_
            refine lv_iadd hx hb dX3_copy_80 ?_
            obtain ⟨h35, hw⟩ := hw
            refine va_iald hx hb hK.1 hP 0 0 rfl rfl h35 dX3_copy_81 ?_
            obtain ⟨h36, hw⟩ := hw
            refine va_iast hx hb hK.1 hP hD hS 1 0 rfl rfl h36 dX3_copy_82 (fun H locs hP hD hS => ?_)
            have hP : va_P D vwCl (arB I f nf xf ++ arB I t nt (upd w28 (Int32.toNatClampNeg ((p4 + 2216) + i27)) (xf (Int32.toNatClampNeg ((p2 + 2216) + i27))))) H := hP
            have hD : va_D (va_A (arB I f nf xf ++ arB I t nt xt) sz) (arB I f nf xf ++ arB I t nt (upd w28 (Int32.toNatClampNeg ((p4 + 2216) + i27)) (xf (Int32.toNatClampNeg ((p2 + 2216) + i27))))) := hD
            refine lv_aload_n hx hb dX3_copy_83 rfl (lv_at hl 5 rfl) ?_
            refine lv_iload_n hx hb dX3_copy_84 rfl (lv_at hl 6 rfl) ?_
            refine lv_iload hx hb dX3_copy_85 (lv_at hl 1 rfl) ?_
            refine lv_iadd hx hb dX3_copy_87 ?_
            refine lv_sipush (v := 1100) hx hb dX3_copy_88 (by decide) ?_
            refine lv_iadd hx hb dX3_copy_91 ?_
            refine lv_iload hx hb dX3_copy_92 (lv_at hl 0 rfl) ?_
            refine lv_iadd hx hb dX3_copy_94 ?_
            refine lv_aload_n hx hb dX3_copy_95 rfl (lv_at hl 3 rfl) ?_
            refine lv_iload_n hx hb dX3_copy_96 rfl (lv_at hl 4 rfl) ?_
            refine lv_iload hx hb dX3_copy_97 (lv_at hl 1 rfl) ?_
            refine lv_iadd hx hb dX3_copy_99 ?_
            refine lv_sipush (v := 1100) hx hb dX3_copy_100 (by decide) ?_
            refine lv_iadd hx hb dX3_copy_103 ?_
            refine lv_iload hx hb dX3_copy_104 (lv_at hl 0 rfl) ?_
            refine lv_iadd hx hb dX3_copy_106 ?_
            obtain ⟨h37, hw⟩ := hw
            refine va_iald hx hb hK.1 hP 0 0 rfl rfl h37 dX3_copy_107 ?_
            obtain ⟨h38, hw⟩ := hw
            refine va_iast hx hb hK.1 hP hD hS 1 0 rfl rfl h38 dX3_copy_108 (fun H locs hP hD hS => ?_)
            have hP : va_P D vwCl (arB I f nf xf ++ arB I t nt (upd (upd w28 (Int32.toNatClampNeg ((p4 + 2216) + i27)) (xf (Int32.toNatClampNeg ((p2 + 2216) + i27)))) (Int32.toNatClampNeg (((p4 + 2216) + 1100) + i27)) (xf (Int32.toNatClampNeg (((p2 + 2216) + 1100) + i27))))) H := hP
            have hD : va_D (va_A (arB I f nf xf ++ arB I t nt xt) sz) (arB I f nf xf ++ arB I t nt (upd (upd w28 (Int32.toNatClampNeg ((p4 + 2216) + i27)) (xf (Int32.toNatClampNeg ((p2 + 2216) + i27)))) (Int32.toNatClampNeg (((p4 + 2216) + 1100) + i27)) (xf (Int32.toNatClampNeg (((p2 + 2216) + 1100) + i27))))) := hD
            refine lv_iinc (v := i27 + 1) (lv' := [(6, .int (i27 + 1)), (5, .int 2216), (4, .int 1), (0, .ref f), (1, .int p2), (2, .ref t), (3, .int p4)]) hx hb dX3_copy_109 hl (k := 0) rfl (congrArg (fun z => i27 + z) (show Int32.ofInt 1 = 1 from by decide)) (by decide) rfl (fun ls hl => ?_)
            refine lv_goto (tgt := 51) hx hb dX3_copy_112 (by decide) ?_
            exact ihn31 (i27 + 1) (upd (upd w28 (Int32.toNatClampNeg ((p4 + 2216) + i27)) (xf (Int32.toNatClampNeg ((p2 + 2216) + i27)))) (Int32.toNatClampNeg (((p4 + 2216) + 1100) + i27)) (xf (Int32.toNatClampNeg (((p2 + 2216) + 1100) + i27)))) H locs ls hP hD hS (lv_sub hl [0, 1, 2, 3, 4, 5, 6] rfl) hw
      refine ky32 _ (fun i27 w28 H locs ls hP hD hS hl hw => ?_) n26 0 w14 H locs ls hP hD hS (lv_sub hl [0, 1, 2, 3, 4, 5, 6] rfl) hw
      refine lv_iinc (v := 2) (lv' := [(4, .int 2), (6, .int i27), (5, .int 2216), (0, .ref f), (1, .int p2), (2, .ref t), (3, .int p4)]) hx hb dX3_copy_115 hl (k := 2) rfl (by decide) (by decide) rfl (fun ls hl => ?_)
      refine lv_goto (tgt := 31) hx hb dX3_copy_118 (by decide) ?_
      refine lv_iload hx hb dX3_copy_31 (lv_at hl 0 rfl) ?_
      refine lv_iconst (v := 2) hx hb dX3_copy_33 (by decide) ?_
      refine lv_icmp_ge (tgt := 121) hx hb dX3_copy_34 (by decide) (fun c39 => ?_) (fun c39 => ?_)
      · exact m_vret (u := w28) hx hb hr hlocks hS hP hD dX3_copy_121 hw
      · exact absurd (show (2 : Int32) ≤ (2 : Int32) from by decide) c39
set_option maxHeartbeats 4000000 in
set_option maxRecDepth 100000 in
theorem kX3_copy_tf (l : Launch) (D : va_G) (I O : ClassId) (f : Nat) (t : Nat) (sz : Nat) (nf : Nat) (nt : Nat) (xf : Nat → Int32) (xt : Nat → Int32) (p2 : Int32) (p4 : Int32) (Q : (Nat → Int32) → Prop) (hw : qX3_copy nf nt xf xt p2 p4 Q) : Met l yX3_copy wsX3_copy rX3_copy (mPc D I O [.ref f, .int p2, .ref t, .int p4] (arB I t nt xt ++ arB I f nf xf) sz) (va_Qv (fun (u : Nat → Int32) => Q u) (mB D (va_A (arB I t nt xt ++ arB I f nf xf) sz) (fun u => arB I t nt u ++ arB I f nf xf)) (va_A (arB I t nt xt ++ arB I f nf xf) sz)) 0 0 (va_A (arB I t nt xt ++ arB I f nf xf) sz) := by
  refine m_start (by decide) rfl (Nat.le_of_ble_eq_true rfl) (fun p e s m below meth c ls H locs hx hb hr hml hts hown hlocks hnm hK hP hD hA hS hl => ?_)
  have hown : s.vm.findClass RX3 = some m.cls := hown
  have hl : lv_has ls 7 [(0, .ref f), (1, .int p2), (2, .ref t), (3, .int p4)] := hl
  unfold qX3_copy at hw
  refine lv_iconst (v := 0) hx hb dX3_copy_0 (by decide) ?_
  refine lv_istore (lv' := [(4, .int 0), (0, .ref f), (1, .int p2), (2, .ref t), (3, .int p4)]) hx hb dX3_copy_1 hl (by decide) rfl (fun ls hl => ?_)
  obtain ⟨n1, hw⟩ := hw
  have ky7 : ∀ (K4 : Int32 → (Nat → Int32) → Prop) (_ : ∀ (i2 : Int32) (w3 : Nat → Int32) (H : Heap) (locs : List Loc) (ls : Array Slot), va_P D vwCl (arB I t nt w3 ++ arB I f nf xf) H → va_D (va_A (arB I t nt xt ++ arB I f nf xf) sz) (arB I t nt w3 ++ arB I f nf xf) → va_S (va_A (arB I t nt xt ++ arB I f nf xf) sz) s.heap H locs → lv_has ls 7 [(4, .int i2), (0, .ref f), (1, .int p2), (2, .ref t), (3, .int p4)] → K4 i2 w3 → W p l e rX3_copy s m ([.ref f, .int p2, .ref t, .int p4] : List Value).toArray below meth c H locs 0 0 (MQ below (va_Qv (fun (u : Nat → Int32) => Q u) (mB D (va_A (arB I t nt xt ++ arB I f nf xf) sz) (fun u => arB I t nt u ++ arB I f nf xf)) (va_A (arB I t nt xt ++ arB I f nf xf) sz)) ([.ref f, .int p2, .ref t, .int p4] : List Value).toArray s 0 0 (va_A (arB I t nt xt ++ arB I f nf xf) sz)) (F0 m 28 ls [])) (n6 : Nat) (i2 : Int32) (w3 : Nat → Int32) (H : Heap) (locs : List Loc) (ls : Array Slot), va_P D vwCl (arB I t nt w3 ++ arB I f nf xf) H → va_D (va_A (arB I t nt xt ++ arB I f nf xf) sz) (arB I t nt w3 ++ arB I f nf xf) → va_S (va_A (arB I t nt xt ++ arB I f nf xf) sz) s.heap H locs → lv_has ls 7 [(4, .int i2), (0, .ref f), (1, .int p2), (2, .ref t), (3, .int p4)] → qX3_copy_L3 p2 p4 xf nf nt K4 n6 i2 w3 → W p l e rX3_copy s m ([.ref f, .int p2, .ref t, .int p4] : List Value).toArray below meth c H locs 0 0 (MQ below (va_Qv (fun (u : Nat → Int32) => Q u) (mB D (va_A (arB I t nt xt ++ arB I f nf xf) sz) (fun u => arB I t nt u ++ arB I f nf xf)) (va_A (arB I t nt xt ++ arB I f nf xf) sz)) ([.ref f, .int p2, .ref t, .int p4] : List Value).toArray s 0 0 (va_A (arB I t nt xt ++ arB I f nf xf) sz)) (F0 m 3 ls []) := by
    intro K4 hx5 n6
    induction n6 with
    | zero =>
      intro i2 w3 H locs ls hP hD hS hl hw
      exact hw.elim
    | succ n6 ihn6 =>
      intro i2 w3 H locs ls hP hD hS hl hw
      unfold qX3_copy_L3 at hw
      refine lv_iload hx hb dX3_copy_3 (lv_at hl 0 rfl) ?_
      refine lv_bipush (v := 16) hx hb dX3_copy_5 (by decide) ?_
      refine lv_icmp_ge (tgt := 28) hx hb dX3_copy_7 (by decide) (fun c8 => ?_) (fun c8 => ?_)
      · have hw := hw.1 c8
        exact hx5 i2 w3 H locs ls hP hD hS (lv_sub hl [0, 1, 2, 3, 4] rfl) hw
      · have hw := hw.2 c8
        refine lv_aload_n hx hb dX3_copy_10 rfl (lv_at hl 3 rfl) ?_
        refine lv_iload_n hx hb dX3_copy_11 rfl (lv_at hl 4 rfl) ?_
        refine lv_iload hx hb dX3_copy_12 (lv_at hl 0 rfl) ?_
        refine lv_iadd hx hb dX3_copy_14 ?_
        refine lv_aload_n hx hb dX3_copy_15 rfl (lv_at hl 1 rfl) ?_
        refine lv_iload_n hx hb dX3_copy_16 rfl (lv_at hl 2 rfl) ?_
        refine lv_iload hx hb dX3_copy_17 (lv_at hl 0 rfl) ?_
        refine lv_iadd hx hb dX3_copy_19 ?_
        obtain ⟨h9, hw⟩ := hw
        refine va_iald hx hb hK.1 hP 1 0 rfl rfl h9 dX3_copy_20 ?_
        obtain ⟨h10, hw⟩ := hw
        refine va_iast hx hb hK.1 hP hD hS 0 0 rfl rfl h10 dX3_copy_21 (fun H locs hP hD hS => ?_)
        have hP : va_P D vwCl (arB I t nt (upd w3 (Int32.toNatClampNeg (p4 + i2)) (xf (Int32.toNatClampNeg (p2 + i2)))) ++ arB I f nf xf) H := hP
        have hD : va_D (va_A (arB I t nt xt ++ arB I f nf xf) sz) (arB I t nt (upd w3 (Int32.toNatClampNeg (p4 + i2)) (xf (Int32.toNatClampNeg (p2 + i2)))) ++ arB I f nf xf) := hD
        refine lv_iinc (v := i2 + 1) (lv' := [(4, .int (i2 + 1)), (0, .ref f), (1, .int p2), (2, .ref t), (3, .int p4)]) hx hb dX3_copy_22 hl (k := 0) rfl (congrArg (fun z => i2 + z) (show Int32.ofInt 1 = 1 from by decide)) (by decide) rfl (fun ls hl => ?_)
        refine lv_goto (tgt := 3) hx hb dX3_copy_25 (by decide) ?_
        exact ihn6 (i2 + 1) (upd w3 (Int32.toNatClampNeg (p4 + i2)) (xf (Int32.toNatClampNeg (p2 + i2)))) H locs ls hP hD hS (lv_sub hl [0, 1, 2, 3, 4] rfl) hw
  refine ky7 _ (fun i2 w3 H locs ls hP hD hS hl hw => ?_) n1 0 xt H locs ls hP hD hS (lv_sub hl [0, 1, 2, 3, 4] rfl) hw
  refine lv_iconst (v := 0) hx hb dX3_copy_28 (by decide) ?_
  refine lv_istore (lv' := [(4, .int 0), (0, .ref f), (1, .int p2), (2, .ref t), (3, .int p4)]) hx hb dX3_copy_29 hl (by decide) rfl (fun ls hl => ?_)
  refine lv_iload hx hb dX3_copy_31 (lv_at hl 0 rfl) ?_
  refine lv_iconst (v := 2) hx hb dX3_copy_33 (by decide) ?_
  refine lv_icmp_ge (tgt := 121) hx hb dX3_copy_34 (by decide) (fun c11 => ?_) (fun c11 => ?_)
  · exact absurd c11 (show ¬ ((2 : Int32) ≤ (0 : Int32)) from by decide)
  · refine lv_bipush (v := 16) hx hb dX3_copy_37 (by decide) ?_
    refine lv_sipush (v := 2200) hx hb dX3_copy_39 (by decide) ?_
    refine lv_iload hx hb dX3_copy_42 (lv_at hl 0 rfl) ?_
    refine lv_imul hx hb dX3_copy_44 ?_
    rw [show ((2200 : Int32) * 0) = 0 from by decide]
    refine lv_iadd hx hb dX3_copy_45 ?_
    rw [show ((16 : Int32) + 0) = 16 from by decide]
    refine lv_istore (lv' := [(5, .int 16), (4, .int 0), (0, .ref f), (1, .int p2), (2, .ref t), (3, .int p4)]) hx hb dX3_copy_46 hl (by decide) rfl (fun ls hl => ?_)
    refine lv_iconst (v := 0) hx hb dX3_copy_48 (by decide) ?_
    refine lv_istore (lv' := [(6, .int 0), (5, .int 16), (4, .int 0), (0, .ref f), (1, .int p2), (2, .ref t), (3, .int p4)]) hx hb dX3_copy_49 hl (by decide) rfl (fun ls hl => ?_)
    obtain ⟨n12, hw⟩ := hw
    have ky18 : ∀ (K15 : Int32 → (Nat → Int32) → Prop) (_ : ∀ (i13 : Int32) (w14 : Nat → Int32) (H : Heap) (locs : List Loc) (ls : Array Slot), va_P D vwCl (arB I t nt w14 ++ arB I f nf xf) H → va_D (va_A (arB I t nt xt ++ arB I f nf xf) sz) (arB I t nt w14 ++ arB I f nf xf) → va_S (va_A (arB I t nt xt ++ arB I f nf xf) sz) s.heap H locs → lv_has ls 7 [(6, .int i13), (5, .int 16), (4, .int 0), (0, .ref f), (1, .int p2), (2, .ref t), (3, .int p4)] → K15 i13 w14 → W p l e rX3_copy s m ([.ref f, .int p2, .ref t, .int p4] : List Value).toArray below meth c H locs 0 0 (MQ below (va_Qv (fun (u : Nat → Int32) => Q u) (mB D (va_A (arB I t nt xt ++ arB I f nf xf) sz) (fun u => arB I t nt u ++ arB I f nf xf)) (va_A (arB I t nt xt ++ arB I f nf xf) sz)) ([.ref f, .int p2, .ref t, .int p4] : List Value).toArray s 0 0 (va_A (arB I t nt xt ++ arB I f nf xf) sz)) (F0 m 115 ls [])) (n17 : Nat) (i13 : Int32) (w14 : Nat → Int32) (H : Heap) (locs : List Loc) (ls : Array Slot), va_P D vwCl (arB I t nt w14 ++ arB I f nf xf) H → va_D (va_A (arB I t nt xt ++ arB I f nf xf) sz) (arB I t nt w14 ++ arB I f nf xf) → va_S (va_A (arB I t nt xt ++ arB I f nf xf) sz) s.heap H locs → lv_has ls 7 [(6, .int i13), (5, .int 16), (4, .int 0), (0, .ref f), (1, .int p2), (2, .ref t), (3, .int p4)] → qX3_copy_L51 p2 p4 xf nf nt K15 n17 i13 w14 → W p l e rX3_copy s m ([.ref f, .int p2, .ref t, .int p4] : List Value).toArray below meth c H locs 0 0 (MQ below (va_Qv (fun (u : Nat → Int32) => Q u) (mB D (va_A (arB I t nt xt ++ arB I f nf xf) sz) (fun u => arB I t nt u ++ arB I f nf xf)) (va_A (arB I t nt xt ++ arB I f nf xf) sz)) ([.ref f, .int p2, .ref t, .int p4] : List Value).toArray s 0 0 (va_A (arB I t nt xt ++ arB I f nf xf) sz)) (F0 m 51 ls []) := by
      intro K15 hx16 n17
      induction n17 with
      | zero =>
        intro i13 w14 H locs ls hP hD hS hl hw
        exact hw.elim
      | succ n17 ihn17 =>
        intro i13 w14 H locs ls hP hD hS hl hw
        unfold qX3_copy_L51 at hw
        refine lv_iload hx hb dX3_copy_51 (lv_at hl 0 rfl) ?_
        refine lv_aload_n hx hb dX3_copy_53 rfl (lv_at hl 3 rfl) ?_
        refine lv_iload_n hx hb dX3_copy_54 rfl (lv_at hl 4 rfl) ?_
        refine lv_bipush (v := 11) hx hb dX3_copy_55 (by decide) ?_
        refine lv_iadd hx hb dX3_copy_57 ?_
        refine lv_iload hx hb dX3_copy_58 (lv_at hl 2 rfl) ?_
        refine lv_iadd hx hb dX3_copy_60 ?_
        obtain ⟨h19, hw⟩ := hw
        refine va_iald hx hb hK.1 hP 1 0 rfl rfl h19 dX3_copy_61 ?_
        refine lv_icmp_ge (tgt := 115) hx hb dX3_copy_62 (by decide) (fun c20 => ?_) (fun c20 => ?_)
        · have hw := hw.1 c20
          exact hx16 i13 w14 H locs ls hP hD hS (lv_sub hl [0, 1, 2, 3, 4, 5, 6] rfl) hw
        · have hw := hw.2 c20
          refine lv_aload_n hx hb dX3_copy_65 rfl (lv_at hl 5 rfl) ?_
          refine lv_iload_n hx hb dX3_copy_66 rfl (lv_at hl 6 rfl) ?_
          refine lv_iload hx hb dX3_copy_67 (lv_at hl 1 rfl) ?_
          refine lv_iadd hx hb dX3_copy_69 ?_
          refine lv_iload hx hb dX3_copy_70 (lv_at hl 0 rfl) ?_
          refine lv_iadd hx hb dX3_copy_72 ?_
          refine lv_aload_n hx hb dX3_copy_73 rfl (lv_at hl 3 rfl) ?_
          refine lv_iload_n hx hb dX3_copy_74 rfl (lv_at hl 4 rfl) ?_
          refine lv_iload hx hb dX3_copy_75 (lv_at hl 1 rfl) ?_
          refine lv_iadd hx hb dX3_copy_77 ?_
          refine lv_iload hx hb dX3_copy_78 (lv_at hl 0 rfl) ?_
          refine lv_iadd hx hb dX3_copy_80 ?_
          obtain ⟨h21, hw⟩ := hw
          refine va_iald hx hb hK.1 hP 1 0 rfl rfl h21 dX3_copy_81 ?_
          obtain ⟨h22, hw⟩ := hw
          refine va_iast hx hb hK.1 hP hD hS 0 0 rfl rfl h22 dX3_copy_82 (fun H locs hP hD hS => ?_)
          have hP : va_P D vwCl (arB I t nt (upd w14 (Int32.toNatClampNeg ((p4 + 16) + i13)) (xf (Int32.toNatClampNeg ((p2 + 16) + i13)))) ++ arB I f nf xf) H := hP
          have hD : va_D (va_A (arB I t nt xt ++ arB I f nf xf) sz) (arB I t nt (upd w14 (Int32.toNatClampNeg ((p4 + 16) + i13)) (xf (Int32.toNatClampNeg ((p2 + 16) + i13)))) ++ arB I f nf xf) := hD
          refine lv_aload_n hx hb dX3_copy_83 rfl (lv_at hl 5 rfl) ?_
          refine lv_iload_n hx hb dX3_copy_84 rfl (lv_at hl 6 rfl) ?_
          refine lv_iload hx hb dX3_copy_85 (lv_at hl 1 rfl) ?_
          refine lv_iadd hx hb dX3_copy_87 ?_
          refine lv_sipush (v := 1100) hx hb dX3_copy_88 (by decide) ?_
          refine lv_iadd hx hb dX3_copy_91 ?_
          refine lv_iload hx hb dX3_copy_92 (lv_at hl 0 rfl) ?_
          refine lv_iadd hx hb dX3_copy_94 ?_
          refine lv_aload_n hx hb dX3_copy_95 rfl (lv_at hl 3 rfl) ?_
          refine lv_iload_n hx hb dX3_copy_96 rfl (lv_at hl 4 rfl) ?_
          refine lv_iload hx hb dX3_copy_97 (lv_at hl 1 rfl) ?_
          refine lv_iadd hx hb dX3_copy_99 ?_
          refine lv_sipush (v := 1100) hx hb dX3_copy_100 (by decide) ?_
          refine lv_iadd hx hb dX3_copy_103 ?_
          refine lv_iload hx hb dX3_copy_104 (lv_at hl 0 rfl) ?_
          refine lv_iadd hx hb dX3_copy_106 ?_
          obtain ⟨h23, hw⟩ := hw
          refine va_iald hx hb hK.1 hP 1 0 rfl rfl h23 dX3_copy_107 ?_
          obtain ⟨h24, hw⟩ := hw
          refine va_iast hx hb hK.1 hP hD hS 0 0 rfl rfl h24 dX3_copy_108 (fun H locs hP hD hS => ?_)
          have hP : va_P D vwCl (arB I t nt (upd (upd w14 (Int32.toNatClampNeg ((p4 + 16) + i13)) (xf (Int32.toNatClampNeg ((p2 + 16) + i13)))) (Int32.toNatClampNeg (((p4 + 16) + 1100) + i13)) (xf (Int32.toNatClampNeg (((p2 + 16) + 1100) + i13)))) ++ arB I f nf xf) H := hP
          have hD : va_D (va_A (arB I t nt xt ++ arB I f nf xf) sz) (arB I t nt (upd (upd w14 (Int32.toNatClampNeg ((p4 + 16) + i13)) (xf (Int32.toNatClampNeg ((p2 + 16) + i13)))) (Int32.toNatClampNeg (((p4 + 16) + 1100) + i13)) (xf (Int32.toNatClampNeg (((p2 + 16) + 1100) + i13)))) ++ arB I f nf xf) := hD
          refine lv_iinc (v := i13 + 1) (lv' := [(6, .int (i13 + 1)), (5, .int 16), (4, .int 0), (0, .ref f), (1, .int p2), (2, .ref t), (3, .int p4)]) hx hb dX3_copy_109 hl (k := 0) rfl (congrArg (fun z => i13 + z) (show Int32.ofInt 1 = 1 from by decide)) (by decide) rfl (fun ls hl => ?_)
          refine lv_goto (tgt := 51) hx hb dX3_copy_112 (by decide) ?_
          exact ihn17 (i13 + 1) (upd (upd w14 (Int32.toNatClampNeg ((p4 + 16) + i13)) (xf (Int32.toNatClampNeg ((p2 + 16) + i13)))) (Int32.toNatClampNeg (((p4 + 16) + 1100) + i13)) (xf (Int32.toNatClampNeg (((p2 + 16) + 1100) + i13)))) H locs ls hP hD hS (lv_sub hl [0, 1, 2, 3, 4, 5, 6] rfl) hw
    refine ky18 _ (fun i13 w14 H locs ls hP hD hS hl hw => ?_) n12 0 w3 H locs ls hP hD hS (lv_sub hl [0, 1, 2, 3, 4, 5, 6] rfl) hw
    refine lv_iinc (v := 1) (lv' := [(4, .int 1), (6, .int i13), (5, .int 16), (0, .ref f), (1, .int p2), (2, .ref t), (3, .int p4)]) hx hb dX3_copy_115 hl (k := 2) rfl (by decide) (by decide) rfl (fun ls hl => ?_)
    refine lv_goto (tgt := 31) hx hb dX3_copy_118 (by decide) ?_
    refine lv_iload hx hb dX3_copy_31 (lv_at hl 0 rfl) ?_
    refine lv_iconst (v := 2) hx hb dX3_copy_33 (by decide) ?_
    refine lv_icmp_ge (tgt := 121) hx hb dX3_copy_34 (by decide) (fun c25 => ?_) (fun c25 => ?_)
    · exact absurd c25 (show ¬ ((2 : Int32) ≤ (1 : Int32)) from by decide)
    · refine lv_bipush (v := 16) hx hb dX3_copy_37 (by decide) ?_
      refine lv_sipush (v := 2200) hx hb dX3_copy_39 (by decide) ?_
      refine lv_iload hx hb dX3_copy_42 (lv_at hl 0 rfl) ?_
      refine lv_imul hx hb dX3_copy_44 ?_
      rw [show ((2200 : Int32) * 1) = 2200 from by decide]
      refine lv_iadd hx hb dX3_copy_45 ?_
      rw [show ((16 : Int32) + 2200) = 2216 from by decide]
      refine lv_istore (lv' := [(5, .int 2216), (4, .int 1), (6, .int i13), (0, .ref f), (1, .int p2), (2, .ref t), (3, .int p4)]) hx hb dX3_copy_46 hl (by decide) rfl (fun ls hl => ?_)
      refine lv_iconst (v := 0) hx hb dX3_copy_48 (by decide) ?_
      refine lv_istore (lv' := [(6, .int 0), (5, .int 2216), (4, .int 1), (0, .ref f), (1, .int p2), (2, .ref t), (3, .int p4)]) hx hb dX3_copy_49 hl (by decide) rfl (fun ls hl => ?_)
      obtain ⟨n26, hw⟩ := hw
      have ky32 : ∀ (K29 : Int32 → (Nat → Int32) → Prop) (_ : ∀ (i27 : Int32) (w28 : Nat → Int32) (H : Heap) (locs : List Loc) (ls : Array Slot), va_P D vwCl (arB I t nt w28 ++ arB I f nf xf) H → va_D (va_A (arB I t nt xt ++ arB I f nf xf) sz) (arB I t nt w28 ++ arB I f nf xf) → va_S (va_A (arB I t nt xt ++ arB I f nf xf) sz) s.heap H locs → lv_has ls 7 [(6, .int i27), (5, .int 2216), (4, .int 1), (0, .ref f), (1, .int p2), (2, .ref t), (3, .int p4)] → K29 i27 w28 → W p l e rX3_copy s m ([.ref f, .int p2, .ref t, .int p4] : List Value).toArray below meth c H locs 0 0 (MQ below (va_Qv (fun (u : Nat → Int32) => Q u) (mB D (va_A (arB I t nt xt ++ arB I f nf xf) sz) (fun u => arB I t nt u ++ arB I f nf xf)) (va_A (arB I t nt xt ++ arB I f nf xf) sz)) ([.ref f, .int p2, .ref t, .int p4] : List Value).toArray s 0 0 (va_A (arB I t nt xt ++ arB I f nf xf) sz)) (F0 m 115 ls [])) (n31 : Nat) (i27 : Int32) (w28 : Nat → Int32) (H : Heap) (locs : List Loc) (ls : Array Slot), va_P D vwCl (arB I t nt w28 ++ arB I f nf xf) H → va_D (va_A (arB I t nt xt ++ arB I f nf xf) sz) (arB I t nt w28 ++ arB I f nf xf) → va_S (va_A (arB I t nt xt ++ arB I f nf xf) sz) s.heap H locs → lv_has ls 7 [(6, .int i27), (5, .int 2216), (4, .int 1), (0, .ref f), (1, .int p2), (2, .ref t), (3, .int p4)] → qX3_copy_L51b p2 p4 xf nf nt K29 n31 i27 w28 → W p l e rX3_copy s m ([.ref f, .int p2, .ref t, .int p4] : List Value).toArray below meth c H locs 0 0 (MQ below (va_Qv (fun (u : Nat → Int32) => Q u) (mB D (va_A (arB I t nt xt ++ arB I f nf xf) sz) (fun u => arB I t nt u ++ arB I f nf xf)) (va_A (arB I t nt xt ++ arB I f nf xf) sz)) ([.ref f, .int p2, .ref t, .int p4] : List Value).toArray s 0 0 (va_A (arB I t nt xt ++ arB I f nf xf) sz)) (F0 m 51 ls []) := by
        intro K29 hx30 n31
        induction n31 with
        | zero =>
          intro i27 w28 H locs ls hP hD hS hl hw
          exact hw.elim
        | succ n31 ihn31 =>
          intro i27 w28 H locs ls hP hD hS hl hw
          unfold qX3_copy_L51b at hw
          refine lv_iload hx hb dX3_copy_51 (lv_at hl 0 rfl) ?_
          refine lv_aload_n hx hb dX3_copy_53 rfl (lv_at hl 3 rfl) ?_
          refine lv_iload_n hx hb dX3_copy_54 rfl (lv_at hl 4 rfl) ?_
          refine lv_bipush (v := 11) hx hb dX3_copy_55 (by decide) ?_
          refine lv_iadd hx hb dX3_copy_57 ?_
          refine lv_iload hx hb dX3_copy_58 (lv_at hl 2 rfl) ?_
          refine lv_iadd hx hb dX3_copy_60 ?_
          obtain ⟨h33, hw⟩ := hw
          refine va_iald hx hb hK.1 hP 1 0 rfl rfl h33 dX3_copy_61 ?_
          refine lv_icmp_ge (tgt := 115) hx hb dX3_copy_62 (by decide) (fun c34 => ?_) (fun c34 => ?_)
          · have hw := hw.1 c34
            exact hx30 i27 w28 H locs ls hP hD hS (lv_sub hl [0, 1, 2, 3, 4, 5, 6] rfl) hw
          · have hw := hw.2 c34
            refine lv_aload_n hx hb dX3_copy_65 rfl (lv_at hl 5 rfl) ?_
            refine lv_iload_n hx hb dX3_copy_66 rfl (lv_at hl 6 rfl) ?_
            refine lv_iload hx hb dX3_copy_67 (lv_at hl 1 rfl) ?_
            refine lv_iadd hx hb dX3_copy_69 ?_
            refine lv_iload hx hb dX3_copy_70 (lv_at hl 0 rfl) ?_
            refine lv_iadd hx hb dX3_copy_72 ?_
            refine lv_aload_n hx hb dX3_copy_73 rfl (lv_at hl 3 rfl) ?_
            refine lv_iload_n hx hb dX3_copy_74 rfl (lv_at hl 4 rfl) ?_
            refine lv_iload hx hb dX3_copy_75 (lv_at hl 1 rfl) ?_
            refine lv_iadd hx hb dX3_copy_77 ?_
            refine lv_iload hx hb dX3_copy_78 (lv_at hl 0 rfl) ?_
            refine lv_iadd hx hb dX3_copy_80 ?_
            obtain ⟨h35, hw⟩ := hw
            refine va_iald hx hb hK.1 hP 1 0 rfl rfl h35 dX3_copy_81 ?_
            obtain ⟨h36, hw⟩ := hw
            refine va_iast hx hb hK.1 hP hD hS 0 0 rfl rfl h36 dX3_copy_82 (fun H locs hP hD hS => ?_)
            have hP : va_P D vwCl (arB I t nt (upd w28 (Int32.toNatClampNeg ((p4 + 2216) + i27)) (xf (Int32.toNatClampNeg ((p2 + 2216) + i27)))) ++ arB I f nf xf) H := hP
            have hD : va_D (va_A (arB I t nt xt ++ arB I f nf xf) sz) (arB I t nt (upd w28 (Int32.toNatClampNeg ((p4 + 2216) + i27)) (xf (Int32.toNatClampNeg ((p2 + 2216) + i27)))) ++ arB I f nf xf) := hD
            refine lv_aload_n hx hb dX3_copy_83 rfl (lv_at hl 5 rfl) ?_
            refine lv_iload_n hx hb dX3_copy_84 rfl (lv_at hl 6 rfl) ?_
            refine lv_iload hx hb dX3_copy_85 (lv_at hl 1 rfl) ?_
            refine lv_iadd hx hb dX3_copy_87 ?_
            refine lv_sipush (v := 1100) hx hb dX3_copy_88 (by decide) ?_
            refine lv_iadd hx hb dX3_copy_91 ?_
            refine lv_iload hx hb dX3_copy_92 (lv_at hl 0 rfl) ?_
            refine lv_iadd hx hb dX3_copy_94 ?_
            refine lv_aload_n hx hb dX3_copy_95 rfl (lv_at hl 3 rfl) ?_
            refine lv_iload_n hx hb dX3_copy_96 rfl (lv_at hl 4 rfl) ?_
            refine lv_iload hx hb dX3_copy_97 (lv_at hl 1 rfl) ?_
            refine lv_iadd hx hb dX3_copy_99 ?_
            refine lv_sipush (v := 1100) hx hb dX3_copy_100 (by decide) ?_
            refine lv_iadd hx hb dX3_copy_103 ?_
            refine lv_iload hx hb dX3_copy_104 (lv_at hl 0 rfl) ?_
            refine lv_iadd hx hb dX3_copy_106 ?_
            obtain ⟨h37, hw⟩ := hw
            refine va_iald hx hb hK.1 hP 1 0 rfl rfl h37 dX3_copy_107 ?_
            obtain ⟨h38, hw⟩ := hw
            refine va_iast hx hb hK.1 hP hD hS 0 0 rfl rfl h38 dX3_copy_108 (fun H locs hP hD hS => ?_)
            have hP : va_P D vwCl (arB I t nt (upd (upd w28 (Int32.toNatClampNeg ((p4 + 2216) + i27)) (xf (Int32.toNatClampNeg ((p2 + 2216) + i27)))) (Int32.toNatClampNeg (((p4 + 2216) + 1100) + i27)) (xf (Int32.toNatClampNeg (((p2 + 2216) + 1100) + i27)))) ++ arB I f nf xf) H := hP
            have hD : va_D (va_A (arB I t nt xt ++ arB I f nf xf) sz) (arB I t nt (upd (upd w28 (Int32.toNatClampNeg ((p4 + 2216) + i27)) (xf (Int32.toNatClampNeg ((p2 + 2216) + i27)))) (Int32.toNatClampNeg (((p4 + 2216) + 1100) + i27)) (xf (Int32.toNatClampNeg (((p2 + 2216) + 1100) + i27)))) ++ arB I f nf xf) := hD
            refine lv_iinc (v := i27 + 1) (lv' := [(6, .int (i27 + 1)), (5, .int 2216), (4, .int 1), (0, .ref f), (1, .int p2), (2, .ref t), (3, .int p4)]) hx hb dX3_copy_109 hl (k := 0) rfl (congrArg (fun z => i27 + z) (show Int32.ofInt 1 = 1 from by decide)) (by decide) rfl (fun ls hl => ?_)
            refine lv_goto (tgt := 51) hx hb dX3_copy_112 (by decide) ?_
            exact ihn31 (i27 + 1) (upd (upd w28 (Int32.toNatClampNeg ((p4 + 2216) + i27)) (xf (Int32.toNatClampNeg ((p2 + 2216) + i27)))) (Int32.toNatClampNeg (((p4 + 2216) + 1100) + i27)) (xf (Int32.toNatClampNeg (((p2 + 2216) + 1100) + i27)))) H locs ls hP hD hS (lv_sub hl [0, 1, 2, 3, 4, 5, 6] rfl) hw
      refine ky32 _ (fun i27 w28 H locs ls hP hD hS hl hw => ?_) n26 0 w14 H locs ls hP hD hS (lv_sub hl [0, 1, 2, 3, 4, 5, 6] rfl) hw
      refine lv_iinc (v := 2) (lv' := [(4, .int 2), (6, .int i27), (5, .int 2216), (0, .ref f), (1, .int p2), (2, .ref t), (3, .int p4)]) hx hb dX3_copy_115 hl (k := 2) rfl (by decide) (by decide) rfl (fun ls hl => ?_)
      refine lv_goto (tgt := 31) hx hb dX3_copy_118 (by decide) ?_
      refine lv_iload hx hb dX3_copy_31 (lv_at hl 0 rfl) ?_
      refine lv_iconst (v := 2) hx hb dX3_copy_33 (by decide) ?_
      refine lv_icmp_ge (tgt := 121) hx hb dX3_copy_34 (by decide) (fun c39 => ?_) (fun c39 => ?_)
      · exact m_vret (u := w28) hx hb hr hlocks hS hP hD dX3_copy_121 hw
      · exact absurd (show (2 : Int32) ≤ (2 : Int32) from by decide) c39
def qX3_copy_s_L3 (p2 : Int32) (p4 : Int32) (nf : Nat) (K4 : Int32 → (Nat → Int32) → Prop) : Nat → Int32 → (Nat → Int32) → Prop
  | 0, _, _ => False
  | n6 + 1, i2, w3 => ((16 ≤ i2 → K4 i2 w3) ∧ (¬ 16 ≤ i2 → (vp_in (p2 + i2) nf ∧ (vp_in (p4 + i2) nf ∧ qX3_copy_s_L3 p2 p4 nf K4 n6 (i2 + 1) (upd w3 (Int32.toNatClampNeg (p4 + i2)) (w3 (Int32.toNatClampNeg (p2 + i2))))))))
def qX3_copy_s_L51 (p2 : Int32) (p4 : Int32) (nf : Nat) (K15 : Int32 → (Nat → Int32) → Prop) : Nat → Int32 → (Nat → Int32) → Prop
  | 0, _, _ => False
  | n17 + 1, i13, w14 => (vp_in ((p2 + 11) + 0) nf ∧ (((w14 (Int32.toNatClampNeg ((p2 + 11) + 0))) ≤ i13 → K15 i13 w14) ∧ (¬ (w14 (Int32.toNatClampNeg ((p2 + 11) + 0))) ≤ i13 → (vp_in ((p2 + 16) + i13) nf ∧ (vp_in ((p4 + 16) + i13) nf ∧ (vp_in (((p2 + 16) + 1100) + i13) nf ∧ (vp_in (((p4 + 16) + 1100) + i13) nf ∧ qX3_copy_s_L51 p2 p4 nf K15 n17 (i13 + 1) (upd (upd w14 (Int32.toNatClampNeg ((p4 + 16) + i13)) (w14 (Int32.toNatClampNeg ((p2 + 16) + i13)))) (Int32.toNatClampNeg (((p4 + 16) + 1100) + i13)) ((upd w14 (Int32.toNatClampNeg ((p4 + 16) + i13)) (w14 (Int32.toNatClampNeg ((p2 + 16) + i13)))) (Int32.toNatClampNeg (((p2 + 16) + 1100) + i13)))))))))))
def qX3_copy_s_L51b (p2 : Int32) (p4 : Int32) (nf : Nat) (K29 : Int32 → (Nat → Int32) → Prop) : Nat → Int32 → (Nat → Int32) → Prop
  | 0, _, _ => False
  | n31 + 1, i27, w28 => (vp_in ((p2 + 11) + 1) nf ∧ (((w28 (Int32.toNatClampNeg ((p2 + 11) + 1))) ≤ i27 → K29 i27 w28) ∧ (¬ (w28 (Int32.toNatClampNeg ((p2 + 11) + 1))) ≤ i27 → (vp_in ((p2 + 2216) + i27) nf ∧ (vp_in ((p4 + 2216) + i27) nf ∧ (vp_in (((p2 + 2216) + 1100) + i27) nf ∧ (vp_in (((p4 + 2216) + 1100) + i27) nf ∧ qX3_copy_s_L51b p2 p4 nf K29 n31 (i27 + 1) (upd (upd w28 (Int32.toNatClampNeg ((p4 + 2216) + i27)) (w28 (Int32.toNatClampNeg ((p2 + 2216) + i27)))) (Int32.toNatClampNeg (((p4 + 2216) + 1100) + i27)) ((upd w28 (Int32.toNatClampNeg ((p4 + 2216) + i27)) (w28 (Int32.toNatClampNeg ((p2 + 2216) + i27)))) (Int32.toNatClampNeg (((p2 + 2216) + 1100) + i27)))))))))))
def qX3_copy_s (nf : Nat) (xf : Nat → Int32) (p2 : Int32) (p4 : Int32) (Q : (Nat → Int32) → Prop) : Prop := (∃ n1, qX3_copy_s_L3 p2 p4 nf (fun i2 w3 => (∃ n12, qX3_copy_s_L51 p2 p4 nf (fun i13 w14 => (∃ n26, qX3_copy_s_L51b p2 p4 nf (fun i27 w28 => Q w28) n26 0 w14)) n12 0 w3)) n1 0 xf)
set_option maxHeartbeats 4000000 in
set_option maxRecDepth 100000 in
theorem kX3_copy_s (l : Launch) (D : va_G) (I O : ClassId) (f : Nat) (sz : Nat) (nf : Nat) (xf : Nat → Int32) (p2 : Int32) (p4 : Int32) (Q : (Nat → Int32) → Prop) (hw : qX3_copy_s nf xf p2 p4 Q) : Met l yX3_copy wsX3_copy rX3_copy (mPc D I O [.ref f, .int p2, .ref f, .int p4] (arB I f nf xf) sz) (va_Qv (fun (u : Nat → Int32) => Q u) (mB D (va_A (arB I f nf xf) sz) (fun u => arB I f nf u)) (va_A (arB I f nf xf) sz)) 0 0 (va_A (arB I f nf xf) sz) := by
  refine m_start (by decide) rfl (Nat.le_of_ble_eq_true rfl) (fun p e s m below meth c ls H locs hx hb hr hml hts hown hlocks hnm hK hP hD hA hS hl => ?_)
  have hown : s.vm.findClass RX3 = some m.cls := hown
  have hl : lv_has ls 7 [(0, .ref f), (1, .int p2), (2, .ref f), (3, .int p4)] := hl
  unfold qX3_copy_s at hw
  refine lv_iconst (v := 0) hx hb dX3_copy_0 (by decide) ?_
  refine lv_istore (lv' := [(4, .int 0), (0, .ref f), (1, .int p2), (2, .ref f), (3, .int p4)]) hx hb dX3_copy_1 hl (by decide) rfl (fun ls hl => ?_)
  obtain ⟨n1, hw⟩ := hw
  have ky7 : ∀ (K4 : Int32 → (Nat → Int32) → Prop) (_ : ∀ (i2 : Int32) (w3 : Nat → Int32) (H : Heap) (locs : List Loc) (ls : Array Slot), va_P D vwCl (arB I f nf w3) H → va_D (va_A (arB I f nf xf) sz) (arB I f nf w3) → va_S (va_A (arB I f nf xf) sz) s.heap H locs → lv_has ls 7 [(4, .int i2), (0, .ref f), (1, .int p2), (2, .ref f), (3, .int p4)] → K4 i2 w3 → W p l e rX3_copy s m ([.ref f, .int p2, .ref f, .int p4] : List Value).toArray below meth c H locs 0 0 (MQ below (va_Qv (fun (u : Nat → Int32) => Q u) (mB D (va_A (arB I f nf xf) sz) (fun u => arB I f nf u)) (va_A (arB I f nf xf) sz)) ([.ref f, .int p2, .ref f, .int p4] : List Value).toArray s 0 0 (va_A (arB I f nf xf) sz)) (F0 m 28 ls [])) (n6 : Nat) (i2 : Int32) (w3 : Nat → Int32) (H : Heap) (locs : List Loc) (ls : Array Slot), va_P D vwCl (arB I f nf w3) H → va_D (va_A (arB I f nf xf) sz) (arB I f nf w3) → va_S (va_A (arB I f nf xf) sz) s.heap H locs → lv_has ls 7 [(4, .int i2), (0, .ref f), (1, .int p2), (2, .ref f), (3, .int p4)] → qX3_copy_s_L3 p2 p4 nf K4 n6 i2 w3 → W p l e rX3_copy s m ([.ref f, .int p2, .ref f, .int p4] : List Value).toArray below meth c H locs 0 0 (MQ below (va_Qv (fun (u : Nat → Int32) => Q u) (mB D (va_A (arB I f nf xf) sz) (fun u => arB I f nf u)) (va_A (arB I f nf xf) sz)) ([.ref f, .int p2, .ref f, .int p4] : List Value).toArray s 0 0 (va_A (arB I f nf xf) sz)) (F0 m 3 ls []) := by
    intro K4 hx5 n6
    induction n6 with
    | zero =>
      intro i2 w3 H locs ls hP hD hS hl hw
      exact hw.elim
    | succ n6 ihn6 =>
      intro i2 w3 H locs ls hP hD hS hl hw
      unfold qX3_copy_s_L3 at hw
      refine lv_iload hx hb dX3_copy_3 (lv_at hl 0 rfl) ?_
      refine lv_bipush (v := 16) hx hb dX3_copy_5 (by decide) ?_
      refine lv_icmp_ge (tgt := 28) hx hb dX3_copy_7 (by decide) (fun c8 => ?_) (fun c8 => ?_)
      · have hw := hw.1 c8
        exact hx5 i2 w3 H locs ls hP hD hS (lv_sub hl [0, 1, 2, 3, 4] rfl) hw
      · have hw := hw.2 c8
        refine lv_aload_n hx hb dX3_copy_10 rfl (lv_at hl 3 rfl) ?_
        refine lv_iload_n hx hb dX3_copy_11 rfl (lv_at hl 4 rfl) ?_
        refine lv_iload hx hb dX3_copy_12 (lv_at hl 0 rfl) ?_
        refine lv_iadd hx hb dX3_copy_14 ?_
        refine lv_aload_n hx hb dX3_copy_15 rfl (lv_at hl 1 rfl) ?_
        refine lv_iload_n hx hb dX3_copy_16 rfl (lv_at hl 2 rfl) ?_
        refine lv_iload hx hb dX3_copy_17 (lv_at hl 0 rfl) ?_
        refine lv_iadd hx hb dX3_copy_19 ?_
        obtain ⟨h9, hw⟩ := hw
        refine va_iald hx hb hK.1 hP 0 0 rfl rfl h9 dX3_copy_20 ?_
        obtain ⟨h10, hw⟩ := hw
        refine va_iast hx hb hK.1 hP hD hS 0 0 rfl rfl h10 dX3_copy_21 (fun H locs hP hD hS => ?_)
        have hP : va_P D vwCl (arB I f nf (upd w3 (Int32.toNatClampNeg (p4 + i2)) (w3 (Int32.toNatClampNeg (p2 + i2))))) H := hP
        have hD : va_D (va_A (arB I f nf xf) sz) (arB I f nf (upd w3 (Int32.toNatClampNeg (p4 + i2)) (w3 (Int32.toNatClampNeg (p2 + i2))))) := hD
        refine lv_iinc (v := i2 + 1) (lv' := [(4, .int (i2 + 1)), (0, .ref f), (1, .int p2), (2, .ref f), (3, .int p4)]) hx hb dX3_copy_22 hl (k := 0) rfl (congrArg (fun z => i2 + z) (show Int32.ofInt 1 = 1 from by decide)) (by decide) rfl (fun ls hl => ?_)
        refine lv_goto (tgt := 3) hx hb dX3_copy_25 (by decide) ?_
        exact ihn6 (i2 + 1) (upd w3 (Int32.toNatClampNeg (p4 + i2)) (w3 (Int32.toNatClampNeg (p2 + i2)))) H locs ls hP hD hS (lv_sub hl [0, 1, 2, 3, 4] rfl) hw
  refine ky7 _ (fun i2 w3 H locs ls hP hD hS hl hw => ?_) n1 0 xf H locs ls hP hD hS (lv_sub hl [0, 1, 2, 3, 4] rfl) hw
  refine lv_iconst (v := 0) hx hb dX3_copy_28 (by decide) ?_
  refine lv_istore (lv' := [(4, .int 0), (0, .ref f), (1, .int p2), (2, .ref f), (3, .int p4)]) hx hb dX3_copy_29 hl (by decide) rfl (fun ls hl => ?_)
  refine lv_iload hx hb dX3_copy_31 (lv_at hl 0 rfl) ?_
  refine lv_iconst (v := 2) hx hb dX3_copy_33 (by decide) ?_
  refine lv_icmp_ge (tgt := 121) hx hb dX3_copy_34 (by decide) (fun c11 => ?_) (fun c11 => ?_)
  · exact absurd c11 (show ¬ ((2 : Int32) ≤ (0 : Int32)) from by decide)
  · refine lv_bipush (v := 16) hx hb dX3_copy_37 (by decide) ?_
    refine lv_sipush (v := 2200) hx hb dX3_copy_39 (by decide) ?_
    refine lv_iload hx hb dX3_copy_42 (lv_at hl 0 rfl) ?_
    refine lv_imul hx hb dX3_copy_44 ?_
    rw [show ((2200 : Int32) * 0) = 0 from by decide]
    refine lv_iadd hx hb dX3_copy_45 ?_
    rw [show ((16 : Int32) + 0) = 16 from by decide]
    refine lv_istore (lv' := [(5, .int 16), (4, .int 0), (0, .ref f), (1, .int p2), (2, .ref f), (3, .int p4)]) hx hb dX3_copy_46 hl (by decide) rfl (fun ls hl => ?_)
    refine lv_iconst (v := 0) hx hb dX3_copy_48 (by decide) ?_
    refine lv_istore (lv' := [(6, .int 0), (5, .int 16), (4, .int 0), (0, .ref f), (1, .int p2), (2, .ref f), (3, .int p4)]) hx hb dX3_copy_49 hl (by decide) rfl (fun ls hl => ?_)
    obtain ⟨n12, hw⟩ := hw
    have ky18 : ∀ (K15 : Int32 → (Nat → Int32) → Prop) (_ : ∀ (i13 : Int32) (w14 : Nat → Int32) (H : Heap) (locs : List Loc) (ls : Array Slot), va_P D vwCl (arB I f nf w14) H → va_D (va_A (arB I f nf xf) sz) (arB I f nf w14) → va_S (va_A (arB I f nf xf) sz) s.heap H locs → lv_has ls 7 [(6, .int i13), (5, .int 16), (4, .int 0), (0, .ref f), (1, .int p2), (2, .ref f), (3, .int p4)] → K15 i13 w14 → W p l e rX3_copy s m ([.ref f, .int p2, .ref f, .int p4] : List Value).toArray below meth c H locs 0 0 (MQ below (va_Qv (fun (u : Nat → Int32) => Q u) (mB D (va_A (arB I f nf xf) sz) (fun u => arB I f nf u)) (va_A (arB I f nf xf) sz)) ([.ref f, .int p2, .ref f, .int p4] : List Value).toArray s 0 0 (va_A (arB I f nf xf) sz)) (F0 m 115 ls [])) (n17 : Nat) (i13 : Int32) (w14 : Nat → Int32) (H : Heap) (locs : List Loc) (ls : Array Slot), va_P D vwCl (arB I f nf w14) H → va_D (va_A (arB I f nf xf) sz) (arB I f nf w14) → va_S (va_A (arB I f nf xf) sz) s.heap H locs → lv_has ls 7 [(6, .int i13), (5, .int 16), (4, .int 0), (0, .ref f), (1, .int p2), (2, .ref f), (3, .int p4)] → qX3_copy_s_L51 p2 p4 nf K15 n17 i13 w14 → W p l e rX3_copy s m ([.ref f, .int p2, .ref f, .int p4] : List Value).toArray below meth c H locs 0 0 (MQ below (va_Qv (fun (u : Nat → Int32) => Q u) (mB D (va_A (arB I f nf xf) sz) (fun u => arB I f nf u)) (va_A (arB I f nf xf) sz)) ([.ref f, .int p2, .ref f, .int p4] : List Value).toArray s 0 0 (va_A (arB I f nf xf) sz)) (F0 m 51 ls []) := by
      intro K15 hx16 n17
      induction n17 with
      | zero =>
        intro i13 w14 H locs ls hP hD hS hl hw
        exact hw.elim
      | succ n17 ihn17 =>
        intro i13 w14 H locs ls hP hD hS hl hw
        unfold qX3_copy_s_L51 at hw
        refine lv_iload hx hb dX3_copy_51 (lv_at hl 0 rfl) ?_
        refine lv_aload_n hx hb dX3_copy_53 rfl (lv_at hl 3 rfl) ?_
        refine lv_iload_n hx hb dX3_copy_54 rfl (lv_at hl 4 rfl) ?_
        refine lv_bipush (v := 11) hx hb dX3_copy_55 (by decide) ?_
        refine lv_iadd hx hb dX3_copy_57 ?_
        refine lv_iload hx hb dX3_copy_58 (lv_at hl 2 rfl) ?_
        refine lv_iadd hx hb dX3_copy_60 ?_
        obtain ⟨h19, hw⟩ := hw
        refine va_iald hx hb hK.1 hP 0 0 rfl rfl h19 dX3_copy_61 ?_
        refine lv_icmp_ge (tgt := 115) hx hb dX3_copy_62 (by decide) (fun c20 => ?_) (fun c20 => ?_)
        · have hw := hw.1 c20
          exact hx16 i13 w14 H locs ls hP hD hS (lv_sub hl [0, 1, 2, 3, 4, 5, 6] rfl) hw
        · have hw := hw.2 c20
          refine lv_aload_n hx hb dX3_copy_65 rfl (lv_at hl 5 rfl) ?_
          refine lv_iload_n hx hb dX3_copy_66 rfl (lv_at hl 6 rfl) ?_
          refine lv_iload hx hb dX3_copy_67 (lv_at hl 1 rfl) ?_
          refine lv_iadd hx hb dX3_copy_69 ?_
          refine lv_iload hx hb dX3_copy_70 (lv_at hl 0 rfl) ?_
          refine lv_iadd hx hb dX3_copy_72 ?_
          refine lv_aload_n hx hb dX3_copy_73 rfl (lv_at hl 3 rfl) ?_
          refine lv_iload_n hx hb dX3_copy_74 rfl (lv_at hl 4 rfl) ?_
          refine lv_iload hx hb dX3_copy_75 (lv_at hl 1 rfl) ?_
          refine lv_iadd hx hb dX3_copy_77 ?_
          refine lv_iload hx hb dX3_copy_78 (lv_at hl 0 rfl) ?_
          refine lv_iadd hx hb dX3_copy_80 ?_
          obtain ⟨h21, hw⟩ := hw
          refine va_iald hx hb hK.1 hP 0 0 rfl rfl h21 dX3_copy_81 ?_
          obtain ⟨h22, hw⟩ := hw
          refine va_iast hx hb hK.1 hP hD hS 0 0 rfl rfl h22 dX3_copy_82 (fun H locs hP hD hS => ?_)
          have hP : va_P D vwCl (arB I f nf (upd w14 (Int32.toNatClampNeg ((p4 + 16) + i13)) (w14 (Int32.toNatClampNeg ((p2 + 16) + i13))))) H := hP
          have hD : va_D (va_A (arB I f nf xf) sz) (arB I f nf (upd w14 (Int32.toNatClampNeg ((p4 + 16) + i13)) (w14 (Int32.toNatClampNeg ((p2 + 16) + i13))))) := hD
          refine lv_aload_n hx hb dX3_copy_83 rfl (lv_at hl 5 rfl) ?_
          refine lv_iload_n hx hb dX3_copy_84 rfl (lv_at hl 6 rfl) ?_
          refine lv_iload hx hb dX3_copy_85 (lv_at hl 1 rfl) ?_
          refine lv_iadd hx hb dX3_copy_87 ?_
          refine lv_sipush (v := 1100) hx hb dX3_copy_88 (by decide) ?_
          refine lv_iadd hx hb dX3_copy_91 ?_
          refine lv_iload hx hb dX3_copy_92 (lv_at hl 0 rfl) ?_
          refine lv_iadd hx hb dX3_copy_94 ?_
          refine lv_aload_n hx hb dX3_copy_95 rfl (lv_at hl 3 rfl) ?_
          refine lv_iload_n hx hb dX3_copy_96 rfl (lv_at hl 4 rfl) ?_
          refine lv_iload hx hb dX3_copy_97 (lv_at hl 1 rfl) ?_
          refine lv_iadd hx hb dX3_copy_99 ?_
          refine lv_sipush (v := 1100) hx hb dX3_copy_100 (by decide) ?_
          refine lv_iadd hx hb dX3_copy_103 ?_
          refine lv_iload hx hb dX3_copy_104 (lv_at hl 0 rfl) ?_
          refine lv_iadd hx hb dX3_copy_106 ?_
          obtain ⟨h23, hw⟩ := hw
          refine va_iald hx hb hK.1 hP 0 0 rfl rfl h23 dX3_copy_107 ?_
          obtain ⟨h24, hw⟩ := hw
          refine va_iast hx hb hK.1 hP hD hS 0 0 rfl rfl h24 dX3_copy_108 (fun H locs hP hD hS => ?_)
          have hP : va_P D vwCl (arB I f nf (upd (upd w14 (Int32.toNatClampNeg ((p4 + 16) + i13)) (w14 (Int32.toNatClampNeg ((p2 + 16) + i13)))) (Int32.toNatClampNeg (((p4 + 16) + 1100) + i13)) ((upd w14 (Int32.toNatClampNeg ((p4 + 16) + i13)) (w14 (Int32.toNatClampNeg ((p2 + 16) + i13)))) (Int32.toNatClampNeg (((p2 + 16) + 1100) + i13))))) H := hP
          have hD : va_D (va_A (arB I f nf xf) sz) (arB I f nf (upd (upd w14 (Int32.toNatClampNeg ((p4 + 16) + i13)) (w14 (Int32.toNatClampNeg ((p2 + 16) + i13)))) (Int32.toNatClampNeg (((p4 + 16) + 1100) + i13)) ((upd w14 (Int32.toNatClampNeg ((p4 + 16) + i13)) (w14 (Int32.toNatClampNeg ((p2 + 16) + i13)))) (Int32.toNatClampNeg (((p2 + 16) + 1100) + i13))))) := hD
          refine lv_iinc (v := i13 + 1) (lv' := [(6, .int (i13 + 1)), (5, .int 16), (4, .int 0), (0, .ref f), (1, .int p2), (2, .ref f), (3, .int p4)]) hx hb dX3_copy_109 hl (k := 0) rfl (congrArg (fun z => i13 + z) (show Int32.ofInt 1 = 1 from by decide)) (by decide) rfl (fun ls hl => ?_)
          refine lv_goto (tgt := 51) hx hb dX3_copy_112 (by decide) ?_
          exact ihn17 (i13 + 1) (upd (upd w14 (Int32.toNatClampNeg ((p4 + 16) + i13)) (w14 (Int32.toNatClampNeg ((p2 + 16) + i13)))) (Int32.toNatClampNeg (((p4 + 16) + 1100) + i13)) ((upd w14 (Int32.toNatClampNeg ((p4 + 16) + i13)) (w14 (Int32.toNatClampNeg ((p2 + 16) + i13)))) (Int32.toNatClampNeg (((p2 + 16) + 1100) + i13)))) H locs ls hP hD hS (lv_sub hl [0, 1, 2, 3, 4, 5, 6] rfl) hw
    refine ky18 _ (fun i13 w14 H locs ls hP hD hS hl hw => ?_) n12 0 w3 H locs ls hP hD hS (lv_sub hl [0, 1, 2, 3, 4, 5, 6] rfl) hw
    refine lv_iinc (v := 1) (lv' := [(4, .int 1), (6, .int i13), (5, .int 16), (0, .ref f), (1, .int p2), (2, .ref f), (3, .int p4)]) hx hb dX3_copy_115 hl (k := 2) rfl (by decide) (by decide) rfl (fun ls hl => ?_)
    refine lv_goto (tgt := 31) hx hb dX3_copy_118 (by decide) ?_
    refine lv_iload hx hb dX3_copy_31 (lv_at hl 0 rfl) ?_
    refine lv_iconst (v := 2) hx hb dX3_copy_33 (by decide) ?_
    refine lv_icmp_ge (tgt := 121) hx hb dX3_copy_34 (by decide) (fun c25 => ?_) (fun c25 => ?_)
    · exact absurd c25 (show ¬ ((2 : Int32) ≤ (1 : Int32)) from by decide)
    · refine lv_bipush (v := 16) hx hb dX3_copy_37 (by decide) ?_
      refine lv_sipush (v := 2200) hx hb dX3_copy_39 (by decide) ?_
      refine lv_iload hx hb dX3_copy_42 (lv_at hl 0 rfl) ?_
      refine lv_imul hx hb dX3_copy_44 ?_
      rw [show ((2200 : Int32) * 1) = 2200 from by decide]
      refine lv_iadd hx hb dX3_copy_45 ?_
      rw [show ((16 : Int32) + 2200) = 2216 from by decide]
      refine lv_istore (lv' := [(5, .int 2216), (4, .int 1), (6, .int i13), (0, .ref f), (1, .int p2), (2, .ref f), (3, .int p4)]) hx hb dX3_copy_46 hl (by decide) rfl (fun ls hl => ?_)
      refine lv_iconst (v := 0) hx hb dX3_copy_48 (by decide) ?_
      refine lv_istore (lv' := [(6, .int 0), (5, .int 2216), (4, .int 1), (0, .ref f), (1, .int p2), (2, .ref f), (3, .int p4)]) hx hb dX3_copy_49 hl (by decide) rfl (fun ls hl => ?_)
      obtain ⟨n26, hw⟩ := hw
      have ky32 : ∀ (K29 : Int32 → (Nat → Int32) → Prop) (_ : ∀ (i27 : Int32) (w28 : Nat → Int32) (H : Heap) (locs : List Loc) (ls : Array Slot), va_P D vwCl (arB I f nf w28) H → va_D (va_A (arB I f nf xf) sz) (arB I f nf w28) → va_S (va_A (arB I f nf xf) sz) s.heap H locs → lv_has ls 7 [(6, .int i27), (5, .int 2216), (4, .int 1), (0, .ref f), (1, .int p2), (2, .ref f), (3, .int p4)] → K29 i27 w28 → W p l e rX3_copy s m ([.ref f, .int p2, .ref f, .int p4] : List Value).toArray below meth c H locs 0 0 (MQ below (va_Qv (fun (u : Nat → Int32) => Q u) (mB D (va_A (arB I f nf xf) sz) (fun u => arB I f nf u)) (va_A (arB I f nf xf) sz)) ([.ref f, .int p2, .ref f, .int p4] : List Value).toArray s 0 0 (va_A (arB I f nf xf) sz)) (F0 m 115 ls [])) (n31 : Nat) (i27 : Int32) (w28 : Nat → Int32) (H : Heap) (locs : List Loc) (ls : Array Slot), va_P D vwCl (arB I f nf w28) H → va_D (va_A (arB I f nf xf) sz) (arB I f nf w28) → va_S (va_A (arB I f nf xf) sz) s.heap H locs → lv_has ls 7 [(6, .int i27), (5, .int 2216), (4, .int 1), (0, .ref f), (1, .int p2), (2, .ref f), (3, .int p4)] → qX3_copy_s_L51b p2 p4 nf K29 n31 i27 w28 → W p l e rX3_copy s m ([.ref f, .int p2, .ref f, .int p4] : List Value).toArray below meth c H locs 0 0 (MQ below (va_Qv (fun (u : Nat → Int32) => Q u) (mB D (va_A (arB I f nf xf) sz) (fun u => arB I f nf u)) (va_A (arB I f nf xf) sz)) ([.ref f, .int p2, .ref f, .int p4] : List Value).toArray s 0 0 (va_A (arB I f nf xf) sz)) (F0 m 51 ls []) := by
        intro K29 hx30 n31
        induction n31 with
        | zero =>
          intro i27 w28 H locs ls hP hD hS hl hw
          exact hw.elim
        | succ n31 ihn31 =>
          intro i27 w28 H locs ls hP hD hS hl hw
          unfold qX3_copy_s_L51b at hw
          refine lv_iload hx hb dX3_copy_51 (lv_at hl 0 rfl) ?_
          refine lv_aload_n hx hb dX3_copy_53 rfl (lv_at hl 3 rfl) ?_
          refine lv_iload_n hx hb dX3_copy_54 rfl (lv_at hl 4 rfl) ?_
          refine lv_bipush (v := 11) hx hb dX3_copy_55 (by decide) ?_
          refine lv_iadd hx hb dX3_copy_57 ?_
          refine lv_iload hx hb dX3_copy_58 (lv_at hl 2 rfl) ?_
          refine lv_iadd hx hb dX3_copy_60 ?_
          obtain ⟨h33, hw⟩ := hw
          refine va_iald hx hb hK.1 hP 0 0 rfl rfl h33 dX3_copy_61 ?_
          refine lv_icmp_ge (tgt := 115) hx hb dX3_copy_62 (by decide) (fun c34 => ?_) (fun c34 => ?_)
          · have hw := hw.1 c34
            exact hx30 i27 w28 H locs ls hP hD hS (lv_sub hl [0, 1, 2, 3, 4, 5, 6] rfl) hw
          · have hw := hw.2 c34
            refine lv_aload_n hx hb dX3_copy_65 rfl (lv_at hl 5 rfl) ?_
            refine lv_iload_n hx hb dX3_copy_66 rfl (lv_at hl 6 rfl) ?_
            refine lv_iload hx hb dX3_copy_67 (lv_at hl 1 rfl) ?_
            refine lv_iadd hx hb dX3_copy_69 ?_
            refine lv_iload hx hb dX3_copy_70 (lv_at hl 0 rfl) ?_
            refine lv_iadd hx hb dX3_copy_72 ?_
            refine lv_aload_n hx hb dX3_copy_73 rfl (lv_at hl 3 rfl) ?_
            refine lv_iload_n hx hb dX3_copy_74 rfl (lv_at hl 4 rfl) ?_
            refine lv_iload hx hb dX3_copy_75 (lv_at hl 1 rfl) ?_
            refine lv_iadd hx hb dX3_copy_77 ?_
            refine lv_iload hx hb dX3_copy_78 (lv_at hl 0 rfl) ?_
            refine lv_iadd hx hb dX3_copy_80 ?_
            obtain ⟨h35, hw⟩ := hw
            refine va_iald hx hb hK.1 hP 0 0 rfl rfl h35 dX3_copy_81 ?_
            obtain ⟨h36, hw⟩ := hw
            refine va_iast hx hb hK.1 hP hD hS 0 0 rfl rfl h36 dX3_copy_82 (fun H locs hP hD hS => ?_)
            have hP : va_P D vwCl (arB I f nf (upd w28 (Int32.toNatClampNeg ((p4 + 2216) + i27)) (w28 (Int32.toNatClampNeg ((p2 + 2216) + i27))))) H := hP
            have hD : va_D (va_A (arB I f nf xf) sz) (arB I f nf (upd w28 (Int32.toNatClampNeg ((p4 + 2216) + i27)) (w28 (Int32.toNatClampNeg ((p2 + 2216) + i27))))) := hD
            refine lv_aload_n hx hb dX3_copy_83 rfl (lv_at hl 5 rfl) ?_
            refine lv_iload_n hx hb dX3_copy_84 rfl (lv_at hl 6 rfl) ?_
            refine lv_iload hx hb dX3_copy_85 (lv_at hl 1 rfl) ?_
            refine lv_iadd hx hb dX3_copy_87 ?_
            refine lv_sipush (v := 1100) hx hb dX3_copy_88 (by decide) ?_
            refine lv_iadd hx hb dX3_copy_91 ?_
            refine lv_iload hx hb dX3_copy_92 (lv_at hl 0 rfl) ?_
            refine lv_iadd hx hb dX3_copy_94 ?_
            refine lv_aload_n hx hb dX3_copy_95 rfl (lv_at hl 3 rfl) ?_
            refine lv_iload_n hx hb dX3_copy_96 rfl (lv_at hl 4 rfl) ?_
            refine lv_iload hx hb dX3_copy_97 (lv_at hl 1 rfl) ?_
            refine lv_iadd hx hb dX3_copy_99 ?_
            refine lv_sipush (v := 1100) hx hb dX3_copy_100 (by decide) ?_
            refine lv_iadd hx hb dX3_copy_103 ?_
            refine lv_iload hx hb dX3_copy_104 (lv_at hl 0 rfl) ?_
            refine lv_iadd hx hb dX3_copy_106 ?_
            obtain ⟨h37, hw⟩ := hw
            refine va_iald hx hb hK.1 hP 0 0 rfl rfl h37 dX3_copy_107 ?_
            obtain ⟨h38, hw⟩ := hw
            refine va_iast hx hb hK.1 hP hD hS 0 0 rfl rfl h38 dX3_copy_108 (fun H locs hP hD hS => ?_)
            have hP : va_P D vwCl (arB I f nf (upd (upd w28 (Int32.toNatClampNeg ((p4 + 2216) + i27)) (w28 (Int32.toNatClampNeg ((p2 + 2216) + i27)))) (Int32.toNatClampNeg (((p4 + 2216) + 1100) + i27)) ((upd w28 (Int32.toNatClampNeg ((p4 + 2216) + i27)) (w28 (Int32.toNatClampNeg ((p2 + 2216) + i27)))) (Int32.toNatClampNeg (((p2 + 2216) + 1100) + i27))))) H := hP
            have hD : va_D (va_A (arB I f nf xf) sz) (arB I f nf (upd (upd w28 (Int32.toNatClampNeg ((p4 + 2216) + i27)) (w28 (Int32.toNatClampNeg ((p2 + 2216) + i27)))) (Int32.toNatClampNeg (((p4 + 2216) + 1100) + i27)) ((upd w28 (Int32.toNatClampNeg ((p4 + 2216) + i27)) (w28 (Int32.toNatClampNeg ((p2 + 2216) + i27)))) (Int32.toNatClampNeg (((p2 + 2216) + 1100) + i27))))) := hD
            refine lv_iinc (v := i27 + 1) (lv' := [(6, .int (i27 + 1)), (5, .int 2216), (4, .int 1), (0, .ref f), (1, .int p2), (2, .ref f), (3, .int p4)]) hx hb dX3_copy_109 hl (k := 0) rfl (congrArg (fun z => i27 + z) (show Int32.ofInt 1 = 1 from by decide)) (by decide) rfl (fun ls hl => ?_)
            refine lv_goto (tgt := 51) hx hb dX3_copy_112 (by decide) ?_
            exact ihn31 (i27 + 1) (upd (upd w28 (Int32.toNatClampNeg ((p4 + 2216) + i27)) (w28 (Int32.toNatClampNeg ((p2 + 2216) + i27)))) (Int32.toNatClampNeg (((p4 + 2216) + 1100) + i27)) ((upd w28 (Int32.toNatClampNeg ((p4 + 2216) + i27)) (w28 (Int32.toNatClampNeg ((p2 + 2216) + i27)))) (Int32.toNatClampNeg (((p2 + 2216) + 1100) + i27)))) H locs ls hP hD hS (lv_sub hl [0, 1, 2, 3, 4, 5, 6] rfl) hw
      refine ky32 _ (fun i27 w28 H locs ls hP hD hS hl hw => ?_) n26 0 w14 H locs ls hP hD hS (lv_sub hl [0, 1, 2, 3, 4, 5, 6] rfl) hw
      refine lv_iinc (v := 2) (lv' := [(4, .int 2), (6, .int i27), (5, .int 2216), (0, .ref f), (1, .int p2), (2, .ref f), (3, .int p4)]) hx hb dX3_copy_115 hl (k := 2) rfl (by decide) (by decide) rfl (fun ls hl => ?_)
      refine lv_goto (tgt := 31) hx hb dX3_copy_118 (by decide) ?_
      refine lv_iload hx hb dX3_copy_31 (lv_at hl 0 rfl) ?_
      refine lv_iconst (v := 2) hx hb dX3_copy_33 (by decide) ?_
      refine lv_icmp_ge (tgt := 121) hx hb dX3_copy_34 (by decide) (fun c39 => ?_) (fun c39 => ?_)
      · exact m_vret (u := w28) hx hb hr hlocks hS hP hD dX3_copy_121 hw
      · exact absurd (show (2 : Int32) ≤ (2 : Int32) from by decide) c39
def qX3_save (x : Mod) (Q : Mod → Prop) : Prop := ((¬ (mS x) = 4 → (qX3_copy 4416 17664 (mN x) (mP x) 0 (4416 * (mS x)) (fun u2 => Q (mN x, mA x, u2, (mS x) + 1, mE x, mH x)))) ∧ ((mS x) = 4 → (qX3_copy_s 17664 (mP x) 4416 0 (fun u4 => (qX3_copy_s 17664 u4 8832 4416 (fun u6 => (qX3_copy_s 17664 u6 13248 8832 (fun u8 => (qX3_copy 4416 17664 (mN x) u8 0 (4416 * ((mS x) - 1)) (fun u10 => Q (mN x, mA x, u10, ((mS x) - 1) + 1, mE x, mH x)))))))))))
set_option maxHeartbeats 4000000 in
set_option maxRecDepth 100000 in
theorem kX3_save (l : Launch) (D : va_G) (I O : ClassId) (a : MA) (sz : Nat) (x : Mod) (Q : Mod → Prop) (hw : qX3_save x Q) : Met l yX3_save wsX3_save rX3_save (mPc D I O [.ref a.1] (mdlW I a x) sz) (va_Qv (fun (u : Mod) => Q u) (mB D (va_A (mdlW I a x) sz) (fun u => mdlW I a u)) (va_A (mdlW I a x) sz)) 0 0 (va_A (mdlW I a x) sz) := by
  refine m_start (by decide) rfl (Nat.le_of_ble_eq_true rfl) (fun p e s m below meth c ls H locs hx hb hr hml hts hown hlocks hnm hK hP hD hA hS hl => ?_)
  have hown : s.vm.findClass RX3 = some m.cls := hown
  have hl : lv_has ls 2 [(0, .ref a.1)] := hl
  have hiX3 : ∀ w ∈ wsX30, w ∈ wsX3_save := by decide +kernel
  have f0 := hts (.fieldLink RX3 25 "WellControlModel" "states" "I") (by decide +kernel)
  have f1 := hts (.fieldLink RX3 7 "WellControlModel" "now" "[I") (by decide +kernel)
  have f2 := hts (.fieldLink RX3 16 "WellControlModel" "past" "[I") (by decide +kernel)
  unfold qX3_save at hw
  refine lv_aload_n hx hb dX3_save_0 rfl (lv_at hl 0 rfl) ?_
  refine va_get (ci := 3) (v := .int (mS x)) (C := RX3) (T := TX3) (N := 6) hx hb hts hiX3 hown hK.1 hP 0 rfl rfl 3 (by decide) f0 (fun _ h9 => h9) rfl dX3_save_1 ?_
  refine lv_iconst (v := 4) hx hb dX3_save_4 (by decide) ?_
  refine lv_icmp_ne (tgt := 54) hx hb dX3_save_5 (by decide) (fun c1 => ?_) (fun c1 => ?_)
  · have hw := hw.1 c1
    refine lv_aload_n hx hb dX3_save_54 rfl (lv_at hl 0 rfl) ?_
    refine va_get (ci := 3) (v := .ref a.2.1) (C := RX3) (T := TX3) (N := 6) hx hb hts hiX3 hown hK.1 hP 0 rfl rfl 0 (by decide) f1 (fun _ h9 => h9) rfl dX3_save_55 ?_
    refine lv_iconst (v := 0) hx hb dX3_save_58 (by decide) ?_
    refine lv_aload_n hx hb dX3_save_59 rfl (lv_at hl 0 rfl) ?_
    refine va_get (ci := 3) (v := .ref a.2.2.2.1) (C := RX3) (T := TX3) (N := 6) hx hb hts hiX3 hown hK.1 hP 0 rfl rfl 2 (by decide) f2 (fun _ h9 => h9) rfl dX3_save_60 ?_
    refine lv_sipush (v := 4416) hx hb dX3_save_63 (by decide) ?_
    refine lv_aload_n hx hb dX3_save_66 rfl (lv_at hl 0 rfl) ?_
    refine va_get (ci := 3) (v := .int (mS x)) (C := RX3) (T := TX3) (N := 6) hx hb hts hiX3 hown hK.1 hP 0 rfl rfl 3 (by decide) f0 (fun _ h9 => h9) rfl dX3_save_67 ?_
    refine lv_imul hx hb dX3_save_70 ?_
    have hPc := va_P.mid (X := [mdlO a x, (a.2.2.2.2, .inl (I, 4, .inl (mE x))), (a.2.2.1, .inl (I, 4416, .inl (mA x)))]) (wc := arB I a.2.1 4416 (mN x) ++ arB I a.2.2.2.1 17664 (mP x)) (Y := []) hP
    have hDc := va_D.mid (X := [mdlO a x, (a.2.2.2.2, .inl (I, 4, .inl (mE x))), (a.2.2.1, .inl (I, 4416, .inl (mA x)))]) (wc := arB I a.2.1 4416 (mN x) ++ arB I a.2.2.2.1 17664 (mP x)) (Y := []) hD
    refine mc_v ([mdlO a x, (a.2.2.2.2, .inl (I, 4, .inl (mE x))), (a.2.2.1, .inl (I, 4416, .inl (mA x)))]) ([]) (mv_S (As := [.ref a.2.1, .int 0, .ref a.2.2.2.1, .int (4416 * (mS x))]) (rest := []) ⟨hx, hb, hml, hown, hts⟩ (kX3_copy_ft l D I O a.2.1 a.2.2.2.1 H.size 4416 17664 (mN x) (mP x) 0 (4416 * (mS x)) _ hw) (va_cwS 4 hts gX3_save_X3_copy rfl rfl rfl hdSX3_copy ⟨(Nat.le_of_ble_eq_true rfl), (Nat.le_of_ble_eq_true rfl)⟩) hK hPc hDc rfl hl.1 rfl (Nat.le_of_ble_eq_true rfl) dX3_save_71 ⟨(Nat.le_of_ble_eq_true rfl), (Nat.le_of_ble_eq_true rfl)⟩) hP hD hS hA (fun u2 H locs hw hP hD hS => ?_)
    have hP : va_P D vwCl (mdlW I a (mN x, mA x, u2, mS x, mE x, mH x)) H := hP
    have hD : va_D (va_A (mdlW I a x) sz) (mdlW I a (mN x, mA x, u2, mS x, mE x, mH x)) := hD
    refine lv_aload_n hx hb dX3_save_74 rfl (lv_at hl 0 rfl) ?_
    refine lv_dup hx hb dX3_save_75 rfl ?_
    refine va_get (ci := 3) (v := .int (mS x)) (C := RX3) (T := TX3) (N := 6) hx hb hts hiX3 hown hK.1 hP 0 rfl rfl 3 (by decide) f0 (fun _ h9 => h9) rfl dX3_save_76 ?_
    refine lv_iconst (v := 1) hx hb dX3_save_79 (by decide) ?_
    refine lv_iadd hx hb dX3_save_80 ?_
    refine va_put (ci := 3) (v := .int ((mS x) + 1)) (ty := .int) (C := RX3) (T := TX3) (N := 6) hx hb hts hiX3 tyX3 tyX3_ok nmX3 hown hK.1 hP hD hS 0 rfl rfl 3 (by decide) f0 (fun _ h9 => h9) rfl (by decide +kernel) rfl rfl (Nat.le_of_ble_eq_true rfl) dX3_save_81 (fun H locs hP hD hS => ?_)
    have hP : va_P D vwCl (mdlW I a (mN x, mA x, u2, (mS x) + 1, mE x, mH x)) H := hP
    have hD : va_D (va_A (mdlW I a x) sz) (mdlW I a (mN x, mA x, u2, (mS x) + 1, mE x, mH x)) := hD
    exact m_vret (u := (mN x, mA x, u2, (mS x) + 1, mE x, mH x)) hx hb hr hlocks hS hP hD dX3_save_84 hw
  · have hw := hw.2 c1
    refine lv_iconst (v := 1) hx hb dX3_save_8 (by decide) ?_
    refine lv_istore_n (lv' := [(1, .int 1), (0, .ref a.1)]) hx hb dX3_save_9 rfl hl (by decide) rfl (fun ls hl => ?_)
    refine lv_iload_n hx hb dX3_save_10 rfl (lv_at hl 0 rfl) ?_
    refine lv_iconst (v := 4) hx hb dX3_save_11 (by decide) ?_
    refine lv_icmp_ge (tgt := 44) hx hb dX3_save_12 (by decide) (fun c3 => ?_) (fun c3 => ?_)
    · exact absurd c3 (show ¬ ((4 : Int32) ≤ (1 : Int32)) from by decide)
    · refine lv_aload_n hx hb dX3_save_15 rfl (lv_at hl 1 rfl) ?_
      refine va_get (ci := 3) (v := .ref a.2.2.2.1) (C := RX3) (T := TX3) (N := 6) hx hb hts hiX3 hown hK.1 hP 0 rfl rfl 2 (by decide) f2 (fun _ h9 => h9) rfl dX3_save_16 ?_
      refine lv_sipush (v := 4416) hx hb dX3_save_19 (by decide) ?_
      refine lv_iload_n hx hb dX3_save_22 rfl (lv_at hl 0 rfl) ?_
      refine lv_imul hx hb dX3_save_23 ?_
      rw [show ((4416 : Int32) * 1) = 4416 from by decide]
      refine lv_aload_n hx hb dX3_save_24 rfl (lv_at hl 1 rfl) ?_
      refine va_get (ci := 3) (v := .ref a.2.2.2.1) (C := RX3) (T := TX3) (N := 6) hx hb hts hiX3 hown hK.1 hP 0 rfl rfl 2 (by decide) f2 (fun _ h9 => h9) rfl dX3_save_25 ?_
      refine lv_sipush (v := 4416) hx hb dX3_save_28 (by decide) ?_
      refine lv_iload_n hx hb dX3_save_31 rfl (lv_at hl 0 rfl) ?_
      refine lv_iconst (v := 1) hx hb dX3_save_32 (by decide) ?_
      refine lv_isub hx hb dX3_save_33 ?_
      rw [show ((1 : Int32) - 1) = 0 from by decide]
      refine lv_imul hx hb dX3_save_34 ?_
      rw [show ((4416 : Int32) * 0) = 0 from by decide]
      have hPc := va_P.mid (X := [mdlO a x, (a.2.2.2.2, .inl (I, 4, .inl (mE x))), (a.2.2.1, .inl (I, 4416, .inl (mA x))), (a.2.1, .inl (I, 4416, .inl (mN x)))]) (wc := arB I a.2.2.2.1 17664 (mP x)) (Y := []) hP
      have hDc := va_D.mid (X := [mdlO a x, (a.2.2.2.2, .inl (I, 4, .inl (mE x))), (a.2.2.1, .inl (I, 4416, .inl (mA x))), (a.2.1, .inl (I, 4416, .inl (mN x)))]) (wc := arB I a.2.2.2.1 17664 (mP x)) (Y := []) hD
      refine mc_v ([mdlO a x, (a.2.2.2.2, .inl (I, 4, .inl (mE x))), (a.2.2.1, .inl (I, 4416, .inl (mA x))), (a.2.1, .inl (I, 4416, .inl (mN x)))]) ([]) (mv_S (As := [.ref a.2.2.2.1, .int 4416, .ref a.2.2.2.1, .int 0]) (rest := []) ⟨hx, hb, hml, hown, hts⟩ (kX3_copy_s l D I O a.2.2.2.1 H.size 17664 (mP x) 4416 0 _ hw) (va_cwS 4 hts gX3_save_X3_copy rfl rfl rfl hdSX3_copy ⟨(Nat.le_of_ble_eq_true rfl), (Nat.le_of_ble_eq_true rfl)⟩) hK hPc hDc rfl hl.1 rfl (Nat.le_of_ble_eq_true rfl) dX3_save_35 ⟨(Nat.le_of_ble_eq_true rfl), (Nat.le_of_ble_eq_true rfl)⟩) hP hD hS hA (fun u4 H locs hw hP hD hS => ?_)
      have hP : va_P D vwCl (mdlW I a (mN x, mA x, u4, mS x, mE x, mH x)) H := hP
      have hD : va_D (va_A (mdlW I a x) sz) (mdlW I a (mN x, mA x, u4, mS x, mE x, mH x)) := hD
      refine lv_iinc (v := 2) (lv' := [(1, .int 2), (0, .ref a.1)]) hx hb dX3_save_38 hl (k := 0) rfl (by decide) (by decide) rfl (fun ls hl => ?_)
      refine lv_goto (tgt := 10) hx hb dX3_save_41 (by decide) ?_
      refine lv_iload_n hx hb dX3_save_10 rfl (lv_at hl 0 rfl) ?_
      refine lv_iconst (v := 4) hx hb dX3_save_11 (by decide) ?_
      refine lv_icmp_ge (tgt := 44) hx hb dX3_save_12 (by decide) (fun c5 => ?_) (fun c5 => ?_)
      · exact absurd c5 (show ¬ ((4 : Int32) ≤ (2 : Int32)) from by decide)
      · refine lv_aload_n hx hb dX3_save_15 rfl (lv_at hl 1 rfl) ?_
        refine va_get (ci := 3) (v := .ref a.2.2.2.1) (C := RX3) (T := TX3) (N := 6) hx hb hts hiX3 hown hK.1 hP 0 rfl rfl 2 (by decide) f2 (fun _ h9 => h9) rfl dX3_save_16 ?_
        refine lv_sipush (v := 4416) hx hb dX3_save_19 (by decide) ?_
        refine lv_iload_n hx hb dX3_save_22 rfl (lv_at hl 0 rfl) ?_
        refine lv_imul hx hb dX3_save_23 ?_
        rw [show ((4416 : Int32) * 2) = 8832 from by decide]
        refine lv_aload_n hx hb dX3_save_24 rfl (lv_at hl 1 rfl) ?_
        refine va_get (ci := 3) (v := .ref a.2.2.2.1) (C := RX3) (T := TX3) (N := 6) hx hb hts hiX3 hown hK.1 hP 0 rfl rfl 2 (by decide) f2 (fun _ h9 => h9) rfl dX3_save_25 ?_
        refine lv_sipush (v := 4416) hx hb dX3_save_28 (by decide) ?_
        refine lv_iload_n hx hb dX3_save_31 rfl (lv_at hl 0 rfl) ?_
        refine lv_iconst (v := 1) hx hb dX3_save_32 (by decide) ?_
        refine lv_isub hx hb dX3_save_33 ?_
        rw [show ((2 : Int32) - 1) = 1 from by decide]
        refine lv_imul hx hb dX3_save_34 ?_
        rw [show ((4416 : Int32) * 1) = 4416 from by decide]
        have hPc := va_P.mid (X := [mdlO a (mN x, mA x, u4, mS x, mE x, mH x), (a.2.2.2.2, .inl (I, 4, .inl (mE x))), (a.2.2.1, .inl (I, 4416, .inl (mA x))), (a.2.1, .inl (I, 4416, .inl (mN x)))]) (wc := arB I a.2.2.2.1 17664 u4) (Y := []) hP
        have hDc := va_D.mid (X := [mdlO a (mN x, mA x, u4, mS x, mE x, mH x), (a.2.2.2.2, .inl (I, 4, .inl (mE x))), (a.2.2.1, .inl (I, 4416, .inl (mA x))), (a.2.1, .inl (I, 4416, .inl (mN x)))]) (wc := arB I a.2.2.2.1 17664 u4) (Y := []) hD
        refine mc_v ([mdlO a (mN x, mA x, u4, mS x, mE x, mH x), (a.2.2.2.2, .inl (I, 4, .inl (mE x))), (a.2.2.1, .inl (I, 4416, .inl (mA x))), (a.2.1, .inl (I, 4416, .inl (mN x)))]) ([]) (mv_S (As := [.ref a.2.2.2.1, .int 8832, .ref a.2.2.2.1, .int 4416]) (rest := []) ⟨hx, hb, hml, hown, hts⟩ (kX3_copy_s l D I O a.2.2.2.1 H.size 17664 u4 8832 4416 _ hw) (va_cwS 4 hts gX3_save_X3_copy rfl rfl rfl hdSX3_copy ⟨(Nat.le_of_ble_eq_true rfl), (Nat.le_of_ble_eq_true rfl)⟩) hK hPc hDc rfl hl.1 rfl (Nat.le_of_ble_eq_true rfl) dX3_save_35 ⟨(Nat.le_of_ble_eq_true rfl), (Nat.le_of_ble_eq_true rfl)⟩) hP hD hS hA (fun u6 H locs hw hP hD hS => ?_)
        have hP : va_P D vwCl (mdlW I a (mN x, mA x, u6, mS x, mE x, mH x)) H := hP
        have hD : va_D (va_A (mdlW I a x) sz) (mdlW I a (mN x, mA x, u6, mS x, mE x, mH x)) := hD
        refine lv_iinc (v := 3) (lv' := [(1, .int 3), (0, .ref a.1)]) hx hb dX3_save_38 hl (k := 0) rfl (by decide) (by decide) rfl (fun ls hl => ?_)
        refine lv_goto (tgt := 10) hx hb dX3_save_41 (by decide) ?_
        refine lv_iload_n hx hb dX3_save_10 rfl (lv_at hl 0 rfl) ?_
        refine lv_iconst (v := 4) hx hb dX3_save_11 (by decide) ?_
        refine lv_icmp_ge (tgt := 44) hx hb dX3_save_12 (by decide) (fun c7 => ?_) (fun c7 => ?_)
        · exact absurd c7 (show ¬ ((4 : Int32) ≤ (3 : Int32)) from by decide)
        · refine lv_aload_n hx hb dX3_save_15 rfl (lv_at hl 1 rfl) ?_
          refine va_get (ci := 3) (v := .ref a.2.2.2.1) (C := RX3) (T := TX3) (N := 6) hx hb hts hiX3 hown hK.1 hP 0 rfl rfl 2 (by decide) f2 (fun _ h9 => h9) rfl dX3_save_16 ?_
          refine lv_sipush (v := 4416) hx hb dX3_save_19 (by decide) ?_
          refine lv_iload_n hx hb dX3_save_22 rfl (lv_at hl 0 rfl) ?_
          refine lv_imul hx hb dX3_save_23 ?_
          rw [show ((4416 : Int32) * 3) = 13248 from by decide]
          refine lv_aload_n hx hb dX3_save_24 rfl (lv_at hl 1 rfl) ?_
          refine va_get (ci := 3) (v := .ref a.2.2.2.1) (C := RX3) (T := TX3) (N := 6) hx hb hts hiX3 hown hK.1 hP 0 rfl rfl 2 (by decide) f2 (fun _ h9 => h9) rfl dX3_save_25 ?_
          refine lv_sipush (v := 4416) hx hb dX3_save_28 (by decide) ?_
          refine lv_iload_n hx hb dX3_save_31 rfl (lv_at hl 0 rfl) ?_
          refine lv_iconst (v := 1) hx hb dX3_save_32 (by decide) ?_
          refine lv_isub hx hb dX3_save_33 ?_
          rw [show ((3 : Int32) - 1) = 2 from by decide]
          refine lv_imul hx hb dX3_save_34 ?_
          rw [show ((4416 : Int32) * 2) = 8832 from by decide]
          have hPc := va_P.mid (X := [mdlO a (mN x, mA x, u6, mS x, mE x, mH x), (a.2.2.2.2, .inl (I, 4, .inl (mE x))), (a.2.2.1, .inl (I, 4416, .inl (mA x))), (a.2.1, .inl (I, 4416, .inl (mN x)))]) (wc := arB I a.2.2.2.1 17664 u6) (Y := []) hP
          have hDc := va_D.mid (X := [mdlO a (mN x, mA x, u6, mS x, mE x, mH x), (a.2.2.2.2, .inl (I, 4, .inl (mE x))), (a.2.2.1, .inl (I, 4416, .inl (mA x))), (a.2.1, .inl (I, 4416, .inl (mN x)))]) (wc := arB I a.2.2.2.1 17664 u6) (Y := []) hD
          refine mc_v ([mdlO a (mN x, mA x, u6, mS x, mE x, mH x), (a.2.2.2.2, .inl (I, 4, .inl (mE x))), (a.2.2.1, .inl (I, 4416, .inl (mA x))), (a.2.1, .inl (I, 4416, .inl (mN x)))]) ([]) (mv_S (As := [.ref a.2.2.2.1, .int 13248, .ref a.2.2.2.1, .int 8832]) (rest := []) ⟨hx, hb, hml, hown, hts⟩ (kX3_copy_s l D I O a.2.2.2.1 H.size 17664 u6 13248 8832 _ hw) (va_cwS 4 hts gX3_save_X3_copy rfl rfl rfl hdSX3_copy ⟨(Nat.le_of_ble_eq_true rfl), (Nat.le_of_ble_eq_true rfl)⟩) hK hPc hDc rfl hl.1 rfl (Nat.le_of_ble_eq_true rfl) dX3_save_35 ⟨(Nat.le_of_ble_eq_true rfl), (Nat.le_of_ble_eq_true rfl)⟩) hP hD hS hA (fun u8 H locs hw hP hD hS => ?_)
          have hP : va_P D vwCl (mdlW I a (mN x, mA x, u8, mS x, mE x, mH x)) H := hP
          have hD : va_D (va_A (mdlW I a x) sz) (mdlW I a (mN x, mA x, u8, mS x, mE x, mH x)) := hD
          refine lv_iinc (v := 4) (lv' := [(1, .int 4), (0, .ref a.1)]) hx hb dX3_save_38 hl (k := 0) rfl (by decide) (by decide) rfl (fun ls hl => ?_)
          refine lv_goto (tgt := 10) hx hb dX3_save_41 (by decide) ?_
          refine lv_iload_n hx hb dX3_save_10 rfl (lv_at hl 0 rfl) ?_
          refine lv_iconst (v := 4) hx hb dX3_save_11 (by decide) ?_
          refine lv_icmp_ge (tgt := 44) hx hb dX3_save_12 (by decide) (fun c9 => ?_) (fun c9 => ?_)
          · refine lv_aload_n hx hb dX3_save_44 rfl (lv_at hl 1 rfl) ?_
            refine lv_dup hx hb dX3_save_45 rfl ?_
            refine va_get (ci := 3) (v := .int (mS x)) (C := RX3) (T := TX3) (N := 6) hx hb hts hiX3 hown hK.1 hP 0 rfl rfl 3 (by decide) f0 (fun _ h9 => h9) rfl dX3_save_46 ?_
            refine lv_iconst (v := 1) hx hb dX3_save_49 (by decide) ?_
            refine lv_isub hx hb dX3_save_50 ?_
            refine va_put (ci := 3) (v := .int ((mS x) - 1)) (ty := .int) (C := RX3) (T := TX3) (N := 6) hx hb hts hiX3 tyX3 tyX3_ok nmX3 hown hK.1 hP hD hS 0 rfl rfl 3 (by decide) f0 (fun _ h9 => h9) rfl (by decide +kernel) rfl rfl (Nat.le_of_ble_eq_true rfl) dX3_save_51 (fun H locs hP hD hS => ?_)
            have hP : va_P D vwCl (mdlW I a (mN x, mA x, u8, (mS x) - 1, mE x, mH x)) H := hP
            have hD : va_D (va_A (mdlW I a x) sz) (mdlW I a (mN x, mA x, u8, (mS x) - 1, mE x, mH x)) := hD
            refine lv_aload_n hx hb dX3_save_54 rfl (lv_at hl 1 rfl) ?_
            refine va_get (ci := 3) (v := .ref a.2.1) (C := RX3) (T := TX3) (N := 6) hx hb hts hiX3 hown hK.1 hP 0 rfl rfl 0 (by decide) f1 (fun _ h9 => h9) rfl dX3_save_55 ?_
            refine lv_iconst (v := 0) hx hb dX3_save_58 (by decide) ?_
            refine lv_aload_n hx hb dX3_save_59 rfl (lv_at hl 1 rfl) ?_
            refine va_get (ci := 3) (v := .ref a.2.2.2.1) (C := RX3) (T := TX3) (N := 6) hx hb hts hiX3 hown hK.1 hP 0 rfl rfl 2 (by decide) f2 (fun _ h9 => h9) rfl dX3_save_60 ?_
            refine lv_sipush (v := 4416) hx hb dX3_save_63 (by decide) ?_
            refine lv_aload_n hx hb dX3_save_66 rfl (lv_at hl 1 rfl) ?_
            refine va_get (ci := 3) (v := .int ((mS x) - 1)) (C := RX3) (T := TX3) (N := 6) hx hb hts hiX3 hown hK.1 hP 0 rfl rfl 3 (by decide) f0 (fun _ h9 => h9) rfl dX3_save_67 ?_
            refine lv_imul hx hb dX3_save_70 ?_
            have hPc := va_P.mid (X := [mdlO a (mN x, mA x, u8, (mS x) - 1, mE x, mH x), (a.2.2.2.2, .inl (I, 4, .inl (mE x))), (a.2.2.1, .inl (I, 4416, .inl (mA x)))]) (wc := arB I a.2.1 4416 (mN x) ++ arB I a.2.2.2.1 17664 u8) (Y := []) hP
            have hDc := va_D.mid (X := [mdlO a (mN x, mA x, u8, (mS x) - 1, mE x, mH x), (a.2.2.2.2, .inl (I, 4, .inl (mE x))), (a.2.2.1, .inl (I, 4416, .inl (mA x)))]) (wc := arB I a.2.1 4416 (mN x) ++ arB I a.2.2.2.1 17664 u8) (Y := []) hD
            refine mc_v ([mdlO a (mN x, mA x, u8, (mS x) - 1, mE x, mH x), (a.2.2.2.2, .inl (I, 4, .inl (mE x))), (a.2.2.1, .inl (I, 4416, .inl (mA x)))]) ([]) (mv_S (As := [.ref a.2.1, .int 0, .ref a.2.2.2.1, .int (4416 * ((mS x) - 1))]) (rest := []) ⟨hx, hb, hml, hown, hts⟩ (kX3_copy_ft l D I O a.2.1 a.2.2.2.1 H.size 4416 17664 (mN x) u8 0 (4416 * ((mS x) - 1)) _ hw) (va_cwS 4 hts gX3_save_X3_copy rfl rfl rfl hdSX3_copy ⟨(Nat.le_of_ble_eq_true rfl), (Nat.le_of_ble_eq_true rfl)⟩) hK hPc hDc rfl hl.1 rfl (Nat.le_of_ble_eq_true rfl) dX3_save_71 ⟨(Nat.le_of_ble_eq_true rfl), (Nat.le_of_ble_eq_true rfl)⟩) hP hD hS hA (fun u10 H locs hw hP hD hS => ?_)
            have hP : va_P D vwCl (mdlW I a (mN x, mA x, u10, (mS x) - 1, mE x, mH x)) H := hP
            have hD : va_D (va_A (mdlW I a x) sz) (mdlW I a (mN x, mA x, u10, (mS x) - 1, mE x, mH x)) := hD
            refine lv_aload_n hx hb dX3_save_74 rfl (lv_at hl 1 rfl) ?_
            refine lv_dup hx hb dX3_save_75 rfl ?_
            refine va_get (ci := 3) (v := .int ((mS x) - 1)) (C := RX3) (T := TX3) (N := 6) hx hb hts hiX3 hown hK.1 hP 0 rfl rfl 3 (by decide) f0 (fun _ h9 => h9) rfl dX3_save_76 ?_
            refine lv_iconst (v := 1) hx hb dX3_save_79 (by decide) ?_
            refine lv_iadd hx hb dX3_save_80 ?_
            refine va_put (ci := 3) (v := .int (((mS x) - 1) + 1)) (ty := .int) (C := RX3) (T := TX3) (N := 6) hx hb hts hiX3 tyX3 tyX3_ok nmX3 hown hK.1 hP hD hS 0 rfl rfl 3 (by decide) f0 (fun _ h9 => h9) rfl (by decide +kernel) rfl rfl (Nat.le_of_ble_eq_true rfl) dX3_save_81 (fun H locs hP hD hS => ?_)
            have hP : va_P D vwCl (mdlW I a (mN x, mA x, u10, ((mS x) - 1) + 1, mE x, mH x)) H := hP
            have hD : va_D (va_A (mdlW I a x) sz) (mdlW I a (mN x, mA x, u10, ((mS x) - 1) + 1, mE x, mH x)) := hD
            exact m_vret (u := (mN x, mA x, u10, ((mS x) - 1) + 1, mE x, mH x)) hx hb hr hlocks hS hP hD dX3_save_84 hw
          · exact absurd (show (4 : Int32) ≤ (4 : Int32) from by decide) c9
