def qJ9_floorMod_7cf53 (p1 : Int32) (p2 : Int32) (Q : Int32 → Prop) : Prop := (¬ p2 = 0 ∧ (∀ v2 : Int32, v2 = p1 - p1 / p2 * p2 → ((0 ≤ (p1 ^^^ p2) → Q v2) ∧ (¬ 0 ≤ (p1 ^^^ p2) → ((v2 = 0 → Q v2) ∧ (¬ v2 = 0 → Q (v2 + p2)))))))
set_option maxHeartbeats 4000000 in
set_option maxRecDepth 100000 in
theorem kJ9_floorMod_7cf53 (l : Launch) (D : va_G) (I O : ClassId) (sz : Nat) (p1 : Int32) (p2 : Int32) (Q : Int32 → Prop) (hw : qJ9_floorMod_7cf53 p1 p2 Q) : Met l yJ9_floorMod_7cf53 wsJ9_floorMod_7cf53 rJ9_floorMod_7cf53 (mPc D I O [.int p1, .int p2] ([]) sz) (va_Qi (fun r (_ : Unit) => Q r) (mB D (va_A ([]) sz) (fun _ => [])) (va_A ([]) sz)) 0 0 (va_A ([]) sz) := by
  refine m_startF (by decide +kernel) rfl (Nat.le_of_ble_eq_true rfl) (fun p e s m below meth c ls H locs hx hb hr hml hts hown hlocks hnm hK hP hD hA hS hl => ?_)
  have hown : s.vm.findClass RJ9 = some m.cls := hown
  have hl : lv_has ls 3 [(0, .int p1), (1, .int p2)] := hl
  unfold qJ9_floorMod_7cf53 at hw
  refine lv_iload_n hx hb dJ9_floorMod_7cf53_0 rfl (lv_at hl 0 rfl) ?_
  refine lv_iload_n hx hb dJ9_floorMod_7cf53_1 rfl (lv_at hl 1 rfl) ?_
  obtain ⟨h1, hw⟩ := hw
  refine lv_irem hx hb dJ9_floorMod_7cf53_2 h1 ?_
  refine lv_topi (fun v2 ev2 => ?_)
  have hw := hw v2 ev2
  refine lv_istore_n (lv' := [(2, .int v2), (0, .int p1), (1, .int p2)]) hx hb dJ9_floorMod_7cf53_3 rfl hl (by decide) rfl (fun ls hl => ?_)
  refine lv_iload_n hx hb dJ9_floorMod_7cf53_4 rfl (lv_at hl 1 rfl) ?_
  refine lv_iload_n hx hb dJ9_floorMod_7cf53_5 rfl (lv_at hl 2 rfl) ?_
  refine lv_ixor hx hb dJ9_floorMod_7cf53_6 ?_
  refine lv_if_ge (tgt := 18) hx hb dJ9_floorMod_7cf53_7 (by decide) (fun c3 => ?_) (fun c3 => ?_)
  · have hw := hw.1 c3
    refine lv_iload_n hx hb dJ9_floorMod_7cf53_18 rfl (lv_at hl 0 rfl) ?_
    exact m_iret (u := ()) hx hb hr hlocks hS hP hD dJ9_floorMod_7cf53_19 hw
  · have hw := hw.2 c3
    refine lv_iload_n hx hb dJ9_floorMod_7cf53_10 rfl (lv_at hl 0 rfl) ?_
    refine lv_if_eq (tgt := 18) hx hb dJ9_floorMod_7cf53_11 (by decide) (fun c4 => ?_) (fun c4 => ?_)
    · have hw := hw.1 c4
      refine lv_iload_n hx hb dJ9_floorMod_7cf53_18 rfl (lv_at hl 0 rfl) ?_
      exact m_iret (u := ()) hx hb hr hlocks hS hP hD dJ9_floorMod_7cf53_19 hw
    · have hw := hw.2 c4
      refine lv_iload_n hx hb dJ9_floorMod_7cf53_14 rfl (lv_at hl 0 rfl) ?_
      refine lv_iload_n hx hb dJ9_floorMod_7cf53_15 rfl (lv_at hl 2 rfl) ?_
      refine lv_iadd hx hb dJ9_floorMod_7cf53_16 ?_
      exact m_iret (u := ()) hx hb hr hlocks hS hP hD dJ9_floorMod_7cf53_17 hw
def qX0_clear (x : Col) (Q : Col → Prop) : Prop := Q (zF x, zV x, zD x, 0, 0, 0)
set_option maxHeartbeats 4000000 in
set_option maxRecDepth 100000 in
theorem kX0_clear (l : Launch) (D : va_G) (I O : ClassId) (a : CA) (sz : Nat) (x : Col) (Q : Col → Prop) (hw : qX0_clear x Q) : Met l yX0_clear wsX0_clear rX0_clear (mPc D I O [.ref a.1] (colB I a x) sz) (va_Qv (fun (u : Col) => Q u) (mB D (va_A (colB I a x) sz) (fun u => colB I a u)) (va_A (colB I a x) sz)) 0 0 (va_A (colB I a x) sz) := by
  refine m_start (by decide) rfl (Nat.le_of_ble_eq_true rfl) (fun p e s m below meth c ls H locs hx hb hr hml hts hown hlocks hnm hK hP hD hA hS hl => ?_)
  have hown : s.vm.findClass RX0 = some m.cls := hown
  have hl : lv_has ls 1 [(0, .ref a.1)] := hl
  have hiX0 : ∀ w ∈ wsX00, w ∈ wsX0_clear := by decide +kernel
  have f0 := hts (.fieldLink RX0 22 "WellControl$Column" "oldest" "I") (by decide +kernel)
  have f1 := hts (.fieldLink RX0 26 "WellControl$Column" "count" "I") (by decide +kernel)
  have f2 := hts (.fieldLink RX0 29 "WellControl$Column" "load" "J") (by decide +kernel)
  unfold qX0_clear at hw
  refine lv_aload_n hx hb dX0_clear_0 rfl (lv_at hl 0 rfl) ?_
  refine lv_iconst (v := 0) hx hb dX0_clear_1 (by decide) ?_
  refine va_put (ci := 0) (v := .int 0) (ty := .int) (C := RX0) (T := TX0) (N := 6) hx hb hts hiX0 tyX0 tyX0_ok nmX0 hown hK.1 hP hD hS 0 rfl rfl 3 (by decide) f0 (fun _ h9 => h9) rfl (by decide +kernel) rfl rfl (Nat.le_of_ble_eq_true rfl) dX0_clear_2 (fun H locs hP hD hS => ?_)
  have hP : va_P D vwCl (colB I a (zF x, zV x, zD x, 0, zN x, zL x)) H := hP
  have hD : va_D (va_A (colB I a x) sz) (colB I a (zF x, zV x, zD x, 0, zN x, zL x)) := hD
  refine lv_aload_n hx hb dX0_clear_5 rfl (lv_at hl 0 rfl) ?_
  refine lv_iconst (v := 0) hx hb dX0_clear_6 (by decide) ?_
  refine va_put (ci := 0) (v := .int 0) (ty := .int) (C := RX0) (T := TX0) (N := 6) hx hb hts hiX0 tyX0 tyX0_ok nmX0 hown hK.1 hP hD hS 0 rfl rfl 4 (by decide) f1 (fun _ h9 => h9) rfl (by decide +kernel) rfl rfl (Nat.le_of_ble_eq_true rfl) dX0_clear_7 (fun H locs hP hD hS => ?_)
  have hP : va_P D vwCl (colB I a (zF x, zV x, zD x, 0, 0, zL x)) H := hP
  have hD : va_D (va_A (colB I a x) sz) (colB I a (zF x, zV x, zD x, 0, 0, zL x)) := hD
  refine lv_aload_n hx hb dX0_clear_10 rfl (lv_at hl 0 rfl) ?_
  refine lv_lconst (v := 0) hx hb dX0_clear_11 (by decide) ?_
  refine va_put (ci := 0) (v := .long 0) (ty := .long) (C := RX0) (T := TX0) (N := 6) hx hb hts hiX0 tyX0 tyX0_ok nmX0 hown hK.1 hP hD hS 0 rfl rfl 5 (by decide) f2 (fun _ h9 => h9) rfl (by decide +kernel) rfl rfl (Nat.le_of_ble_eq_true rfl) dX0_clear_12 (fun H locs hP hD hS => ?_)
  have hP : va_P D vwCl (colB I a (zF x, zV x, zD x, 0, 0, 0)) H := hP
  have hD : va_D (va_A (colB I a x) sz) (colB I a (zF x, zV x, zD x, 0, 0, 0)) := hD
  exact m_vret (u := (zF x, zV x, zD x, 0, 0, 0)) hx hb hr hlocks hS hP hD dX0_clear_15 hw
def qX0_placeOfAge (x : Col) (p1 : Int32) (Q : Int32 → Prop) : Prop := (qJ9_floorMod_7cf53 ((zO x) + p1) 520 (fun r1 => Q r1))
set_option maxHeartbeats 4000000 in
set_option maxRecDepth 100000 in
theorem kX0_placeOfAge (l : Launch) (D : va_G) (I O : ClassId) (a : CA) (sz : Nat) (x : Col) (p1 : Int32) (Q : Int32 → Prop) (hw : qX0_placeOfAge x p1 Q) : Met l yX0_placeOfAge wsX0_placeOfAge rX0_placeOfAge (mPc D I O [.ref a.1, .int p1] (colB I a x) sz) (va_Qi (fun r (_ : Unit) => Q r) (mB D (va_A (colB I a x) sz) (fun _ => colB I a x)) (va_A (colB I a x) sz)) 0 0 (va_A (colB I a x) sz) := by
  refine m_start (by decide) rfl (Nat.le_of_ble_eq_true rfl) (fun p e s m below meth c ls H locs hx hb hr hml hts hown hlocks hnm hK hP hD hA hS hl => ?_)
  have hown : s.vm.findClass RX0 = some m.cls := hown
  have hl : lv_has ls 2 [(0, .ref a.1), (1, .int p1)] := hl
  have hiX0 : ∀ w ∈ wsX00, w ∈ wsX0_placeOfAge := by decide +kernel
  have f0 := hts (.fieldLink RX0 22 "WellControl$Column" "oldest" "I") (by decide +kernel)
  unfold qX0_placeOfAge at hw
  refine lv_aload_n hx hb dX0_placeOfAge_0 rfl (lv_at hl 0 rfl) ?_
  refine va_get (ci := 0) (v := .int (zO x)) (C := RX0) (T := TX0) (N := 6) hx hb hts hiX0 hown hK.1 hP 0 rfl rfl 3 (by decide) f0 (fun _ h9 => h9) rfl dX0_placeOfAge_1 ?_
  refine lv_iload_n hx hb dX0_placeOfAge_4 rfl (lv_at hl 1 rfl) ?_
  refine lv_iadd hx hb dX0_placeOfAge_5 ?_
  refine lv_sipush (v := 520) hx hb dX0_placeOfAge_6 (by decide) ?_
  refine m0_i (mv_S (As := [.int ((zO x) + p1), .int 520]) (rest := []) ⟨hx, hb, hml, hown, hts⟩ (kJ9_floorMod_7cf53 l D I O H.size ((zO x) + p1) 520 _ hw) (va_cwS 2 hts gX0_placeOfAge_J9_floorMod_7cf53 rfl rfl rfl hdSJ9_floorMod_7cf53 ⟨(Nat.le_of_ble_eq_true rfl), (Nat.le_of_ble_eq_true rfl)⟩) hK (nil_P (D := D) (H := H)) (nil_D (A := va_A (colB I a x) sz)) rfl hl.1 rfl (Nat.le_of_ble_eq_true rfl) dX0_placeOfAge_9 ⟨(Nat.le_of_ble_eq_true rfl), (Nat.le_of_ble_eq_true rfl)⟩) hP hD hS hA (fun r1 _ H locs hw hP hD hS => ?_)
  exact m_iret (u := ()) hx hb hr hlocks hS hP hD dX0_placeOfAge_12 hw
def qX0_placeOfIndex (x : Col) (p1 : Int32) (Q : Int32 → Prop) : Prop := (((zF x) = 0 → (qJ9_floorMod_7cf53 ((zO x) + p1) 520 (fun r2 => Q r2))) ∧ (¬ (zF x) = 0 → (∀ v3 : Int32, v3 = ((zN x) - 1) - p1 → (qJ9_floorMod_7cf53 ((zO x) + v3) 520 (fun r4 => Q r4)))))
set_option maxHeartbeats 4000000 in
set_option maxRecDepth 100000 in
theorem kX0_placeOfIndex (l : Launch) (D : va_G) (I O : ClassId) (a : CA) (sz : Nat) (x : Col) (p1 : Int32) (Q : Int32 → Prop) (hw : qX0_placeOfIndex x p1 Q) : Met l yX0_placeOfIndex wsX0_placeOfIndex rX0_placeOfIndex (mPc D I O [.ref a.1, .int p1] (colB I a x) sz) (va_Qi (fun r (_ : Unit) => Q r) (mB D (va_A (colB I a x) sz) (fun _ => colB I a x)) (va_A (colB I a x) sz)) 0 0 (va_A (colB I a x) sz) := by
  refine m_start (by decide) rfl (Nat.le_of_ble_eq_true rfl) (fun p e s m below meth c ls H locs hx hb hr hml hts hown hlocks hnm hK hP hD hA hS hl => ?_)
  have hown : s.vm.findClass RX0 = some m.cls := hown
  have hl : lv_has ls 3 [(0, .ref a.1), (1, .int p1)] := hl
  have hiX0 : ∀ w ∈ wsX00, w ∈ wsX0_placeOfIndex := by decide +kernel
  have f0 := hts (.fieldLink RX0 18 "WellControl$Column" "filledFromTop" "Z") (by decide +kernel)
  have f1 := hts (.fieldLink RX0 22 "WellControl$Column" "oldest" "I") (by decide +kernel)
  have f2 := hts (.fieldLink RX0 26 "WellControl$Column" "count" "I") (by decide +kernel)
  unfold qX0_placeOfIndex at hw
  refine lv_aload_n hx hb dX0_placeOfIndex_0 rfl (lv_at hl 0 rfl) ?_
  refine va_get (ci := 0) (v := .int (zF x)) (C := RX0) (T := TX0) (N := 6) hx hb hts hiX0 hown hK.1 hP 0 rfl rfl 0 (by decide) f0 (fun _ h9 => h9) rfl dX0_placeOfIndex_1 ?_
  refine lv_if_eq (tgt := 18) hx hb dX0_placeOfIndex_4 (by decide) (fun c1 => ?_) (fun c1 => ?_)
  · have hw := hw.1 c1
    refine lv_iload_n hx hb dX0_placeOfIndex_18 rfl (lv_at hl 1 rfl) ?_
    refine lv_istore_n (lv' := [(2, .int p1), (0, .ref a.1), (1, .int p1)]) hx hb dX0_placeOfIndex_19 rfl hl (by decide) rfl (fun ls hl => ?_)
    refine lv_aload_n hx hb dX0_placeOfIndex_20 rfl (lv_at hl 1 rfl) ?_
    refine va_get (ci := 0) (v := .int (zO x)) (C := RX0) (T := TX0) (N := 6) hx hb hts hiX0 hown hK.1 hP 0 rfl rfl 3 (by decide) f1 (fun _ h9 => h9) rfl dX0_placeOfIndex_21 ?_
    refine lv_iload_n hx hb dX0_placeOfIndex_24 rfl (lv_at hl 0 rfl) ?_
    refine lv_iadd hx hb dX0_placeOfIndex_25 ?_
    refine lv_sipush (v := 520) hx hb dX0_placeOfIndex_26 (by decide) ?_
    refine m0_i (mv_S (As := [.int ((zO x) + p1), .int 520]) (rest := []) ⟨hx, hb, hml, hown, hts⟩ (kJ9_floorMod_7cf53 l D I O H.size ((zO x) + p1) 520 _ hw) (va_cwS 2 hts gX0_placeOfIndex_J9_floorMod_7cf53 rfl rfl rfl hdSJ9_floorMod_7cf53 ⟨(Nat.le_of_ble_eq_true rfl), (Nat.le_of_ble_eq_true rfl)⟩) hK (nil_P (D := D) (H := H)) (nil_D (A := va_A (colB I a x) sz)) rfl hl.1 rfl (Nat.le_of_ble_eq_true rfl) dX0_placeOfIndex_29 ⟨(Nat.le_of_ble_eq_true rfl), (Nat.le_of_ble_eq_true rfl)⟩) hP hD hS hA (fun r2 _ H locs hw hP hD hS => ?_)
    exact m_iret (u := ()) hx hb hr hlocks hS hP hD dX0_placeOfIndex_32 hw
  · have hw := hw.2 c1
    refine lv_aload_n hx hb dX0_placeOfIndex_7 rfl (lv_at hl 0 rfl) ?_
    refine va_get (ci := 0) (v := .int (zN x)) (C := RX0) (T := TX0) (N := 6) hx hb hts hiX0 hown hK.1 hP 0 rfl rfl 4 (by decide) f2 (fun _ h9 => h9) rfl dX0_placeOfIndex_8 ?_
    refine lv_iconst (v := 1) hx hb dX0_placeOfIndex_11 (by decide) ?_
    refine lv_isub hx hb dX0_placeOfIndex_12 ?_
    refine lv_iload_n hx hb dX0_placeOfIndex_13 rfl (lv_at hl 1 rfl) ?_
    refine lv_isub hx hb dX0_placeOfIndex_14 ?_
    refine lv_goto (tgt := 19) hx hb dX0_placeOfIndex_15 (by decide) ?_
    refine lv_topi (fun v3 ev3 => ?_)
    have hw := hw v3 ev3
    refine lv_istore_n (lv' := [(2, .int v3), (0, .ref a.1), (1, .int p1)]) hx hb dX0_placeOfIndex_19 rfl hl (by decide) rfl (fun ls hl => ?_)
    refine lv_aload_n hx hb dX0_placeOfIndex_20 rfl (lv_at hl 1 rfl) ?_
    refine va_get (ci := 0) (v := .int (zO x)) (C := RX0) (T := TX0) (N := 6) hx hb hts hiX0 hown hK.1 hP 0 rfl rfl 3 (by decide) f1 (fun _ h9 => h9) rfl dX0_placeOfIndex_21 ?_
    refine lv_iload_n hx hb dX0_placeOfIndex_24 rfl (lv_at hl 0 rfl) ?_
    refine lv_iadd hx hb dX0_placeOfIndex_25 ?_
    refine lv_sipush (v := 520) hx hb dX0_placeOfIndex_26 (by decide) ?_
    refine m0_i (mv_S (As := [.int ((zO x) + v3), .int 520]) (rest := []) ⟨hx, hb, hml, hown, hts⟩ (kJ9_floorMod_7cf53 l D I O H.size ((zO x) + v3) 520 _ hw) (va_cwS 2 hts gX0_placeOfIndex_J9_floorMod_7cf53 rfl rfl rfl hdSJ9_floorMod_7cf53 ⟨(Nat.le_of_ble_eq_true rfl), (Nat.le_of_ble_eq_true rfl)⟩) hK (nil_P (D := D) (H := H)) (nil_D (A := va_A (colB I a x) sz)) rfl hl.1 rfl (Nat.le_of_ble_eq_true rfl) dX0_placeOfIndex_29 ⟨(Nat.le_of_ble_eq_true rfl), (Nat.le_of_ble_eq_true rfl)⟩) hP hD hS hA (fun r4 _ H locs hw hP hD hS => ?_)
    exact m_iret (u := ()) hx hb hr hlocks hS hP hD dX0_placeOfIndex_32 hw
def qX0_volumeOf (x : Col) (p1 : Int32) (Q : Int32 → Prop) : Prop := (qX0_placeOfIndex x p1 (fun r1 => (vp_in r1 520 ∧ Q ((zV x) (Int32.toNatClampNeg r1)))))
set_option maxHeartbeats 4000000 in
set_option maxRecDepth 100000 in
theorem kX0_volumeOf (l : Launch) (D : va_G) (I O : ClassId) (a : CA) (sz : Nat) (x : Col) (p1 : Int32) (Q : Int32 → Prop) (hw : qX0_volumeOf x p1 Q) : Met l yX0_volumeOf wsX0_volumeOf rX0_volumeOf (mPc D I O [.ref a.1, .int p1] (colB I a x) sz) (va_Qi (fun r (_ : Unit) => Q r) (mB D (va_A (colB I a x) sz) (fun _ => colB I a x)) (va_A (colB I a x) sz)) 0 0 (va_A (colB I a x) sz) := by
  refine m_start (by decide) rfl (Nat.le_of_ble_eq_true rfl) (fun p e s m below meth c ls H locs hx hb hr hml hts hown hlocks hnm hK hP hD hA hS hl => ?_)
  have hown : s.vm.findClass RX0 = some m.cls := hown
  have hl : lv_has ls 2 [(0, .ref a.1), (1, .int p1)] := hl
  have hiX0 : ∀ w ∈ wsX00, w ∈ wsX0_volumeOf := by decide +kernel
  have f0 := hts (.fieldLink RX0 9 "WellControl$Column" "volumes" "[I") (by decide +kernel)
  unfold qX0_volumeOf at hw
  refine lv_aload_n hx hb dX0_volumeOf_0 rfl (lv_at hl 0 rfl) ?_
  refine va_get (ci := 0) (v := .ref a.2.1) (C := RX0) (T := TX0) (N := 6) hx hb hts hiX0 hown hK.1 hP 0 rfl rfl 1 (by decide) f0 (fun _ h9 => h9) rfl dX0_volumeOf_1 ?_
  refine lv_aload_n hx hb dX0_volumeOf_4 rfl (lv_at hl 0 rfl) ?_
  refine lv_iload_n hx hb dX0_volumeOf_5 rfl (lv_at hl 1 rfl) ?_
  refine mw_i (mv_V (As := [.int p1]) (rest := [.ref a.2.1]) ⟨hx, hb, hml, hown, hts⟩ (kX0_placeOfIndex l D I O a H.size x p1 _ hw) (cwV 1 hts gX0_volumeOf_X0_placeOfIndex rfl rfl rfl hdVX0_placeOfIndex ⟨(Nat.le_of_ble_eq_true rfl), (Nat.le_of_ble_eq_true rfl)⟩) hK hP hD 0 0 rfl rfl rfl rfl hl.1 rfl (Nat.le_of_ble_eq_true rfl) dX0_volumeOf_6 ⟨(Nat.le_of_ble_eq_true rfl), (Nat.le_of_ble_eq_true rfl)⟩) hP hD hS hA (fun r1 _ H locs hw hP hD hS => ?_)
  have hP : va_P D vwCl (colB I a x) H := hP
  have hD : va_D (va_A (colB I a x) sz) (colB I a x) := hD
  obtain ⟨h2, hw⟩ := hw
  refine va_iald hx hb hK.1 hP 1 0 rfl rfl h2 dX0_volumeOf_9 ?_
  exact m_iret (u := ()) hx hb hr hlocks hS hP hD dX0_volumeOf_10 hw
def qX0_densityOf (x : Col) (p1 : Int32) (Q : Int32 → Prop) : Prop := (qX0_placeOfIndex x p1 (fun r1 => (vp_in r1 520 ∧ Q ((zD x) (Int32.toNatClampNeg r1)))))
set_option maxHeartbeats 4000000 in
set_option maxRecDepth 100000 in
theorem kX0_densityOf (l : Launch) (D : va_G) (I O : ClassId) (a : CA) (sz : Nat) (x : Col) (p1 : Int32) (Q : Int32 → Prop) (hw : qX0_densityOf x p1 Q) : Met l yX0_densityOf wsX0_densityOf rX0_densityOf (mPc D I O [.ref a.1, .int p1] (colB I a x) sz) (va_Qi (fun r (_ : Unit) => Q r) (mB D (va_A (colB I a x) sz) (fun _ => colB I a x)) (va_A (colB I a x) sz)) 0 0 (va_A (colB I a x) sz) := by
  refine m_start (by decide) rfl (Nat.le_of_ble_eq_true rfl) (fun p e s m below meth c ls H locs hx hb hr hml hts hown hlocks hnm hK hP hD hA hS hl => ?_)
  have hown : s.vm.findClass RX0 = some m.cls := hown
  have hl : lv_has ls 2 [(0, .ref a.1), (1, .int p1)] := hl
  have hiX0 : ∀ w ∈ wsX00, w ∈ wsX0_densityOf := by decide +kernel
  have f0 := hts (.fieldLink RX0 15 "WellControl$Column" "densities" "[I") (by decide +kernel)
  unfold qX0_densityOf at hw
  refine lv_aload_n hx hb dX0_densityOf_0 rfl (lv_at hl 0 rfl) ?_
  refine va_get (ci := 0) (v := .ref a.2.2) (C := RX0) (T := TX0) (N := 6) hx hb hts hiX0 hown hK.1 hP 0 rfl rfl 2 (by decide) f0 (fun _ h9 => h9) rfl dX0_densityOf_1 ?_
  refine lv_aload_n hx hb dX0_densityOf_4 rfl (lv_at hl 0 rfl) ?_
  refine lv_iload_n hx hb dX0_densityOf_5 rfl (lv_at hl 1 rfl) ?_
  refine mw_i (mv_V (As := [.int p1]) (rest := [.ref a.2.2]) ⟨hx, hb, hml, hown, hts⟩ (kX0_placeOfIndex l D I O a H.size x p1 _ hw) (cwV 1 hts gX0_densityOf_X0_placeOfIndex rfl rfl rfl hdVX0_placeOfIndex ⟨(Nat.le_of_ble_eq_true rfl), (Nat.le_of_ble_eq_true rfl)⟩) hK hP hD 0 0 rfl rfl rfl rfl hl.1 rfl (Nat.le_of_ble_eq_true rfl) dX0_densityOf_6 ⟨(Nat.le_of_ble_eq_true rfl), (Nat.le_of_ble_eq_true rfl)⟩) hP hD hS hA (fun r1 _ H locs hw hP hD hS => ?_)
  have hP : va_P D vwCl (colB I a x) H := hP
  have hD : va_D (va_A (colB I a x) sz) (colB I a x) := hD
  obtain ⟨h2, hw⟩ := hw
  refine va_iald hx hb hK.1 hP 2 0 rfl rfl h2 dX0_densityOf_9 ?_
  exact m_iret (u := ()) hx hb hr hlocks hS hP hD dX0_densityOf_10 hw
def qX0_joinsNewest (x : Col) (p1 : Int32) (Q : Int32 → Prop) : Prop := ((520 ≤ (zN x) → Q 1) ∧ (¬ 520 ≤ (zN x) → (((zN x) ≤ 0 → Q 0) ∧ (¬ (zN x) ≤ 0 → (qX0_placeOfAge x ((zN x) - 1) (fun r3 => (vp_in r3 520 ∧ ((¬ ((zD x) (Int32.toNatClampNeg r3)) = p1 → Q 0) ∧ (((zD x) (Int32.toNatClampNeg r3)) = p1 → Q 1)))))))))
set_option maxHeartbeats 4000000 in
set_option maxRecDepth 100000 in
theorem kX0_joinsNewest (l : Launch) (D : va_G) (I O : ClassId) (a : CA) (sz : Nat) (x : Col) (p1 : Int32) (Q : Int32 → Prop) (hw : qX0_joinsNewest x p1 Q) : Met l yX0_joinsNewest wsX0_joinsNewest rX0_joinsNewest (mPc D I O [.ref a.1, .int p1] (colB I a x) sz) (va_Qi (fun r (_ : Unit) => Q r) (mB D (va_A (colB I a x) sz) (fun _ => colB I a x)) (va_A (colB I a x) sz)) 0 0 (va_A (colB I a x) sz) := by
  refine m_start (by decide) rfl (Nat.le_of_ble_eq_true rfl) (fun p e s m below meth c ls H locs hx hb hr hml hts hown hlocks hnm hK hP hD hA hS hl => ?_)
  have hown : s.vm.findClass RX0 = some m.cls := hown
  have hl : lv_has ls 2 [(0, .ref a.1), (1, .int p1)] := hl
  have hiX0 : ∀ w ∈ wsX00, w ∈ wsX0_joinsNewest := by decide +kernel
  have f0 := hts (.fieldLink RX0 26 "WellControl$Column" "count" "I") (by decide +kernel)
  have f1 := hts (.fieldLink RX0 15 "WellControl$Column" "densities" "[I") (by decide +kernel)
  unfold qX0_joinsNewest at hw
  refine lv_aload_n hx hb dX0_joinsNewest_0 rfl (lv_at hl 0 rfl) ?_
  refine va_get (ci := 0) (v := .int (zN x)) (C := RX0) (T := TX0) (N := 6) hx hb hts hiX0 hown hK.1 hP 0 rfl rfl 4 (by decide) f0 (fun _ h9 => h9) rfl dX0_joinsNewest_1 ?_
  refine lv_sipush (v := 520) hx hb dX0_joinsNewest_4 (by decide) ?_
  refine lv_icmp_ge (tgt := 36) hx hb dX0_joinsNewest_7 (by decide) (fun c1 => ?_) (fun c1 => ?_)
  · have hw := hw.1 c1
    refine lv_iconst (v := 1) hx hb dX0_joinsNewest_36 (by decide) ?_
    refine lv_goto (tgt := 41) hx hb dX0_joinsNewest_37 (by decide) ?_
    exact m_zret (u := ()) hx hb hr hlocks (by decide) hS hP hD dX0_joinsNewest_41 hw
  · have hw := hw.2 c1
    refine lv_aload_n hx hb dX0_joinsNewest_10 rfl (lv_at hl 0 rfl) ?_
    refine va_get (ci := 0) (v := .int (zN x)) (C := RX0) (T := TX0) (N := 6) hx hb hts hiX0 hown hK.1 hP 0 rfl rfl 4 (by decide) f0 (fun _ h9 => h9) rfl dX0_joinsNewest_11 ?_
    refine lv_if_le (tgt := 40) hx hb dX0_joinsNewest_14 (by decide) (fun c2 => ?_) (fun c2 => ?_)
    · have hw := hw.1 c2
      refine lv_iconst (v := 0) hx hb dX0_joinsNewest_40 (by decide) ?_
      exact m_zret (u := ()) hx hb hr hlocks (by decide) hS hP hD dX0_joinsNewest_41 hw
    · have hw := hw.2 c2
      refine lv_aload_n hx hb dX0_joinsNewest_17 rfl (lv_at hl 0 rfl) ?_
      refine va_get (ci := 0) (v := .ref a.2.2) (C := RX0) (T := TX0) (N := 6) hx hb hts hiX0 hown hK.1 hP 0 rfl rfl 2 (by decide) f1 (fun _ h9 => h9) rfl dX0_joinsNewest_18 ?_
      refine lv_aload_n hx hb dX0_joinsNewest_21 rfl (lv_at hl 0 rfl) ?_
      refine lv_aload_n hx hb dX0_joinsNewest_22 rfl (lv_at hl 0 rfl) ?_
      refine va_get (ci := 0) (v := .int (zN x)) (C := RX0) (T := TX0) (N := 6) hx hb hts hiX0 hown hK.1 hP 0 rfl rfl 4 (by decide) f0 (fun _ h9 => h9) rfl dX0_joinsNewest_23 ?_
      refine lv_iconst (v := 1) hx hb dX0_joinsNewest_26 (by decide) ?_
      refine lv_isub hx hb dX0_joinsNewest_27 ?_
      refine mw_i (mv_V (As := [.int ((zN x) - 1)]) (rest := [.ref a.2.2]) ⟨hx, hb, hml, hown, hts⟩ (kX0_placeOfAge l D I O a H.size x ((zN x) - 1) _ hw) (cwV 1 hts gX0_joinsNewest_X0_placeOfAge rfl rfl rfl hdVX0_placeOfAge ⟨(Nat.le_of_ble_eq_true rfl), (Nat.le_of_ble_eq_true rfl)⟩) hK hP hD 0 0 rfl rfl rfl rfl hl.1 rfl (Nat.le_of_ble_eq_true rfl) dX0_joinsNewest_28 ⟨(Nat.le_of_ble_eq_true rfl), (Nat.le_of_ble_eq_true rfl)⟩) hP hD hS hA (fun r3 _ H locs hw hP hD hS => ?_)
      have hP : va_P D vwCl (colB I a x) H := hP
      have hD : va_D (va_A (colB I a x) sz) (colB I a x) := hD
      obtain ⟨h4, hw⟩ := hw
      refine va_iald hx hb hK.1 hP 2 0 rfl rfl h4 dX0_joinsNewest_31 ?_
      refine lv_iload_n hx hb dX0_joinsNewest_32 rfl (lv_at hl 1 rfl) ?_
      refine lv_icmp_ne (tgt := 40) hx hb dX0_joinsNewest_33 (by decide) (fun c5 => ?_) (fun c5 => ?_)
      · have hw := hw.1 c5
        refine lv_iconst (v := 0) hx hb dX0_joinsNewest_40 (by decide) ?_
        exact m_zret (u := ()) hx hb hr hlocks (by decide) hS hP hD dX0_joinsNewest_41 hw
      · have hw := hw.2 c5
        refine lv_iconst (v := 1) hx hb dX0_joinsNewest_36 (by decide) ?_
        refine lv_goto (tgt := 41) hx hb dX0_joinsNewest_37 (by decide) ?_
        exact m_zret (u := ()) hx hb hr hlocks (by decide) hS hP hD dX0_joinsNewest_41 hw
def qX0_enter (x : Col) (p1 : Int32) (p2 : Int32) (Q : Col → Prop) : Prop := (qX0_joinsNewest x p2 (fun r1 => ((¬ r1 = 0 → (qX0_placeOfAge x ((zN x) - 1) (fun r3 => (vp_in r3 520 ∧ (vp_in r3 520 ∧ (vp_in r3 520 ∧ Q (zF x, upd (zV x) (Int32.toNatClampNeg r3) (((zV x) (Int32.toNatClampNeg r3)) + p1), zD x, zO x, zN x, (zL x) + ((Int32.toInt64 p1) * (Int32.toInt64 ((zD x) (Int32.toNatClampNeg r3))))))))))) ∧ (r1 = 0 → (qX0_placeOfAge x (zN x) (fun r7 => (vp_in r7 520 ∧ (vp_in r7 520 ∧ (qX0_placeOfAge (zF x, upd (zV x) (Int32.toNatClampNeg r7) 0, upd (zD x) (Int32.toNatClampNeg r7) p2, zO x, (zN x) + 1, zL x) (((zN x) + 1) - 1) (fun r10 => (vp_in r10 520 ∧ (vp_in r10 520 ∧ (vp_in r10 520 ∧ Q (zF x, upd (upd (zV x) (Int32.toNatClampNeg r7) 0) (Int32.toNatClampNeg r10) (((upd (zV x) (Int32.toNatClampNeg r7) 0) (Int32.toNatClampNeg r10)) + p1), upd (zD x) (Int32.toNatClampNeg r7) p2, zO x, (zN x) + 1, (zL x) + ((Int32.toInt64 p1) * (Int32.toInt64 ((upd (zD x) (Int32.toNatClampNeg r7) p2) (Int32.toNatClampNeg r10))))))))))))))))))
set_option maxHeartbeats 4000000 in
set_option maxRecDepth 100000 in
theorem kX0_enter (l : Launch) (D : va_G) (I O : ClassId) (a : CA) (sz : Nat) (x : Col) (p1 : Int32) (p2 : Int32) (Q : Col → Prop) (hw : qX0_enter x p1 p2 Q) : Met l yX0_enter wsX0_enter rX0_enter (mPc D I O [.ref a.1, .int p1, .int p2] (colB I a x) sz) (va_Qv (fun (u : Col) => Q u) (mB D (va_A (colB I a x) sz) (fun u => colB I a u)) (va_A (colB I a x) sz)) 0 0 (va_A (colB I a x) sz) := by
  refine m_start (by decide) rfl (Nat.le_of_ble_eq_true rfl) (fun p e s m below meth c ls H locs hx hb hr hml hts hown hlocks hnm hK hP hD hA hS hl => ?_)
  have hown : s.vm.findClass RX0 = some m.cls := hown
  have hl : lv_has ls 4 [(0, .ref a.1), (1, .int p1), (2, .int p2)] := hl
  have hiX0 : ∀ w ∈ wsX00, w ∈ wsX0_enter := by decide +kernel
  have f0 := hts (.fieldLink RX0 26 "WellControl$Column" "count" "I") (by decide +kernel)
  have f1 := hts (.fieldLink RX0 9 "WellControl$Column" "volumes" "[I") (by decide +kernel)
  have f2 := hts (.fieldLink RX0 29 "WellControl$Column" "load" "J") (by decide +kernel)
  have f3 := hts (.fieldLink RX0 15 "WellControl$Column" "densities" "[I") (by decide +kernel)
  unfold qX0_enter at hw
  refine lv_aload_n hx hb dX0_enter_0 rfl (lv_at hl 0 rfl) ?_
  refine lv_iload_n hx hb dX0_enter_1 rfl (lv_at hl 2 rfl) ?_
  refine mw_i (mv_V (As := [.int p2]) (rest := []) ⟨hx, hb, hml, hown, hts⟩ (kX0_joinsNewest l D I O a H.size x p2 _ hw) (cwV 1 hts gX0_enter_X0_joinsNewest rfl rfl rfl hdVX0_joinsNewest ⟨(Nat.le_of_ble_eq_true rfl), (Nat.le_of_ble_eq_true rfl)⟩) hK hP hD 0 0 rfl rfl rfl rfl hl.1 rfl (Nat.le_of_ble_eq_true rfl) dX0_enter_2 ⟨(Nat.le_of_ble_eq_true rfl), (Nat.le_of_ble_eq_true rfl)⟩) hP hD hS hA (fun r1 _ H locs hw hP hD hS => ?_)
  have hP : va_P D vwCl (colB I a x) H := hP
  have hD : va_D (va_A (colB I a x) sz) (colB I a x) := hD
  refine lv_if_ne (tgt := 41) hx hb dX0_enter_5 (by decide) (fun c2 => ?_) (fun c2 => ?_)
  · have hw := hw.1 c2
    refine lv_aload_n hx hb dX0_enter_41 rfl (lv_at hl 0 rfl) ?_
    refine lv_aload_n hx hb dX0_enter_42 rfl (lv_at hl 0 rfl) ?_
    refine va_get (ci := 0) (v := .int (zN x)) (C := RX0) (T := TX0) (N := 6) hx hb hts hiX0 hown hK.1 hP 0 rfl rfl 4 (by decide) f0 (fun _ h9 => h9) rfl dX0_enter_43 ?_
    refine lv_iconst (v := 1) hx hb dX0_enter_46 (by decide) ?_
    refine lv_isub hx hb dX0_enter_47 ?_
    refine mw_i (mv_V (As := [.int ((zN x) - 1)]) (rest := []) ⟨hx, hb, hml, hown, hts⟩ (kX0_placeOfAge l D I O a H.size x ((zN x) - 1) _ hw) (cwV 1 hts gX0_enter_X0_placeOfAge rfl rfl rfl hdVX0_placeOfAge ⟨(Nat.le_of_ble_eq_true rfl), (Nat.le_of_ble_eq_true rfl)⟩) hK hP hD 0 0 rfl rfl rfl rfl hl.1 rfl (Nat.le_of_ble_eq_true rfl) dX0_enter_48 ⟨(Nat.le_of_ble_eq_true rfl), (Nat.le_of_ble_eq_true rfl)⟩) hP hD hS hA (fun r3 _ H locs hw hP hD hS => ?_)
    have hP : va_P D vwCl (colB I a x) H := hP
    have hD : va_D (va_A (colB I a x) sz) (colB I a x) := hD
    refine lv_istore_n (lv' := [(3, .int r3), (0, .ref a.1), (1, .int p1), (2, .int p2)]) hx hb dX0_enter_51 rfl hl (by decide) rfl (fun ls hl => ?_)
    refine lv_aload_n hx hb dX0_enter_52 rfl (lv_at hl 1 rfl) ?_
    refine va_get (ci := 0) (v := .ref a.2.1) (C := RX0) (T := TX0) (N := 6) hx hb hts hiX0 hown hK.1 hP 0 rfl rfl 1 (by decide) f1 (fun _ h9 => h9) rfl dX0_enter_53 ?_
    refine lv_iload_n hx hb dX0_enter_56 rfl (lv_at hl 0 rfl) ?_
    refine lv_dup2_11 hx hb dX0_enter_57 rfl rfl ?_
    obtain ⟨h4, hw⟩ := hw
    refine va_iald hx hb hK.1 hP 1 0 rfl rfl h4 dX0_enter_58 ?_
    refine lv_iload_n hx hb dX0_enter_59 rfl (lv_at hl 2 rfl) ?_
    refine lv_iadd hx hb dX0_enter_60 ?_
    obtain ⟨h5, hw⟩ := hw
    refine va_iast hx hb hK.1 hP hD hS 1 0 rfl rfl h5 dX0_enter_61 (fun H locs hP hD hS => ?_)
    have hP : va_P D vwCl (colB I a (zF x, upd (zV x) (Int32.toNatClampNeg r3) (((zV x) (Int32.toNatClampNeg r3)) + p1), zD x, zO x, zN x, zL x)) H := hP
    have hD : va_D (va_A (colB I a x) sz) (colB I a (zF x, upd (zV x) (Int32.toNatClampNeg r3) (((zV x) (Int32.toNatClampNeg r3)) + p1), zD x, zO x, zN x, zL x)) := hD
    refine lv_aload_n hx hb dX0_enter_62 rfl (lv_at hl 1 rfl) ?_
    refine lv_dup hx hb dX0_enter_63 rfl ?_
    refine va_get (ci := 0) (v := .long (zL x)) (C := RX0) (T := TX0) (N := 6) hx hb hts hiX0 hown hK.1 hP 0 rfl rfl 5 (by decide) f2 (fun _ h9 => h9) rfl dX0_enter_64 ?_
    refine lv_iload_n hx hb dX0_enter_67 rfl (lv_at hl 2 rfl) ?_
    refine lv_i2l (v := Int32.toInt64 p1) hx hb dX0_enter_68 rfl ?_
    refine lv_aload_n hx hb dX0_enter_69 rfl (lv_at hl 1 rfl) ?_
    refine va_get (ci := 0) (v := .ref a.2.2) (C := RX0) (T := TX0) (N := 6) hx hb hts hiX0 hown hK.1 hP 0 rfl rfl 2 (by decide) f3 (fun _ h9 => h9) rfl dX0_enter_70 ?_
    refine lv_iload_n hx hb dX0_enter_73 rfl (lv_at hl 0 rfl) ?_
    obtain ⟨h6, hw⟩ := hw
    refine va_iald hx hb hK.1 hP 2 0 rfl rfl h6 dX0_enter_74 ?_
    refine lv_i2l (v := Int32.toInt64 ((zD x) (Int32.toNatClampNeg r3))) hx hb dX0_enter_75 rfl ?_
    refine lv_lmul hx hb dX0_enter_76 ?_
    refine lv_ladd hx hb dX0_enter_77 ?_
    refine va_put (ci := 0) (v := .long ((zL x) + ((Int32.toInt64 p1) * (Int32.toInt64 ((zD x) (Int32.toNatClampNeg r3)))))) (ty := .long) (C := RX0) (T := TX0) (N := 6) hx hb hts hiX0 tyX0 tyX0_ok nmX0 hown hK.1 hP hD hS 0 rfl rfl 5 (by decide) f2 (fun _ h9 => h9) rfl (by decide +kernel) rfl rfl (Nat.le_of_ble_eq_true rfl) dX0_enter_78 (fun H locs hP hD hS => ?_)
    have hP : va_P D vwCl (colB I a (zF x, upd (zV x) (Int32.toNatClampNeg r3) (((zV x) (Int32.toNatClampNeg r3)) + p1), zD x, zO x, zN x, (zL x) + ((Int32.toInt64 p1) * (Int32.toInt64 ((zD x) (Int32.toNatClampNeg r3)))))) H := hP
    have hD : va_D (va_A (colB I a x) sz) (colB I a (zF x, upd (zV x) (Int32.toNatClampNeg r3) (((zV x) (Int32.toNatClampNeg r3)) + p1), zD x, zO x, zN x, (zL x) + ((Int32.toInt64 p1) * (Int32.toInt64 ((zD x) (Int32.toNatClampNeg r3)))))) := hD
    exact m_vret (u := (zF x, upd (zV x) (Int32.toNatClampNeg r3) (((zV x) (Int32.toNatClampNeg r3)) + p1), zD x, zO x, zN x, (zL x) + ((Int32.toInt64 p1) * (Int32.toInt64 ((zD x) (Int32.toNatClampNeg r3)))))) hx hb hr hlocks hS hP hD dX0_enter_81 hw
  · have hw := hw.2 c2
    refine lv_aload_n hx hb dX0_enter_8 rfl (lv_at hl 0 rfl) ?_
    refine lv_aload_n hx hb dX0_enter_9 rfl (lv_at hl 0 rfl) ?_
    refine va_get (ci := 0) (v := .int (zN x)) (C := RX0) (T := TX0) (N := 6) hx hb hts hiX0 hown hK.1 hP 0 rfl rfl 4 (by decide) f0 (fun _ h9 => h9) rfl dX0_enter_10 ?_
    refine mw_i (mv_V (As := [.int (zN x)]) (rest := []) ⟨hx, hb, hml, hown, hts⟩ (kX0_placeOfAge l D I O a H.size x (zN x) _ hw) (cwV 1 hts gX0_enter_X0_placeOfAge rfl rfl rfl hdVX0_placeOfAge ⟨(Nat.le_of_ble_eq_true rfl), (Nat.le_of_ble_eq_true rfl)⟩) hK hP hD 0 0 rfl rfl rfl rfl hl.1 rfl (Nat.le_of_ble_eq_true rfl) dX0_enter_13 ⟨(Nat.le_of_ble_eq_true rfl), (Nat.le_of_ble_eq_true rfl)⟩) hP hD hS hA (fun r7 _ H locs hw hP hD hS => ?_)
    have hP : va_P D vwCl (colB I a x) H := hP
    have hD : va_D (va_A (colB I a x) sz) (colB I a x) := hD
    refine lv_istore_n (lv' := [(3, .int r7), (0, .ref a.1), (1, .int p1), (2, .int p2)]) hx hb dX0_enter_16 rfl hl (by decide) rfl (fun ls hl => ?_)
    refine lv_aload_n hx hb dX0_enter_17 rfl (lv_at hl 1 rfl) ?_
    refine va_get (ci := 0) (v := .ref a.2.1) (C := RX0) (T := TX0) (N := 6) hx hb hts hiX0 hown hK.1 hP 0 rfl rfl 1 (by decide) f1 (fun _ h9 => h9) rfl dX0_enter_18 ?_
    refine lv_iload_n hx hb dX0_enter_21 rfl (lv_at hl 0 rfl) ?_
    refine lv_iconst (v := 0) hx hb dX0_enter_22 (by decide) ?_
    obtain ⟨h8, hw⟩ := hw
    refine va_iast hx hb hK.1 hP hD hS 1 0 rfl rfl h8 dX0_enter_23 (fun H locs hP hD hS => ?_)
    have hP : va_P D vwCl (colB I a (zF x, upd (zV x) (Int32.toNatClampNeg r7) 0, zD x, zO x, zN x, zL x)) H := hP
    have hD : va_D (va_A (colB I a x) sz) (colB I a (zF x, upd (zV x) (Int32.toNatClampNeg r7) 0, zD x, zO x, zN x, zL x)) := hD
    refine lv_aload_n hx hb dX0_enter_24 rfl (lv_at hl 1 rfl) ?_
    refine va_get (ci := 0) (v := .ref a.2.2) (C := RX0) (T := TX0) (N := 6) hx hb hts hiX0 hown hK.1 hP 0 rfl rfl 2 (by decide) f3 (fun _ h9 => h9) rfl dX0_enter_25 ?_
    refine lv_iload_n hx hb dX0_enter_28 rfl (lv_at hl 0 rfl) ?_
    refine lv_iload_n hx hb dX0_enter_29 rfl (lv_at hl 3 rfl) ?_
    obtain ⟨h9, hw⟩ := hw
    refine va_iast hx hb hK.1 hP hD hS 2 0 rfl rfl h9 dX0_enter_30 (fun H locs hP hD hS => ?_)
    have hP : va_P D vwCl (colB I a (zF x, upd (zV x) (Int32.toNatClampNeg r7) 0, upd (zD x) (Int32.toNatClampNeg r7) p2, zO x, zN x, zL x)) H := hP
    have hD : va_D (va_A (colB I a x) sz) (colB I a (zF x, upd (zV x) (Int32.toNatClampNeg r7) 0, upd (zD x) (Int32.toNatClampNeg r7) p2, zO x, zN x, zL x)) := hD
    refine lv_aload_n hx hb dX0_enter_31 rfl (lv_at hl 1 rfl) ?_
    refine lv_dup hx hb dX0_enter_32 rfl ?_
    refine va_get (ci := 0) (v := .int (zN x)) (C := RX0) (T := TX0) (N := 6) hx hb hts hiX0 hown hK.1 hP 0 rfl rfl 4 (by decide) f0 (fun _ h9 => h9) rfl dX0_enter_33 ?_
    refine lv_iconst (v := 1) hx hb dX0_enter_36 (by decide) ?_
    refine lv_iadd hx hb dX0_enter_37 ?_
    refine va_put (ci := 0) (v := .int ((zN x) + 1)) (ty := .int) (C := RX0) (T := TX0) (N := 6) hx hb hts hiX0 tyX0 tyX0_ok nmX0 hown hK.1 hP hD hS 0 rfl rfl 4 (by decide) f0 (fun _ h9 => h9) rfl (by decide +kernel) rfl rfl (Nat.le_of_ble_eq_true rfl) dX0_enter_38 (fun H locs hP hD hS => ?_)
    have hP : va_P D vwCl (colB I a (zF x, upd (zV x) (Int32.toNatClampNeg r7) 0, upd (zD x) (Int32.toNatClampNeg r7) p2, zO x, (zN x) + 1, zL x)) H := hP
    have hD : va_D (va_A (colB I a x) sz) (colB I a (zF x, upd (zV x) (Int32.toNatClampNeg r7) 0, upd (zD x) (Int32.toNatClampNeg r7) p2, zO x, (zN x) + 1, zL x)) := hD
    refine lv_aload_n hx hb dX0_enter_41 rfl (lv_at hl 1 rfl) ?_
    refine lv_aload_n hx hb dX0_enter_42 rfl (lv_at hl 1 rfl) ?_
    refine va_get (ci := 0) (v := .int ((zN x) + 1)) (C := RX0) (T := TX0) (N := 6) hx hb hts hiX0 hown hK.1 hP 0 rfl rfl 4 (by decide) f0 (fun _ h9 => h9) rfl dX0_enter_43 ?_
    refine lv_iconst (v := 1) hx hb dX0_enter_46 (by decide) ?_
    refine lv_isub hx hb dX0_enter_47 ?_
    refine mw_i (mv_V (As := [.int (((zN x) + 1) - 1)]) (rest := []) ⟨hx, hb, hml, hown, hts⟩ (kX0_placeOfAge l D I O a H.size (zF x, upd (zV x) (Int32.toNatClampNeg r7) 0, upd (zD x) (Int32.toNatClampNeg r7) p2, zO x, (zN x) + 1, zL x) (((zN x) + 1) - 1) _ hw) (cwV 1 hts gX0_enter_X0_placeOfAge rfl rfl rfl hdVX0_placeOfAge ⟨(Nat.le_of_ble_eq_true rfl), (Nat.le_of_ble_eq_true rfl)⟩) hK hP hD 0 0 rfl rfl rfl rfl hl.1 rfl (Nat.le_of_ble_eq_true rfl) dX0_enter_48 ⟨(Nat.le_of_ble_eq_true rfl), (Nat.le_of_ble_eq_true rfl)⟩) hP hD hS hA (fun r10 _ H locs hw hP hD hS => ?_)
    have hP : va_P D vwCl (colB I a (zF x, upd (zV x) (Int32.toNatClampNeg r7) 0, upd (zD x) (Int32.toNatClampNeg r7) p2, zO x, (zN x) + 1, zL x)) H := hP
    have hD : va_D (va_A (colB I a x) sz) (colB I a (zF x, upd (zV x) (Int32.toNatClampNeg r7) 0, upd (zD x) (Int32.toNatClampNeg r7) p2, zO x, (zN x) + 1, zL x)) := hD
    refine lv_istore_n (lv' := [(3, .int r10), (0, .ref a.1), (1, .int p1), (2, .int p2)]) hx hb dX0_enter_51 rfl hl (by decide) rfl (fun ls hl => ?_)
    refine lv_aload_n hx hb dX0_enter_52 rfl (lv_at hl 1 rfl) ?_
    refine va_get (ci := 0) (v := .ref a.2.1) (C := RX0) (T := TX0) (N := 6) hx hb hts hiX0 hown hK.1 hP 0 rfl rfl 1 (by decide) f1 (fun _ h9 => h9) rfl dX0_enter_53 ?_
    refine lv_iload_n hx hb dX0_enter_56 rfl (lv_at hl 0 rfl) ?_
    refine lv_dup2_11 hx hb dX0_enter_57 rfl rfl ?_
    obtain ⟨h11, hw⟩ := hw
    refine va_iald hx hb hK.1 hP 1 0 rfl rfl h11 dX0_enter_58 ?_
    refine lv_iload_n hx hb dX0_enter_59 rfl (lv_at hl 2 rfl) ?_
    refine lv_iadd hx hb dX0_enter_60 ?_
    obtain ⟨h12, hw⟩ := hw
    refine va_iast hx hb hK.1 hP hD hS 1 0 rfl rfl h12 dX0_enter_61 (fun H locs hP hD hS => ?_)
    have hP : va_P D vwCl (colB I a (zF x, upd (upd (zV x) (Int32.toNatClampNeg r7) 0) (Int32.toNatClampNeg r10) (((upd (zV x) (Int32.toNatClampNeg r7) 0) (Int32.toNatClampNeg r10)) + p1), upd (zD x) (Int32.toNatClampNeg r7) p2, zO x, (zN x) + 1, zL x)) H := hP
    have hD : va_D (va_A (colB I a x) sz) (colB I a (zF x, upd (upd (zV x) (Int32.toNatClampNeg r7) 0) (Int32.toNatClampNeg r10) (((upd (zV x) (Int32.toNatClampNeg r7) 0) (Int32.toNatClampNeg r10)) + p1), upd (zD x) (Int32.toNatClampNeg r7) p2, zO x, (zN x) + 1, zL x)) := hD
    refine lv_aload_n hx hb dX0_enter_62 rfl (lv_at hl 1 rfl) ?_
    refine lv_dup hx hb dX0_enter_63 rfl ?_
    refine va_get (ci := 0) (v := .long (zL x)) (C := RX0) (T := TX0) (N := 6) hx hb hts hiX0 hown hK.1 hP 0 rfl rfl 5 (by decide) f2 (fun _ h9 => h9) rfl dX0_enter_64 ?_
    refine lv_iload_n hx hb dX0_enter_67 rfl (lv_at hl 2 rfl) ?_
    refine lv_i2l (v := Int32.toInt64 p1) hx hb dX0_enter_68 rfl ?_
    refine lv_aload_n hx hb dX0_enter_69 rfl (lv_at hl 1 rfl) ?_
    refine va_get (ci := 0) (v := .ref a.2.2) (C := RX0) (T := TX0) (N := 6) hx hb hts hiX0 hown hK.1 hP 0 rfl rfl 2 (by decide) f3 (fun _ h9 => h9) rfl dX0_enter_70 ?_
    refine lv_iload_n hx hb dX0_enter_73 rfl (lv_at hl 0 rfl) ?_
    obtain ⟨h13, hw⟩ := hw
    refine va_iald hx hb hK.1 hP 2 0 rfl rfl h13 dX0_enter_74 ?_
    refine lv_i2l (v := Int32.toInt64 ((upd (zD x) (Int32.toNatClampNeg r7) p2) (Int32.toNatClampNeg r10))) hx hb dX0_enter_75 rfl ?_
    refine lv_lmul hx hb dX0_enter_76 ?_
    refine lv_ladd hx hb dX0_enter_77 ?_
    refine va_put (ci := 0) (v := .long ((zL x) + ((Int32.toInt64 p1) * (Int32.toInt64 ((upd (zD x) (Int32.toNatClampNeg r7) p2) (Int32.toNatClampNeg r10)))))) (ty := .long) (C := RX0) (T := TX0) (N := 6) hx hb hts hiX0 tyX0 tyX0_ok nmX0 hown hK.1 hP hD hS 0 rfl rfl 5 (by decide) f2 (fun _ h9 => h9) rfl (by decide +kernel) rfl rfl (Nat.le_of_ble_eq_true rfl) dX0_enter_78 (fun H locs hP hD hS => ?_)
    have hP : va_P D vwCl (colB I a (zF x, upd (upd (zV x) (Int32.toNatClampNeg r7) 0) (Int32.toNatClampNeg r10) (((upd (zV x) (Int32.toNatClampNeg r7) 0) (Int32.toNatClampNeg r10)) + p1), upd (zD x) (Int32.toNatClampNeg r7) p2, zO x, (zN x) + 1, (zL x) + ((Int32.toInt64 p1) * (Int32.toInt64 ((upd (zD x) (Int32.toNatClampNeg r7) p2) (Int32.toNatClampNeg r10)))))) H := hP
    have hD : va_D (va_A (colB I a x) sz) (colB I a (zF x, upd (upd (zV x) (Int32.toNatClampNeg r7) 0) (Int32.toNatClampNeg r10) (((upd (zV x) (Int32.toNatClampNeg r7) 0) (Int32.toNatClampNeg r10)) + p1), upd (zD x) (Int32.toNatClampNeg r7) p2, zO x, (zN x) + 1, (zL x) + ((Int32.toInt64 p1) * (Int32.toInt64 ((upd (zD x) (Int32.toNatClampNeg r7) p2) (Int32.toNatClampNeg r10)))))) := hD
    exact m_vret (u := (zF x, upd (upd (zV x) (Int32.toNatClampNeg r7) 0) (Int32.toNatClampNeg r10) (((upd (zV x) (Int32.toNatClampNeg r7) 0) (Int32.toNatClampNeg r10)) + p1), upd (zD x) (Int32.toNatClampNeg r7) p2, zO x, (zN x) + 1, (zL x) + ((Int32.toInt64 p1) * (Int32.toInt64 ((upd (zD x) (Int32.toNatClampNeg r7) p2) (Int32.toNatClampNeg r10)))))) hx hb hr hlocks hS hP hD dX0_enter_81 hw
def qX0_releaseOldest (x : Col) (p1 : Int32) (Q : Int32 → Col → Prop) : Prop := (qX0_placeOfAge x 0 (fun r1 => (vp_in r1 520 ∧ (∀ v3 : Int32, v3 = (if ((zV x) (Int32.toNatClampNeg r1)) < p1 then ((zV x) (Int32.toNatClampNeg r1)) else p1) → (vp_in r1 520 ∧ (vp_in r1 520 ∧ (vp_in r1 520 ∧ (vp_in r1 520 ∧ ((¬ ((upd (zV x) (Int32.toNatClampNeg r1) (((zV x) (Int32.toNatClampNeg r1)) - v3)) (Int32.toNatClampNeg r1)) = 0 → Q v3 (zF x, upd (zV x) (Int32.toNatClampNeg r1) (((zV x) (Int32.toNatClampNeg r1)) - v3), zD x, zO x, zN x, (zL x) - ((Int32.toInt64 v3) * (Int32.toInt64 ((zD x) (Int32.toNatClampNeg r1)))))) ∧ (((upd (zV x) (Int32.toNatClampNeg r1) (((zV x) (Int32.toNatClampNeg r1)) - v3)) (Int32.toNatClampNeg r1)) = 0 → (qX0_placeOfAge (zF x, upd (zV x) (Int32.toNatClampNeg r1) (((zV x) (Int32.toNatClampNeg r1)) - v3), zD x, zO x, zN x, (zL x) - ((Int32.toInt64 v3) * (Int32.toInt64 ((zD x) (Int32.toNatClampNeg r1))))) 1 (fun r9 => Q v3 (zF x, upd (zV x) (Int32.toNatClampNeg r1) (((zV x) (Int32.toNatClampNeg r1)) - v3), zD x, r9, (zN x) - 1, (zL x) - ((Int32.toInt64 v3) * (Int32.toInt64 ((zD x) (Int32.toNatClampNeg r1)))))))))))))))))
set_option maxHeartbeats 4000000 in
set_option maxRecDepth 100000 in
theorem kX0_releaseOldest (l : Launch) (D : va_G) (I O : ClassId) (a : CA) (sz : Nat) (x : Col) (p1 : Int32) (Q : Int32 → Col → Prop) (hw : qX0_releaseOldest x p1 Q) : Met l yX0_releaseOldest wsX0_releaseOldest rX0_releaseOldest (mPc D I O [.ref a.1, .int p1] (colB I a x) sz) (va_Qi (fun r (u : Col) => Q r u) (mB D (va_A (colB I a x) sz) (fun u => colB I a u)) (va_A (colB I a x) sz)) 0 0 (va_A (colB I a x) sz) := by
  refine m_start (by decide) rfl (Nat.le_of_ble_eq_true rfl) (fun p e s m below meth c ls H locs hx hb hr hml hts hown hlocks hnm hK hP hD hA hS hl => ?_)
  have hown : s.vm.findClass RX0 = some m.cls := hown
  have hl : lv_has ls 4 [(0, .ref a.1), (1, .int p1)] := hl
  have hiX0 : ∀ w ∈ wsX00, w ∈ wsX0_releaseOldest := by decide +kernel
  have f0 := hts (.fieldLink RX0 9 "WellControl$Column" "volumes" "[I") (by decide +kernel)
  have f1 := hts (.methodLink RX0 60 Lib.Math.min.name) (by decide +kernel)
  have f2 := hts (.static Lib.Math.min.name) (by decide +kernel)
  have f3 := hts (.initialized "java/lang/Math") (by decide +kernel)
  have f4 := hts (.code Lib.Math.min.name Lib.Math.min.code 2 (some .int)) (by decide +kernel)
  have f5 := hts (.fieldLink RX0 29 "WellControl$Column" "load" "J") (by decide +kernel)
  have f6 := hts (.fieldLink RX0 15 "WellControl$Column" "densities" "[I") (by decide +kernel)
  have f7 := hts (.fieldLink RX0 22 "WellControl$Column" "oldest" "I") (by decide +kernel)
  have f8 := hts (.fieldLink RX0 26 "WellControl$Column" "count" "I") (by decide +kernel)
  unfold qX0_releaseOldest at hw
  refine lv_aload_n hx hb dX0_releaseOldest_0 rfl (lv_at hl 0 rfl) ?_
  refine lv_iconst (v := 0) hx hb dX0_releaseOldest_1 (by decide) ?_
  refine mw_i (mv_V (As := [.int 0]) (rest := []) ⟨hx, hb, hml, hown, hts⟩ (kX0_placeOfAge l D I O a H.size x 0 _ hw) (cwV 1 hts gX0_releaseOldest_X0_placeOfAge rfl rfl rfl hdVX0_placeOfAge ⟨(Nat.le_of_ble_eq_true rfl), (Nat.le_of_ble_eq_true rfl)⟩) hK hP hD 0 0 rfl rfl rfl rfl hl.1 rfl (Nat.le_of_ble_eq_true rfl) dX0_releaseOldest_2 ⟨(Nat.le_of_ble_eq_true rfl), (Nat.le_of_ble_eq_true rfl)⟩) hP hD hS hA (fun r1 _ H locs hw hP hD hS => ?_)
  have hP : va_P D vwCl (colB I a x) H := hP
  have hD : va_D (va_A (colB I a x) sz) (colB I a x) := hD
  refine lv_istore_n (lv' := [(2, .int r1), (0, .ref a.1), (1, .int p1)]) hx hb dX0_releaseOldest_5 rfl hl (by decide) rfl (fun ls hl => ?_)
  refine lv_iload_n hx hb dX0_releaseOldest_6 rfl (lv_at hl 2 rfl) ?_
  refine lv_aload_n hx hb dX0_releaseOldest_7 rfl (lv_at hl 1 rfl) ?_
  refine va_get (ci := 0) (v := .ref a.2.1) (C := RX0) (T := TX0) (N := 6) hx hb hts hiX0 hown hK.1 hP 0 rfl rfl 1 (by decide) f0 (fun _ h9 => h9) rfl dX0_releaseOldest_8 ?_
  refine lv_iload_n hx hb dX0_releaseOldest_11 rfl (lv_at hl 0 rfl) ?_
  obtain ⟨h2, hw⟩ := hw
  refine va_iald hx hb hK.1 hP 1 0 rfl rfl h2 dX0_releaseOldest_12 ?_
  refine va_mmin hx hb (hml.trans hl.1.symm) hown f1 f2 f3 f4 (Nat.le_of_ble_eq_true rfl) (Nat.le_of_ble_eq_true rfl) (Nat.le_of_ble_eq_true rfl) (Nat.le_of_ble_eq_true rfl) dX0_releaseOldest_13 ?_
  refine lv_topi (fun v3 ev3 => ?_)
  have hw := hw v3 ev3
  refine lv_istore_n (lv' := [(3, .int v3), (2, .int r1), (0, .ref a.1), (1, .int p1)]) hx hb dX0_releaseOldest_16 rfl hl (by decide) rfl (fun ls hl => ?_)
  refine lv_aload_n hx hb dX0_releaseOldest_17 rfl (lv_at hl 2 rfl) ?_
  refine va_get (ci := 0) (v := .ref a.2.1) (C := RX0) (T := TX0) (N := 6) hx hb hts hiX0 hown hK.1 hP 0 rfl rfl 1 (by decide) f0 (fun _ h9 => h9) rfl dX0_releaseOldest_18 ?_
  refine lv_iload_n hx hb dX0_releaseOldest_21 rfl (lv_at hl 1 rfl) ?_
  refine lv_dup2_11 hx hb dX0_releaseOldest_22 rfl rfl ?_
  obtain ⟨h4, hw⟩ := hw
  refine va_iald hx hb hK.1 hP 1 0 rfl rfl h4 dX0_releaseOldest_23 ?_
  refine lv_iload_n hx hb dX0_releaseOldest_24 rfl (lv_at hl 0 rfl) ?_
  refine lv_isub hx hb dX0_releaseOldest_25 ?_
  obtain ⟨h5, hw⟩ := hw
  refine va_iast hx hb hK.1 hP hD hS 1 0 rfl rfl h5 dX0_releaseOldest_26 (fun H locs hP hD hS => ?_)
  have hP : va_P D vwCl (colB I a (zF x, upd (zV x) (Int32.toNatClampNeg r1) (((zV x) (Int32.toNatClampNeg r1)) - v3), zD x, zO x, zN x, zL x)) H := hP
  have hD : va_D (va_A (colB I a x) sz) (colB I a (zF x, upd (zV x) (Int32.toNatClampNeg r1) (((zV x) (Int32.toNatClampNeg r1)) - v3), zD x, zO x, zN x, zL x)) := hD
  refine lv_aload_n hx hb dX0_releaseOldest_27 rfl (lv_at hl 2 rfl) ?_
  refine lv_dup hx hb dX0_releaseOldest_28 rfl ?_
  refine va_get (ci := 0) (v := .long (zL x)) (C := RX0) (T := TX0) (N := 6) hx hb hts hiX0 hown hK.1 hP 0 rfl rfl 5 (by decide) f5 (fun _ h9 => h9) rfl dX0_releaseOldest_29 ?_
  refine lv_iload_n hx hb dX0_releaseOldest_32 rfl (lv_at hl 0 rfl) ?_
  refine lv_i2l (v := Int32.toInt64 v3) hx hb dX0_releaseOldest_33 rfl ?_
  refine lv_aload_n hx hb dX0_releaseOldest_34 rfl (lv_at hl 2 rfl) ?_
  refine va_get (ci := 0) (v := .ref a.2.2) (C := RX0) (T := TX0) (N := 6) hx hb hts hiX0 hown hK.1 hP 0 rfl rfl 2 (by decide) f6 (fun _ h9 => h9) rfl dX0_releaseOldest_35 ?_
  refine lv_iload_n hx hb dX0_releaseOldest_38 rfl (lv_at hl 1 rfl) ?_
  obtain ⟨h6, hw⟩ := hw
  refine va_iald hx hb hK.1 hP 2 0 rfl rfl h6 dX0_releaseOldest_39 ?_
  refine lv_i2l (v := Int32.toInt64 ((zD x) (Int32.toNatClampNeg r1))) hx hb dX0_releaseOldest_40 rfl ?_
  refine lv_lmul hx hb dX0_releaseOldest_41 ?_
  refine lv_lsub hx hb dX0_releaseOldest_42 ?_
  refine va_put (ci := 0) (v := .long ((zL x) - ((Int32.toInt64 v3) * (Int32.toInt64 ((zD x) (Int32.toNatClampNeg r1)))))) (ty := .long) (C := RX0) (T := TX0) (N := 6) hx hb hts hiX0 tyX0 tyX0_ok nmX0 hown hK.1 hP hD hS 0 rfl rfl 5 (by decide) f5 (fun _ h9 => h9) rfl (by decide +kernel) rfl rfl (Nat.le_of_ble_eq_true rfl) dX0_releaseOldest_43 (fun H locs hP hD hS => ?_)
  have hP : va_P D vwCl (colB I a (zF x, upd (zV x) (Int32.toNatClampNeg r1) (((zV x) (Int32.toNatClampNeg r1)) - v3), zD x, zO x, zN x, (zL x) - ((Int32.toInt64 v3) * (Int32.toInt64 ((zD x) (Int32.toNatClampNeg r1)))))) H := hP
  have hD : va_D (va_A (colB I a x) sz) (colB I a (zF x, upd (zV x) (Int32.toNatClampNeg r1) (((zV x) (Int32.toNatClampNeg r1)) - v3), zD x, zO x, zN x, (zL x) - ((Int32.toInt64 v3) * (Int32.toInt64 ((zD x) (Int32.toNatClampNeg r1)))))) := hD
  refine lv_aload_n hx hb dX0_releaseOldest_46 rfl (lv_at hl 2 rfl) ?_
  refine va_get (ci := 0) (v := .ref a.2.1) (C := RX0) (T := TX0) (N := 6) hx hb hts hiX0 hown hK.1 hP 0 rfl rfl 1 (by decide) f0 (fun _ h9 => h9) rfl dX0_releaseOldest_47 ?_
  refine lv_iload_n hx hb dX0_releaseOldest_50 rfl (lv_at hl 1 rfl) ?_
  obtain ⟨h7, hw⟩ := hw
  refine va_iald hx hb hK.1 hP 1 0 rfl rfl h7 dX0_releaseOldest_51 ?_
  refine lv_if_ne (tgt := 74) hx hb dX0_releaseOldest_52 (by decide) (fun c8 => ?_) (fun c8 => ?_)
  · have hw := hw.1 c8
    refine lv_iload_n hx hb dX0_releaseOldest_74 rfl (lv_at hl 0 rfl) ?_
    exact m_iret (u := (zF x, upd (zV x) (Int32.toNatClampNeg r1) (((zV x) (Int32.toNatClampNeg r1)) - v3), zD x, zO x, zN x, (zL x) - ((Int32.toInt64 v3) * (Int32.toInt64 ((zD x) (Int32.toNatClampNeg r1)))))) hx hb hr hlocks hS hP hD dX0_releaseOldest_75 hw
  · have hw := hw.2 c8
    refine lv_aload_n hx hb dX0_releaseOldest_55 rfl (lv_at hl 2 rfl) ?_
    refine lv_aload_n hx hb dX0_releaseOldest_56 rfl (lv_at hl 2 rfl) ?_
    refine lv_iconst (v := 1) hx hb dX0_releaseOldest_57 (by decide) ?_
    refine mw_i (mv_V (As := [.int 1]) (rest := [.ref a.1]) ⟨hx, hb, hml, hown, hts⟩ (kX0_placeOfAge l D I O a H.size (zF x, upd (zV x) (Int32.toNatClampNeg r1) (((zV x) (Int32.toNatClampNeg r1)) - v3), zD x, zO x, zN x, (zL x) - ((Int32.toInt64 v3) * (Int32.toInt64 ((zD x) (Int32.toNatClampNeg r1))))) 1 _ hw) (cwV 1 hts gX0_releaseOldest_X0_placeOfAge rfl rfl rfl hdVX0_placeOfAge ⟨(Nat.le_of_ble_eq_true rfl), (Nat.le_of_ble_eq_true rfl)⟩) hK hP hD 0 0 rfl rfl rfl rfl hl.1 rfl (Nat.le_of_ble_eq_true rfl) dX0_releaseOldest_58 ⟨(Nat.le_of_ble_eq_true rfl), (Nat.le_of_ble_eq_true rfl)⟩) hP hD hS hA (fun r9 _ H locs hw hP hD hS => ?_)
    have hP : va_P D vwCl (colB I a (zF x, upd (zV x) (Int32.toNatClampNeg r1) (((zV x) (Int32.toNatClampNeg r1)) - v3), zD x, zO x, zN x, (zL x) - ((Int32.toInt64 v3) * (Int32.toInt64 ((zD x) (Int32.toNatClampNeg r1)))))) H := hP
    have hD : va_D (va_A (colB I a x) sz) (colB I a (zF x, upd (zV x) (Int32.toNatClampNeg r1) (((zV x) (Int32.toNatClampNeg r1)) - v3), zD x, zO x, zN x, (zL x) - ((Int32.toInt64 v3) * (Int32.toInt64 ((zD x) (Int32.toNatClampNeg r1)))))) := hD
    refine va_put (ci := 0) (v := .int r9) (ty := .int) (C := RX0) (T := TX0) (N := 6) hx hb hts hiX0 tyX0 tyX0_ok nmX0 hown hK.1 hP hD hS 0 rfl rfl 3 (by decide) f7 (fun _ h9 => h9) rfl (by decide +kernel) rfl rfl (Nat.le_of_ble_eq_true rfl) dX0_releaseOldest_61 (fun H locs hP hD hS => ?_)
    have hP : va_P D vwCl (colB I a (zF x, upd (zV x) (Int32.toNatClampNeg r1) (((zV x) (Int32.toNatClampNeg r1)) - v3), zD x, r9, zN x, (zL x) - ((Int32.toInt64 v3) * (Int32.toInt64 ((zD x) (Int32.toNatClampNeg r1)))))) H := hP
    have hD : va_D (va_A (colB I a x) sz) (colB I a (zF x, upd (zV x) (Int32.toNatClampNeg r1) (((zV x) (Int32.toNatClampNeg r1)) - v3), zD x, r9, zN x, (zL x) - ((Int32.toInt64 v3) * (Int32.toInt64 ((zD x) (Int32.toNatClampNeg r1)))))) := hD
    refine lv_aload_n hx hb dX0_releaseOldest_64 rfl (lv_at hl 2 rfl) ?_
    refine lv_dup hx hb dX0_releaseOldest_65 rfl ?_
    refine va_get (ci := 0) (v := .int (zN x)) (C := RX0) (T := TX0) (N := 6) hx hb hts hiX0 hown hK.1 hP 0 rfl rfl 4 (by decide) f8 (fun _ h9 => h9) rfl dX0_releaseOldest_66 ?_
    refine lv_iconst (v := 1) hx hb dX0_releaseOldest_69 (by decide) ?_
    refine lv_isub hx hb dX0_releaseOldest_70 ?_
    refine va_put (ci := 0) (v := .int ((zN x) - 1)) (ty := .int) (C := RX0) (T := TX0) (N := 6) hx hb hts hiX0 tyX0 tyX0_ok nmX0 hown hK.1 hP hD hS 0 rfl rfl 4 (by decide) f8 (fun _ h9 => h9) rfl (by decide +kernel) rfl rfl (Nat.le_of_ble_eq_true rfl) dX0_releaseOldest_71 (fun H locs hP hD hS => ?_)
    have hP : va_P D vwCl (colB I a (zF x, upd (zV x) (Int32.toNatClampNeg r1) (((zV x) (Int32.toNatClampNeg r1)) - v3), zD x, r9, (zN x) - 1, (zL x) - ((Int32.toInt64 v3) * (Int32.toInt64 ((zD x) (Int32.toNatClampNeg r1)))))) H := hP
    have hD : va_D (va_A (colB I a x) sz) (colB I a (zF x, upd (zV x) (Int32.toNatClampNeg r1) (((zV x) (Int32.toNatClampNeg r1)) - v3), zD x, r9, (zN x) - 1, (zL x) - ((Int32.toInt64 v3) * (Int32.toInt64 ((zD x) (Int32.toNatClampNeg r1)))))) := hD
    refine lv_iload_n hx hb dX0_releaseOldest_74 rfl (lv_at hl 0 rfl) ?_
    exact m_iret (u := (zF x, upd (zV x) (Int32.toNatClampNeg r1) (((zV x) (Int32.toNatClampNeg r1)) - v3), zD x, r9, (zN x) - 1, (zL x) - ((Int32.toInt64 v3) * (Int32.toInt64 ((zD x) (Int32.toNatClampNeg r1)))))) hx hb hr hlocks hS hP hD dX0_releaseOldest_75 hw
