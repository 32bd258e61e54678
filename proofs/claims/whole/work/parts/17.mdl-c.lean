def qX3_leastDensity_L2 (x : Mod) (Q : Int32 → Prop) (K3 : Int32 → Prop) : Nat → Int32 → Prop
  | 0, _ => False
  | n5 + 1, i2 => ((2500 < i2 → K3 i2) ∧ (¬ 2500 < i2 → (qX3_volumeOf x 0 (fun r8 => (∀ v9 : Int64, v9 = (Int32.toInt64 i2) * (Int32.toInt64 r8) → (¬ (100000 * (Int32.toInt64 ((mN x) (Int32.toNatClampNeg 1)))) = 0 ∧ (((lg_cmp ((981 * v9) / (100000 * (Int32.toInt64 ((mN x) (Int32.toNatClampNeg 1))))) (Int32.toInt64 ((mN x) (Int32.toNatClampNeg 5)))) < 0 → qX3_leastDensity_L2 x Q K3 n5 (i2 + 1)) ∧ (¬ (lg_cmp ((981 * v9) / (100000 * (Int32.toInt64 ((mN x) (Int32.toNatClampNeg 1))))) (Int32.toInt64 ((mN x) (Int32.toNatClampNeg 5)))) < 0 → Q i2))))))))
def qX3_leastDensity (x : Mod) (Q : Int32 → Prop) : Prop := (∃ n1, qX3_leastDensity_L2 x Q (fun i2 => Q (-4)) n1 1)
set_option maxHeartbeats 4000000 in
set_option maxRecDepth 100000 in
theorem kX3_leastDensity (l : Launch) (D : va_G) (I O : ClassId) (a : MA) (sz : Nat) (x : Mod) (Q : Int32 → Prop) (hw : qX3_leastDensity x Q) : Met l yX3_leastDensity wsX3_leastDensity rX3_leastDensity (mPc D I O [.ref a.1] (mdlW I a x) sz) (va_Qi (fun r (_ : Unit) => Q r) (mB D (va_A (mdlW I a x) sz) (fun _ => mdlW I a x)) (va_A (mdlW I a x) sz)) 0 0 (va_A (mdlW I a x) sz) := by
  refine m_start (by decide) rfl (Nat.le_of_ble_eq_true rfl) (fun p e s m below meth c ls H locs hx hb hr hml hts hown hlocks hnm hK hP hD hA hS hl => ?_)
  have hown : s.vm.findClass RX3 = some m.cls := hown
  have hl : lv_has ls 4 [(0, .ref a.1)] := hl
  have hiX3 : ∀ w ∈ wsX30, w ∈ wsX3_leastDensity := by decide +kernel
  have f0 := hts (.constantLong RX3 58 (981)) (by decide +kernel)
  have f1 := hts (.constantLong RX3 60 (100000)) (by decide +kernel)
  have f2 := hts (.fieldLink RX3 7 "WellControlModel" "now" "[I") (by decide +kernel)
  unfold qX3_leastDensity at hw
  refine lv_iconst (v := 1) hx hb dX3_leastDensity_0 (by decide) ?_
  refine lv_istore_n (lv' := [(1, .int 1), (0, .ref a.1)]) hx hb dX3_leastDensity_1 rfl hl (by decide) rfl (fun ls hl => ?_)
  obtain ⟨n1, hw⟩ := hw
  have ky6 : ∀ (K3 : Int32 → Prop) (_ : ∀ (i2 : Int32) (H : Heap) (locs : List Loc) (ls : Array Slot), va_P D vwCl (mdlW I a x) H → va_D (va_A (mdlW I a x) sz) (mdlW I a x) → va_S (va_A (mdlW I a x) sz) s.heap H locs → lv_has ls 4 [(1, .int i2), (0, .ref a.1)] → K3 i2 → W p l e rX3_leastDensity s m ([.ref a.1] : List Value).toArray below meth c H locs 0 0 (MQ below (va_Qi (fun r (_ : Unit) => Q r) (mB D (va_A (mdlW I a x) sz) (fun _ => mdlW I a x)) (va_A (mdlW I a x) sz)) ([.ref a.1] : List Value).toArray s 0 0 (va_A (mdlW I a x) sz)) (F0 m 55 ls [])) (n5 : Nat) (i2 : Int32) (H : Heap) (locs : List Loc) (ls : Array Slot), va_P D vwCl (mdlW I a x) H → va_D (va_A (mdlW I a x) sz) (mdlW I a x) → va_S (va_A (mdlW I a x) sz) s.heap H locs → lv_has ls 4 [(1, .int i2), (0, .ref a.1)] → qX3_leastDensity_L2 x Q K3 n5 i2 → W p l e rX3_leastDensity s m ([.ref a.1] : List Value).toArray below meth c H locs 0 0 (MQ below (va_Qi (fun r (_ : Unit) => Q r) (mB D (va_A (mdlW I a x) sz) (fun _ => mdlW I a x)) (va_A (mdlW I a x) sz)) ([.ref a.1] : List Value).toArray s 0 0 (va_A (mdlW I a x) sz)) (F0 m 2 ls []) := by
    intro K3 hx4 n5
    induction n5 with
    | zero =>
      intro i2 H locs ls hP hD hS hl hw
      exact hw.elim
    | succ n5 ihn5 =>
      intro i2 H locs ls hP hD hS hl hw
      unfold qX3_leastDensity_L2 at hw
      refine lv_iload_n hx hb dX3_leastDensity_2 rfl (lv_at hl 0 rfl) ?_
      refine lv_sipush (v := 2500) hx hb dX3_leastDensity_3 (by decide) ?_
      refine lv_icmp_gt (tgt := 55) hx hb dX3_leastDensity_6 (by decide) (fun c7 => ?_) (fun c7 => ?_)
      · have hw := hw.1 c7
        exact hx4 i2 H locs ls hP hD hS (lv_sub hl [0, 1] rfl) hw
      · have hw := hw.2 c7
        refine lv_iload_n hx hb dX3_leastDensity_9 rfl (lv_at hl 0 rfl) ?_
        refine lv_i2l (v := Int32.toInt64 i2) hx hb dX3_leastDensity_10 rfl ?_
        refine lv_aload_n hx hb dX3_leastDensity_11 rfl (lv_at hl 1 rfl) ?_
        refine lv_iconst (v := 0) hx hb dX3_leastDensity_12 (by decide) ?_
        refine mw_i (mv_V (As := [.int 0]) (rest := [.long (Int32.toInt64 i2)]) ⟨hx, hb, hml, hown, hts⟩ (kX3_volumeOf l D I O a H.size x 0 _ hw) (cwV 1 hts gX3_leastDensity_X3_volumeOf rfl rfl rfl hdVX3_volumeOf ⟨(Nat.le_of_ble_eq_true rfl), (Nat.le_of_ble_eq_true rfl)⟩) hK hP hD 0 3 rfl rfl rfl rfl hl.1 rfl (Nat.le_of_ble_eq_true rfl) dX3_leastDensity_13 ⟨(Nat.le_of_ble_eq_true rfl), (Nat.le_of_ble_eq_true rfl)⟩) hP hD hS hA (fun r8 _ H locs hw hP hD hS => ?_)
        have hP : va_P D vwCl (mdlW I a x) H := hP
        have hD : va_D (va_A (mdlW I a x) sz) (mdlW I a x) := hD
        refine lv_i2l (v := Int32.toInt64 r8) hx hb dX3_leastDensity_16 rfl ?_
        refine lv_lmul hx hb dX3_leastDensity_17 ?_
        refine lv_topl (fun v9 ev9 => ?_)
        have hw := hw v9 ev9
        refine lv_lstore_n (lv' := [(2, .long v9), (1, .int i2), (0, .ref a.1)]) hx hb dX3_leastDensity_18 rfl hl (by decide) rfl (fun ls hl => ?_)
        refine lv_ldc2 (v := 981) hx hb hown f0 dX3_leastDensity_19 ?_
        refine lv_lload_n hx hb dX3_leastDensity_22 rfl (lv_at hl 0 rfl) ?_
        refine lv_lmul hx hb dX3_leastDensity_23 ?_
        refine lv_ldc2 (v := 100000) hx hb hown f1 dX3_leastDensity_24 ?_
        refine lv_aload_n hx hb dX3_leastDensity_27 rfl (lv_at hl 2 rfl) ?_
        refine va_get (ci := 3) (v := .ref a.2.1) (C := RX3) (T := TX3) (N := 6) hx hb hts hiX3 hown hK.1 hP 0 rfl rfl 0 (by decide) f2 (fun _ h9 => h9) rfl dX3_leastDensity_28 ?_
        refine lv_iconst (v := 1) hx hb dX3_leastDensity_31 (by decide) ?_
        refine va_iald hx hb hK.1 hP 3 0 rfl rfl (vp_c 1 4416 (by decide)) dX3_leastDensity_32 ?_
        refine lv_i2l (v := Int32.toInt64 ((mN x) (Int32.toNatClampNeg 1))) hx hb dX3_leastDensity_33 rfl ?_
        refine lv_lmul hx hb dX3_leastDensity_34 ?_
        obtain ⟨h10, hw⟩ := hw
        refine lv_ldiv hx hb dX3_leastDensity_35 h10 ?_
        refine lv_aload_n hx hb dX3_leastDensity_36 rfl (lv_at hl 2 rfl) ?_
        refine va_get (ci := 3) (v := .ref a.2.1) (C := RX3) (T := TX3) (N := 6) hx hb hts hiX3 hown hK.1 hP 0 rfl rfl 0 (by decide) f2 (fun _ h9 => h9) rfl dX3_leastDensity_37 ?_
        refine lv_iconst (v := 5) hx hb dX3_leastDensity_40 (by decide) ?_
        refine va_iald hx hb hK.1 hP 3 0 rfl rfl (vp_c 5 4416 (by decide)) dX3_leastDensity_41 ?_
        refine lv_i2l (v := Int32.toInt64 ((mN x) (Int32.toNatClampNeg 5))) hx hb dX3_leastDensity_42 rfl ?_
        refine W.lcmp hx hb dX3_leastDensity_43 ?_
        refine lv_if_lt (tgt := 49) hx hb dX3_leastDensity_44 (by decide) (fun c11 => ?_) (fun c11 => ?_)
        · have hw := hw.1 c11
          refine lv_iinc (v := i2 + 1) (lv' := [(1, .int (i2 + 1)), (2, .long v9), (0, .ref a.1)]) hx hb dX3_leastDensity_49 hl (k := 1) rfl (congrArg (fun z => i2 + z) (show Int32.ofInt 1 = 1 from by decide)) (by decide) rfl (fun ls hl => ?_)
          refine lv_goto (tgt := 2) hx hb dX3_leastDensity_52 (by decide) ?_
          exact ihn5 (i2 + 1) H locs ls hP hD hS (lv_sub hl [0, 2] rfl) hw
        · have hw := hw.2 c11
          refine lv_iload_n hx hb dX3_leastDensity_47 rfl (lv_at hl 1 rfl) ?_
          exact m_iret (u := ()) hx hb hr hlocks hS hP hD dX3_leastDensity_48 hw
  refine ky6 _ (fun i2 H locs ls hP hD hS hl hw => ?_) n1 1 H locs ls hP hD hS (lv_sub hl [0, 1] rfl) hw
  refine lv_bipush (v := (-4)) hx hb dX3_leastDensity_55 (by decide) ?_
  exact m_iret (u := ()) hx hb hr hlocks hS hP hD dX3_leastDensity_57 hw
def qX3_killDensity (x : Mod) (Q : Int32 → Mod → Prop) : Prop := (qX3_leastDensity x (fun r1 => ((¬ r1 = (-4) → Q r1 x) ∧ (r1 = (-4) → (qX3_error x (-4) (fun r3 u4 => Q r3 u4))))))
set_option maxHeartbeats 4000000 in
set_option maxRecDepth 100000 in
theorem kX3_killDensity (l : Launch) (D : va_G) (I O : ClassId) (a : MA) (sz : Nat) (x : Mod) (Q : Int32 → Mod → Prop) (hw : qX3_killDensity x Q) : Met l yX3_killDensity wsX3_killDensity rX3_killDensity (mPc D I O [.ref a.1] (mdlW I a x) sz) (va_Qi (fun r (u : Mod) => Q r u) (mB D (va_A (mdlW I a x) sz) (fun u => mdlW I a u)) (va_A (mdlW I a x) sz)) 0 0 (va_A (mdlW I a x) sz) := by
  refine m_start (by decide) rfl (Nat.le_of_ble_eq_true rfl) (fun p e s m below meth c ls H locs hx hb hr hml hts hown hlocks hnm hK hP hD hA hS hl => ?_)
  have hown : s.vm.findClass RX3 = some m.cls := hown
  have hl : lv_has ls 2 [(0, .ref a.1)] := hl
  unfold qX3_killDensity at hw
  refine lv_aload_n hx hb dX3_killDensity_0 rfl (lv_at hl 0 rfl) ?_
  refine mw_i (mv_V (As := []) (rest := []) ⟨hx, hb, hml, hown, hts⟩ (kX3_leastDensity l D I O a H.size x _ hw) (cwV 0 hts gX3_killDensity_X3_leastDensity rfl rfl rfl hdVX3_leastDensity ⟨(Nat.le_of_ble_eq_true rfl), (Nat.le_of_ble_eq_true rfl)⟩) hK hP hD 0 3 rfl rfl rfl rfl hl.1 rfl (Nat.le_of_ble_eq_true rfl) dX3_killDensity_1 ⟨(Nat.le_of_ble_eq_true rfl), (Nat.le_of_ble_eq_true rfl)⟩) hP hD hS hA (fun r1 _ H locs hw hP hD hS => ?_)
  have hP : va_P D vwCl (mdlW I a x) H := hP
  have hD : va_D (va_A (mdlW I a x) sz) (mdlW I a x) := hD
  refine lv_istore_n (lv' := [(1, .int r1), (0, .ref a.1)]) hx hb dX3_killDensity_4 rfl hl (by decide) rfl (fun ls hl => ?_)
  refine lv_iload_n hx hb dX3_killDensity_5 rfl (lv_at hl 0 rfl) ?_
  refine lv_bipush (v := (-4)) hx hb dX3_killDensity_6 (by decide) ?_
  refine lv_icmp_ne (tgt := 20) hx hb dX3_killDensity_8 (by decide) (fun c2 => ?_) (fun c2 => ?_)
  · have hw := hw.1 c2
    refine lv_iload_n hx hb dX3_killDensity_20 rfl (lv_at hl 0 rfl) ?_
    exact m_iret (u := x) hx hb hr hlocks hS hP hD dX3_killDensity_21 hw
  · have hw := hw.2 c2
    refine lv_aload_n hx hb dX3_killDensity_11 rfl (lv_at hl 1 rfl) ?_
    refine lv_bipush (v := (-4)) hx hb dX3_killDensity_12 (by decide) ?_
    refine mw_i (mv_V (As := [.int (-4)]) (rest := []) ⟨hx, hb, hml, hown, hts⟩ (kX3_error l D I O a H.size x (-4) _ hw) (cwV 1 hts gX3_killDensity_X3_error rfl rfl rfl hdVX3_error ⟨(Nat.le_of_ble_eq_true rfl), (Nat.le_of_ble_eq_true rfl)⟩) hK hP hD 0 3 rfl rfl rfl rfl hl.1 rfl (Nat.le_of_ble_eq_true rfl) dX3_killDensity_14 ⟨(Nat.le_of_ble_eq_true rfl), (Nat.le_of_ble_eq_true rfl)⟩) hP hD hS hA (fun r3 u4 H locs hw hP hD hS => ?_)
    have hP : va_P D vwCl (mdlW I a u4) H := hP
    have hD : va_D (va_A (mdlW I a x) sz) (mdlW I a u4) := hD
    refine lv_goto (tgt := 21) hx hb dX3_killDensity_17 (by decide) ?_
    exact m_iret (u := u4) hx hb hr hlocks hS hP hD dX3_killDensity_21 hw
def qX3_pumpAll_L7 (p1 : Int32) (p2 : Int32) (p3 : Int32) (K5 : Int32 → Int32 → Mod → Prop) : Nat → Int32 → Int32 → Mod → Prop
  | 0, _, _, _ => False
  | n7 + 1, i2, i3, w4 => ((p1 ≤ i2 → K5 i2 i3 w4) ∧ (¬ p1 ≤ i2 → (qX3_pumpMud w4 p2 p3 (fun u10 => (qX3_atShoe u10 (fun r11 => ((r11 ≤ i3 → (∀ v13 : Int32, v13 = i2 + p2 → qX3_pumpAll_L7 p1 p2 p3 K5 n7 v13 i3 u10)) ∧ (¬ r11 ≤ i3 → (∀ v14 : Int32, v14 = i2 + p2 → qX3_pumpAll_L7 p1 p2 p3 K5 n7 v14 r11 u10)))))))))
def qX3_pumpAll (x : Mod) (p1 : Int32) (p2 : Int32) (p3 : Int32) (p4 : Int32) (Q : Int32 → Mod → Prop) : Prop := (∃ n1, qX3_pumpAll_L7 p1 p2 p3 (fun i2 i3 w4 => Q i3 w4) n1 0 p4 x)
set_option maxHeartbeats 4000000 in
set_option maxRecDepth 100000 in
theorem kX3_pumpAll (l : Launch) (D : va_G) (I O : ClassId) (a : MA) (sz : Nat) (x : Mod) (p1 : Int32) (p2 : Int32) (p3 : Int32) (p4 : Int32) (Q : Int32 → Mod → Prop) (hw : qX3_pumpAll x p1 p2 p3 p4 Q) : Met l yX3_pumpAll wsX3_pumpAll rX3_pumpAll (mPc D I O [.ref a.1, .int p1, .int p2, .int p3, .int p4] (mdlW I a x) sz) (va_Qi (fun r (u : Mod) => Q r u) (mB D (va_A (mdlW I a x) sz) (fun u => mdlW I a u)) (va_A (mdlW I a x) sz)) 0 0 (va_A (mdlW I a x) sz) := by
  refine m_start (by decide) rfl (Nat.le_of_ble_eq_true rfl) (fun p e s m below meth c ls H locs hx hb hr hml hts hown hlocks hnm hK hP hD hA hS hl => ?_)
  have hown : s.vm.findClass RX3 = some m.cls := hown
  have hl : lv_has ls 8 [(0, .ref a.1), (1, .int p1), (2, .int p2), (3, .int p3), (4, .int p4)] := hl
  unfold qX3_pumpAll at hw
  refine lv_iload hx hb dX3_pumpAll_0 (lv_at hl 4 rfl) ?_
  refine lv_istore (lv' := [(5, .int p4), (0, .ref a.1), (1, .int p1), (2, .int p2), (3, .int p3), (4, .int p4)]) hx hb dX3_pumpAll_2 hl (by decide) rfl (fun ls hl => ?_)
  refine lv_iconst (v := 0) hx hb dX3_pumpAll_4 (by decide) ?_
  refine lv_istore (lv' := [(6, .int 0), (5, .int p4), (0, .ref a.1), (1, .int p1), (2, .int p2), (3, .int p3), (4, .int p4)]) hx hb dX3_pumpAll_5 hl (by decide) rfl (fun ls hl => ?_)
  obtain ⟨n1, hw⟩ := hw
  have ky8 : ∀ (K5 : Int32 → Int32 → Mod → Prop) (_ : ∀ (i2 : Int32) (i3 : Int32) (w4 : Mod) (H : Heap) (locs : List Loc) (ls : Array Slot), va_P D vwCl (mdlW I a w4) H → va_D (va_A (mdlW I a x) sz) (mdlW I a w4) → va_S (va_A (mdlW I a x) sz) s.heap H locs → lv_has ls 8 [(6, .int i2), (5, .int i3), (0, .ref a.1), (1, .int p1), (2, .int p2), (3, .int p3), (4, .int p4)] → K5 i2 i3 w4 → W p l e rX3_pumpAll s m ([.ref a.1, .int p1, .int p2, .int p3, .int p4] : List Value).toArray below meth c H locs 0 0 (MQ below (va_Qi (fun r (u : Mod) => Q r u) (mB D (va_A (mdlW I a x) sz) (fun u => mdlW I a u)) (va_A (mdlW I a x) sz)) ([.ref a.1, .int p1, .int p2, .int p3, .int p4] : List Value).toArray s 0 0 (va_A (mdlW I a x) sz)) (F0 m 50 ls [])) (n7 : Nat) (i2 : Int32) (i3 : Int32) (w4 : Mod) (H : Heap) (locs : List Loc) (ls : Array Slot), va_P D vwCl (mdlW I a w4) H → va_D (va_A (mdlW I a x) sz) (mdlW I a w4) → va_S (va_A (mdlW I a x) sz) s.heap H locs → lv_has ls 8 [(6, .int i2), (5, .int i3), (0, .ref a.1), (1, .int p1), (2, .int p2), (3, .int p3), (4, .int p4)] → qX3_pumpAll_L7 p1 p2 p3 K5 n7 i2 i3 w4 → W p l e rX3_pumpAll s m ([.ref a.1, .int p1, .int p2, .int p3, .int p4] : List Value).toArray below meth c H locs 0 0 (MQ below (va_Qi (fun r (u : Mod) => Q r u) (mB D (va_A (mdlW I a x) sz) (fun u => mdlW I a u)) (va_A (mdlW I a x) sz)) ([.ref a.1, .int p1, .int p2, .int p3, .int p4] : List Value).toArray s 0 0 (va_A (mdlW I a x) sz)) (F0 m 7 ls []) := by
    intro K5 hx6 n7
    induction n7 with
    | zero =>
      intro i2 i3 w4 H locs ls hP hD hS hl hw
      exact hw.elim
    | succ n7 ihn7 =>
      intro i2 i3 w4 H locs ls hP hD hS hl hw
      unfold qX3_pumpAll_L7 at hw
      refine lv_iload hx hb dX3_pumpAll_7 (lv_at hl 0 rfl) ?_
      refine lv_iload_n hx hb dX3_pumpAll_9 rfl (lv_at hl 3 rfl) ?_
      refine lv_icmp_ge (tgt := 50) hx hb dX3_pumpAll_10 (by decide) (fun c9 => ?_) (fun c9 => ?_)
      · have hw := hw.1 c9
        exact hx6 i2 i3 w4 H locs ls hP hD hS (lv_sub hl [0, 1, 2, 3, 4, 5, 6] rfl) hw
      · have hw := hw.2 c9
        refine lv_aload_n hx hb dX3_pumpAll_13 rfl (lv_at hl 2 rfl) ?_
        refine lv_iload_n hx hb dX3_pumpAll_14 rfl (lv_at hl 4 rfl) ?_
        refine lv_iload_n hx hb dX3_pumpAll_15 rfl (lv_at hl 5 rfl) ?_
        refine mw_v (mv_V (As := [.int p2, .int p3]) (rest := []) ⟨hx, hb, hml, hown, hts⟩ (kX3_pumpMud l D I O a H.size w4 p2 p3 _ hw) (cwV 2 hts gX3_pumpAll_X3_pumpMud rfl rfl rfl hdVX3_pumpMud ⟨(Nat.le_of_ble_eq_true rfl), (Nat.le_of_ble_eq_true rfl)⟩) hK hP hD 0 3 rfl rfl rfl rfl hl.1 rfl (Nat.le_of_ble_eq_true rfl) dX3_pumpAll_16 ⟨(Nat.le_of_ble_eq_true rfl), (Nat.le_of_ble_eq_true rfl)⟩) hP hD hS hA (fun u10 H locs hw hP hD hS => ?_)
        have hP : va_P D vwCl (mdlW I a u10) H := hP
        have hD : va_D (va_A (mdlW I a x) sz) (mdlW I a u10) := hD
        refine lv_aload_n hx hb dX3_pumpAll_19 rfl (lv_at hl 2 rfl) ?_
        refine mw_i (mv_V (As := []) (rest := []) ⟨hx, hb, hml, hown, hts⟩ (kX3_atShoe l D I O a H.size u10 _ hw) (cwV 0 hts gX3_pumpAll_X3_atShoe rfl rfl rfl hdVX3_atShoe ⟨(Nat.le_of_ble_eq_true rfl), (Nat.le_of_ble_eq_true rfl)⟩) hK hP hD 0 3 rfl rfl rfl rfl hl.1 rfl (Nat.le_of_ble_eq_true rfl) dX3_pumpAll_20 ⟨(Nat.le_of_ble_eq_true rfl), (Nat.le_of_ble_eq_true rfl)⟩) hP hD hS hA (fun r11 _ H locs hw hP hD hS => ?_)
        have hP : va_P D vwCl (mdlW I a u10) H := hP
        have hD : va_D (va_A (mdlW I a x) sz) (mdlW I a u10) := hD
        refine lv_istore (lv' := [(7, .int r11), (6, .int i2), (5, .int i3), (0, .ref a.1), (1, .int p1), (2, .int p2), (3, .int p3), (4, .int p4)]) hx hb dX3_pumpAll_23 hl (by decide) rfl (fun ls hl => ?_)
        refine lv_iload hx hb dX3_pumpAll_25 (lv_at hl 0 rfl) ?_
        refine lv_iload hx hb dX3_pumpAll_27 (lv_at hl 2 rfl) ?_
        refine lv_icmp_le (tgt := 37) hx hb dX3_pumpAll_29 (by decide) (fun c12 => ?_) (fun c12 => ?_)
        · have hw := hw.1 c12
          refine lv_iload hx hb dX3_pumpAll_37 (lv_at hl 2 rfl) ?_
          refine lv_istore (lv' := [(5, .int i3), (7, .int r11), (6, .int i2), (0, .ref a.1), (1, .int p1), (2, .int p2), (3, .int p3), (4, .int p4)]) hx hb dX3_pumpAll_39 hl (by decide) rfl (fun ls hl => ?_)
          refine lv_iload hx hb dX3_pumpAll_41 (lv_at hl 2 rfl) ?_
          refine lv_iload_n hx hb dX3_pumpAll_43 rfl (lv_at hl 5 rfl) ?_
          refine lv_iadd hx hb dX3_pumpAll_44 ?_
          refine lv_topi (fun v13 ev13 => ?_)
          have hw := hw v13 ev13
          refine lv_istore (lv' := [(6, .int v13), (5, .int i3), (7, .int r11), (0, .ref a.1), (1, .int p1), (2, .int p2), (3, .int p3), (4, .int p4)]) hx hb dX3_pumpAll_45 hl (by decide) rfl (fun ls hl => ?_)
          refine lv_goto (tgt := 7) hx hb dX3_pumpAll_47 (by decide) ?_
          exact ihn7 v13 i3 u10 H locs ls hP hD hS (lv_sub hl [0, 1, 3, 4, 5, 6, 7] rfl) hw
        · have hw := hw.2 c12
          refine lv_iload hx hb dX3_pumpAll_32 (lv_at hl 0 rfl) ?_
          refine lv_goto (tgt := 39) hx hb dX3_pumpAll_34 (by decide) ?_
          refine lv_istore (lv' := [(5, .int r11), (7, .int r11), (6, .int i2), (0, .ref a.1), (1, .int p1), (2, .int p2), (3, .int p3), (4, .int p4)]) hx hb dX3_pumpAll_39 hl (by decide) rfl (fun ls hl => ?_)
          refine lv_iload hx hb dX3_pumpAll_41 (lv_at hl 2 rfl) ?_
          refine lv_iload_n hx hb dX3_pumpAll_43 rfl (lv_at hl 5 rfl) ?_
          refine lv_iadd hx hb dX3_pumpAll_44 ?_
          refine lv_topi (fun v14 ev14 => ?_)
          have hw := hw v14 ev14
          refine lv_istore (lv' := [(6, .int v14), (5, .int r11), (7, .int r11), (0, .ref a.1), (1, .int p1), (2, .int p2), (3, .int p3), (4, .int p4)]) hx hb dX3_pumpAll_45 hl (by decide) rfl (fun ls hl => ?_)
          refine lv_goto (tgt := 7) hx hb dX3_pumpAll_47 (by decide) ?_
          exact ihn7 v14 r11 u10 H locs ls hP hD hS (lv_sub hl [0, 1, 3, 4, 5, 6, 7] rfl) hw
  refine ky8 _ (fun i2 i3 w4 H locs ls hP hD hS hl hw => ?_) n1 0 p4 x H locs ls hP hD hS (lv_sub hl [0, 1, 2, 3, 4, 5, 6] rfl) hw
  refine lv_iload hx hb dX3_pumpAll_50 (lv_at hl 1 rfl) ?_
  exact m_iret (u := w4) hx hb hr hlocks hS hP hD dX3_pumpAll_52 hw
def qX3_killShoePressure (x : Mod) (p1 : Int32) (p2 : Int32) (Q : Int32 → Mod → Prop) : Prop := (qX3_in p1 0 1 (fun r1 => ((r1 = 0 → (qX3_error x (-2) (fun r3 u4 => Q r3 u4))) ∧ (¬ r1 = 0 → (qX3_in p2 100 9000 (fun r5 => ((¬ r5 = 0 → (qX3_volumeOf x 0 (fun r7 => ((r7 < p2 → (qX3_error x (-3) (fun r9 u10 => Q r9 u10))) ∧ (¬ r7 < p2 → (qX3_volumeOf x 1 (fun r11 => ((p2 ≤ r11 → (qX3_leastDensity x (fun r13 => ((¬ r13 = (-4) → (qX3_copy 4416 4416 (mN x) (mA x) 0 0 (fun u15 => ((¬ p1 = 0 → (qX3_volumeOf (mN x, u15, mP x, mS x, mE x, mH x) 0 (fun r17 => (qX3_volumeOf (mN x, u15, mP x, mS x, mE x, mH x) 1 (fun r18 => (qX3_pumpAll (mN x, u15, mP x, mS x, mE x, mH x) (r17 + r18) p2 r13 0 (fun r19 u20 => (qX3_copy 4416 4416 (mA u20) (mN u20) 0 0 (fun u21 => Q r19 (u21, mA u20, mP u20, mS u20, mE u20, mH u20)))))))))) ∧ (p1 = 0 → (qX3_volumeOf (mN x, u15, mP x, mS x, mE x, mH x) 1 (fun r22 => (qX3_pumpAll (mN x, u15, mP x, mS x, mE x, mH x) r22 p2 ((mN x) (Int32.toNatClampNeg 4)) 0 (fun r23 u24 => (qX3_volumeOf u24 0 (fun r25 => (qX3_volumeOf u24 1 (fun r26 => (qX3_pumpAll u24 (r25 + r26) p2 r13 r23 (fun r27 u28 => (qX3_copy 4416 4416 (mA u28) (mN u28) 0 0 (fun u29 => Q r27 (u29, mA u28, mP u28, mS u28, mE u28, mH u28)))))))))))))))))) ∧ (r13 = (-4) → (qX3_error x (-4) (fun r30 u31 => Q r30 u31))))))) ∧ (¬ p2 ≤ r11 → (qX3_error x (-3) (fun r32 u33 => Q r32 u33))))))))))) ∧ (r5 = 0 → (qX3_error x (-2) (fun r34 u35 => Q r34 u35))))))))))
set_option maxHeartbeats 4000000 in
set_option maxRecDepth 100000 in
theorem kX3_killShoePressure (l : Launch) (D : va_G) (I O : ClassId) (a : MA) (sz : Nat) (x : Mod) (p1 : Int32) (p2 : Int32) (Q : Int32 → Mod → Prop) (hw : qX3_killShoePressure x p1 p2 Q) : Met l yX3_killShoePressure wsX3_killShoePressure rX3_killShoePressure (mPc D I O [.ref a.1, .int p1, .int p2] (mdlW I a x) sz) (va_Qi (fun r (u : Mod) => Q r u) (mB D (va_A (mdlW I a x) sz) (fun u => mdlW I a u)) (va_A (mdlW I a x) sz)) 0 0 (va_A (mdlW I a x) sz) := by
  refine m_start (by decide) rfl (Nat.le_of_ble_eq_true rfl) (fun p e s m below meth c ls H locs hx hb hr hml hts hown hlocks hnm hK hP hD hA hS hl => ?_)
  have hown : s.vm.findClass RX3 = some m.cls := hown
  have hl : lv_has ls 5 [(0, .ref a.1), (1, .int p1), (2, .int p2)] := hl
  have hiX3 : ∀ w ∈ wsX30, w ∈ wsX3_killShoePressure := by decide +kernel
  have f0 := hts (.fieldLink RX3 7 "WellControlModel" "now" "[I") (by decide +kernel)
  have f1 := hts (.fieldLink RX3 13 "WellControlModel" "aside" "[I") (by decide +kernel)
  unfold qX3_killShoePressure at hw
  refine lv_iload_n hx hb dX3_killShoePressure_0 rfl (lv_at hl 1 rfl) ?_
  refine lv_iconst (v := 0) hx hb dX3_killShoePressure_1 (by decide) ?_
  refine lv_iconst (v := 1) hx hb dX3_killShoePressure_2 (by decide) ?_
  refine m0_i (mv_S (As := [.int p1, .int 0, .int 1]) (rest := []) ⟨hx, hb, hml, hown, hts⟩ (kX3_in l D I O H.size p1 0 1 _ hw) (va_cwS 3 hts gX3_killShoePressure_X3_in rfl rfl rfl hdSX3_in ⟨(Nat.le_of_ble_eq_true rfl), (Nat.le_of_ble_eq_true rfl)⟩) hK (nil_P (D := D) (H := H)) (nil_D (A := va_A (mdlW I a x) sz)) rfl hl.1 rfl (Nat.le_of_ble_eq_true rfl) dX3_killShoePressure_3 ⟨(Nat.le_of_ble_eq_true rfl), (Nat.le_of_ble_eq_true rfl)⟩) hP hD hS hA (fun r1 _ H locs hw hP hD hS => ?_)
  refine lv_if_eq (tgt := 21) hx hb dX3_killShoePressure_6 (by decide) (fun c2 => ?_) (fun c2 => ?_)
  · have hw := hw.1 c2
    refine lv_aload_n hx hb dX3_killShoePressure_21 rfl (lv_at hl 0 rfl) ?_
    refine lv_bipush (v := (-2)) hx hb dX3_killShoePressure_22 (by decide) ?_
    refine mw_i (mv_V (As := [.int (-2)]) (rest := []) ⟨hx, hb, hml, hown, hts⟩ (kX3_error l D I O a H.size x (-2) _ hw) (cwV 1 hts gX3_killShoePressure_X3_error rfl rfl rfl hdVX3_error ⟨(Nat.le_of_ble_eq_true rfl), (Nat.le_of_ble_eq_true rfl)⟩) hK hP hD 0 3 rfl rfl rfl rfl hl.1 rfl (Nat.le_of_ble_eq_true rfl) dX3_killShoePressure_24 ⟨(Nat.le_of_ble_eq_true rfl), (Nat.le_of_ble_eq_true rfl)⟩) hP hD hS hA (fun r3 u4 H locs hw hP hD hS => ?_)
    have hP : va_P D vwCl (mdlW I a u4) H := hP
    have hD : va_D (va_A (mdlW I a x) sz) (mdlW I a u4) := hD
    exact m_iret (u := u4) hx hb hr hlocks hS hP hD dX3_killShoePressure_27 hw
  · have hw := hw.2 c2
    refine lv_iload_n hx hb dX3_killShoePressure_9 rfl (lv_at hl 2 rfl) ?_
    refine lv_bipush (v := 100) hx hb dX3_killShoePressure_10 (by decide) ?_
    refine lv_sipush (v := 9000) hx hb dX3_killShoePressure_12 (by decide) ?_
    refine m0_i (mv_S (As := [.int p2, .int 100, .int 9000]) (rest := []) ⟨hx, hb, hml, hown, hts⟩ (kX3_in l D I O H.size p2 100 9000 _ hw) (va_cwS 3 hts gX3_killShoePressure_X3_in rfl rfl rfl hdSX3_in ⟨(Nat.le_of_ble_eq_true rfl), (Nat.le_of_ble_eq_true rfl)⟩) hK (nil_P (D := D) (H := H)) (nil_D (A := va_A (mdlW I a x) sz)) rfl hl.1 rfl (Nat.le_of_ble_eq_true rfl) dX3_killShoePressure_15 ⟨(Nat.le_of_ble_eq_true rfl), (Nat.le_of_ble_eq_true rfl)⟩) hP hD hS hA (fun r5 _ H locs hw hP hD hS => ?_)
    refine lv_if_ne (tgt := 28) hx hb dX3_killShoePressure_18 (by decide) (fun c6 => ?_) (fun c6 => ?_)
    · have hw := hw.1 c6
      refine lv_iload_n hx hb dX3_killShoePressure_28 rfl (lv_at hl 2 rfl) ?_
      refine lv_aload_n hx hb dX3_killShoePressure_29 rfl (lv_at hl 0 rfl) ?_
      refine lv_iconst (v := 0) hx hb dX3_killShoePressure_30 (by decide) ?_
      refine mw_i (mv_V (As := [.int 0]) (rest := [.int p2]) ⟨hx, hb, hml, hown, hts⟩ (kX3_volumeOf l D I O a H.size x 0 _ hw) (cwV 1 hts gX3_killShoePressure_X3_volumeOf rfl rfl rfl hdVX3_volumeOf ⟨(Nat.le_of_ble_eq_true rfl), (Nat.le_of_ble_eq_true rfl)⟩) hK hP hD 0 3 rfl rfl rfl rfl hl.1 rfl (Nat.le_of_ble_eq_true rfl) dX3_killShoePressure_31 ⟨(Nat.le_of_ble_eq_true rfl), (Nat.le_of_ble_eq_true rfl)⟩) hP hD hS hA (fun r7 _ H locs hw hP hD hS => ?_)
      have hP : va_P D vwCl (mdlW I a x) H := hP
      have hD : va_D (va_A (mdlW I a x) sz) (mdlW I a x) := hD
      refine lv_icmp_gt (tgt := 46) hx hb dX3_killShoePressure_34 (by decide) (fun c8 => ?_) (fun c8 => ?_)
      · have hw := hw.1 c8
        refine lv_aload_n hx hb dX3_killShoePressure_46 rfl (lv_at hl 0 rfl) ?_
        refine lv_bipush (v := (-3)) hx hb dX3_killShoePressure_47 (by decide) ?_
        refine mw_i (mv_V (As := [.int (-3)]) (rest := []) ⟨hx, hb, hml, hown, hts⟩ (kX3_error l D I O a H.size x (-3) _ hw) (cwV 1 hts gX3_killShoePressure_X3_error rfl rfl rfl hdVX3_error ⟨(Nat.le_of_ble_eq_true rfl), (Nat.le_of_ble_eq_true rfl)⟩) hK hP hD 0 3 rfl rfl rfl rfl hl.1 rfl (Nat.le_of_ble_eq_true rfl) dX3_killShoePressure_49 ⟨(Nat.le_of_ble_eq_true rfl), (Nat.le_of_ble_eq_true rfl)⟩) hP hD hS hA (fun r9 u10 H locs hw hP hD hS => ?_)
        have hP : va_P D vwCl (mdlW I a u10) H := hP
        have hD : va_D (va_A (mdlW I a x) sz) (mdlW I a u10) := hD
        exact m_iret (u := u10) hx hb hr hlocks hS hP hD dX3_killShoePressure_52 hw
      · have hw := hw.2 c8
        refine lv_iload_n hx hb dX3_killShoePressure_37 rfl (lv_at hl 2 rfl) ?_
        refine lv_aload_n hx hb dX3_killShoePressure_38 rfl (lv_at hl 0 rfl) ?_
        refine lv_iconst (v := 1) hx hb dX3_killShoePressure_39 (by decide) ?_
        refine mw_i (mv_V (As := [.int 1]) (rest := [.int p2]) ⟨hx, hb, hml, hown, hts⟩ (kX3_volumeOf l D I O a H.size x 1 _ hw) (cwV 1 hts gX3_killShoePressure_X3_volumeOf rfl rfl rfl hdVX3_volumeOf ⟨(Nat.le_of_ble_eq_true rfl), (Nat.le_of_ble_eq_true rfl)⟩) hK hP hD 0 3 rfl rfl rfl rfl hl.1 rfl (Nat.le_of_ble_eq_true rfl) dX3_killShoePressure_40 ⟨(Nat.le_of_ble_eq_true rfl), (Nat.le_of_ble_eq_true rfl)⟩) hP hD hS hA (fun r11 _ H locs hw hP hD hS => ?_)
        have hP : va_P D vwCl (mdlW I a x) H := hP
        have hD : va_D (va_A (mdlW I a x) sz) (mdlW I a x) := hD
        refine lv_icmp_le (tgt := 53) hx hb dX3_killShoePressure_43 (by decide) (fun c12 => ?_) (fun c12 => ?_)
        · have hw := hw.1 c12
          refine lv_aload_n hx hb dX3_killShoePressure_53 rfl (lv_at hl 0 rfl) ?_
          refine mw_i (mv_V (As := []) (rest := []) ⟨hx, hb, hml, hown, hts⟩ (kX3_leastDensity l D I O a H.size x _ hw) (cwV 0 hts gX3_killShoePressure_X3_leastDensity rfl rfl rfl hdVX3_leastDensity ⟨(Nat.le_of_ble_eq_true rfl), (Nat.le_of_ble_eq_true rfl)⟩) hK hP hD 0 3 rfl rfl rfl rfl hl.1 rfl (Nat.le_of_ble_eq_true rfl) dX3_killShoePressure_54 ⟨(Nat.le_of_ble_eq_true rfl), (Nat.le_of_ble_eq_true rfl)⟩) hP hD hS hA (fun r13 _ H locs hw hP hD hS => ?_)
          have hP : va_P D vwCl (mdlW I a x) H := hP
          have hD : va_D (va_A (mdlW I a x) sz) (mdlW I a x) := hD
          refine lv_istore_n (lv' := [(3, .int r13), (0, .ref a.1), (1, .int p1), (2, .int p2)]) hx hb dX3_killShoePressure_57 rfl hl (by decide) rfl (fun ls hl => ?_)
          refine lv_iload_n hx hb dX3_killShoePressure_58 rfl (lv_at hl 0 rfl) ?_
          refine lv_bipush (v := (-4)) hx hb dX3_killShoePressure_59 (by decide) ?_
          refine lv_icmp_ne (tgt := 71) hx hb dX3_killShoePressure_61 (by decide) (fun c14 => ?_) (fun c14 => ?_)
          · have hw := hw.1 c14
            refine lv_aload_n hx hb dX3_killShoePressure_71 rfl (lv_at hl 1 rfl) ?_
            refine va_get (ci := 3) (v := .ref a.2.1) (C := RX3) (T := TX3) (N := 6) hx hb hts hiX3 hown hK.1 hP 0 rfl rfl 0 (by decide) f0 (fun _ h9 => h9) rfl dX3_killShoePressure_72 ?_
            refine lv_iconst (v := 0) hx hb dX3_killShoePressure_75 (by decide) ?_
            refine lv_aload_n hx hb dX3_killShoePressure_76 rfl (lv_at hl 1 rfl) ?_
            refine va_get (ci := 3) (v := .ref a.2.2.1) (C := RX3) (T := TX3) (N := 6) hx hb hts hiX3 hown hK.1 hP 0 rfl rfl 1 (by decide) f1 (fun _ h9 => h9) rfl dX3_killShoePressure_77 ?_
            refine lv_iconst (v := 0) hx hb dX3_killShoePressure_80 (by decide) ?_
            have hPc := va_P.mid (X := [mdlO a x, (a.2.2.2.2, .inl (I, 4, .inl (mE x)))]) (wc := arB I a.2.2.1 4416 (mA x) ++ arB I a.2.1 4416 (mN x)) (Y := [(a.2.2.2.1, .inl (I, 17664, .inl (mP x)))]) hP
            have hDc := va_D.mid (X := [mdlO a x, (a.2.2.2.2, .inl (I, 4, .inl (mE x)))]) (wc := arB I a.2.2.1 4416 (mA x) ++ arB I a.2.1 4416 (mN x)) (Y := [(a.2.2.2.1, .inl (I, 17664, .inl (mP x)))]) hD
            refine mc_v ([mdlO a x, (a.2.2.2.2, .inl (I, 4, .inl (mE x)))]) ([(a.2.2.2.1, .inl (I, 17664, .inl (mP x)))]) (mv_S (As := [.ref a.2.1, .int 0, .ref a.2.2.1, .int 0]) (rest := []) ⟨hx, hb, hml, hown, hts⟩ (kX3_copy_tf l D I O a.2.1 a.2.2.1 H.size 4416 4416 (mN x) (mA x) 0 0 _ hw) (va_cwS 4 hts gX3_killShoePressure_X3_copy rfl rfl rfl hdSX3_copy ⟨(Nat.le_of_ble_eq_true rfl), (Nat.le_of_ble_eq_true rfl)⟩) hK hPc hDc rfl hl.1 rfl (Nat.le_of_ble_eq_true rfl) dX3_killShoePressure_81 ⟨(Nat.le_of_ble_eq_true rfl), (Nat.le_of_ble_eq_true rfl)⟩) hP hD hS hA (fun u15 H locs hw hP hD hS => ?_)
            have hP : va_P D vwCl (mdlW I a (mN x, u15, mP x, mS x, mE x, mH x)) H := hP
            have hD : va_D (va_A (mdlW I a x) sz) (mdlW I a (mN x, u15, mP x, mS x, mE x, mH x)) := hD
            refine lv_iload_n hx hb dX3_killShoePressure_84 rfl (lv_at hl 2 rfl) ?_
            refine lv_if_ne (tgt := 108) hx hb dX3_killShoePressure_85 (by decide) (fun c16 => ?_) (fun c16 => ?_)
            · have hw := hw.1 c16
              refine lv_iconst (v := 0) hx hb dX3_killShoePressure_108 (by decide) ?_
              refine lv_istore (lv' := [(4, .int 0), (3, .int r13), (0, .ref a.1), (1, .int p1), (2, .int p2)]) hx hb dX3_killShoePressure_109 hl (by decide) rfl (fun ls hl => ?_)
              refine lv_aload_n hx hb dX3_killShoePressure_111 rfl (lv_at hl 2 rfl) ?_
              refine lv_aload_n hx hb dX3_killShoePressure_112 rfl (lv_at hl 2 rfl) ?_
              refine lv_iconst (v := 0) hx hb dX3_killShoePressure_113 (by decide) ?_
              refine mw_i (mv_V (As := [.int 0]) (rest := [.ref a.1]) ⟨hx, hb, hml, hown, hts⟩ (kX3_volumeOf l D I O a H.size (mN x, u15, mP x, mS x, mE x, mH x) 0 _ hw) (cwV 1 hts gX3_killShoePressure_X3_volumeOf rfl rfl rfl hdVX3_volumeOf ⟨(Nat.le_of_ble_eq_true rfl), (Nat.le_of_ble_eq_true rfl)⟩) hK hP hD 0 3 rfl rfl rfl rfl hl.1 rfl (Nat.le_of_ble_eq_true rfl) dX3_killShoePressure_114 ⟨(Nat.le_of_ble_eq_true rfl), (Nat.le_of_ble_eq_true rfl)⟩) hP hD hS hA (fun r17 _ H locs hw hP hD hS => ?_)
              have hP : va_P D vwCl (mdlW I a (mN x, u15, mP x, mS x, mE x, mH x)) H := hP
              have hD : va_D (va_A (mdlW I a x) sz) (mdlW I a (mN x, u15, mP x, mS x, mE x, mH x)) := hD
              refine lv_aload_n hx hb dX3_killShoePressure_117 rfl (lv_at hl 2 rfl) ?_
              refine lv_iconst (v := 1) hx hb dX3_killShoePressure_118 (by decide) ?_
              refine mw_i (mv_V (As := [.int 1]) (rest := [.int r17, .ref a.1]) ⟨hx, hb, hml, hown, hts⟩ (kX3_volumeOf l D I O a H.size (mN x, u15, mP x, mS x, mE x, mH x) 1 _ hw) (cwV 1 hts gX3_killShoePressure_X3_volumeOf rfl rfl rfl hdVX3_volumeOf ⟨(Nat.le_of_ble_eq_true rfl), (Nat.le_of_ble_eq_true rfl)⟩) hK hP hD 0 3 rfl rfl rfl rfl hl.1 rfl (Nat.le_of_ble_eq_true rfl) dX3_killShoePressure_119 ⟨(Nat.le_of_ble_eq_true rfl), (Nat.le_of_ble_eq_true rfl)⟩) hP hD hS hA (fun r18 _ H locs hw hP hD hS => ?_)
              have hP : va_P D vwCl (mdlW I a (mN x, u15, mP x, mS x, mE x, mH x)) H := hP
              have hD : va_D (va_A (mdlW I a x) sz) (mdlW I a (mN x, u15, mP x, mS x, mE x, mH x)) := hD
              refine lv_iadd hx hb dX3_killShoePressure_122 ?_
              refine lv_iload_n hx hb dX3_killShoePressure_123 rfl (lv_at hl 4 rfl) ?_
              refine lv_iload_n hx hb dX3_killShoePressure_124 rfl (lv_at hl 1 rfl) ?_
              refine lv_iload hx hb dX3_killShoePressure_125 (lv_at hl 0 rfl) ?_
              refine mw_i (mv_V (As := [.int (r17 + r18), .int p2, .int r13, .int 0]) (rest := []) ⟨hx, hb, hml, hown, hts⟩ (kX3_pumpAll l D I O a H.size (mN x, u15, mP x, mS x, mE x, mH x) (r17 + r18) p2 r13 0 _ hw) (cwV 4 hts gX3_killShoePressure_X3_pumpAll rfl rfl rfl hdVX3_pumpAll ⟨(Nat.le_of_ble_eq_true rfl), (Nat.le_of_ble_eq_true rfl)⟩) hK hP hD 0 3 rfl rfl rfl rfl hl.1 rfl (Nat.le_of_ble_eq_true rfl) dX3_killShoePressure_127 ⟨(Nat.le_of_ble_eq_true rfl), (Nat.le_of_ble_eq_true rfl)⟩) hP hD hS hA (fun r19 u20 H locs hw hP hD hS => ?_)
              have hP : va_P D vwCl (mdlW I a u20) H := hP
              have hD : va_D (va_A (mdlW I a x) sz) (mdlW I a u20) := hD
              refine lv_istore (lv' := [(4, .int r19), (3, .int r13), (0, .ref a.1), (1, .int p1), (2, .int p2)]) hx hb dX3_killShoePressure_130 hl (by decide) rfl (fun ls hl => ?_)
              refine lv_aload_n hx hb dX3_killShoePressure_132 rfl (lv_at hl 2 rfl) ?_
              refine va_get (ci := 3) (v := .ref a.2.2.1) (C := RX3) (T := TX3) (N := 6) hx hb hts hiX3 hown hK.1 hP 0 rfl rfl 1 (by decide) f1 (fun _ h9 => h9) rfl dX3_killShoePressure_133 ?_
              refine lv_iconst (v := 0) hx hb dX3_killShoePressure_136 (by decide) ?_
              refine lv_aload_n hx hb dX3_killShoePressure_137 rfl (lv_at hl 2 rfl) ?_
              refine va_get (ci := 3) (v := .ref a.2.1) (C := RX3) (T := TX3) (N := 6) hx hb hts hiX3 hown hK.1 hP 0 rfl rfl 0 (by decide) f0 (fun _ h9 => h9) rfl dX3_killShoePressure_138 ?_
              refine lv_iconst (v := 0) hx hb dX3_killShoePressure_141 (by decide) ?_
              have hPc := va_P.mid (X := [mdlO a u20, (a.2.2.2.2, .inl (I, 4, .inl (mE u20)))]) (wc := arB I a.2.2.1 4416 (mA u20) ++ arB I a.2.1 4416 (mN u20)) (Y := [(a.2.2.2.1, .inl (I, 17664, .inl (mP u20)))]) hP
              have hDc := va_D.mid (X := [mdlO a u20, (a.2.2.2.2, .inl (I, 4, .inl (mE u20)))]) (wc := arB I a.2.2.1 4416 (mA u20) ++ arB I a.2.1 4416 (mN u20)) (Y := [(a.2.2.2.1, .inl (I, 17664, .inl (mP u20)))]) hD
              refine mc_v ([mdlO a u20, (a.2.2.2.2, .inl (I, 4, .inl (mE u20)))]) ([(a.2.2.2.1, .inl (I, 17664, .inl (mP u20)))]) (mv_S (As := [.ref a.2.2.1, .int 0, .ref a.2.1, .int 0]) (rest := []) ⟨hx, hb, hml, hown, hts⟩ (kX3_copy_ft l D I O a.2.2.1 a.2.1 H.size 4416 4416 (mA u20) (mN u20) 0 0 _ hw) (va_cwS 4 hts gX3_killShoePressure_X3_copy rfl rfl rfl hdSX3_copy ⟨(Nat.le_of_ble_eq_true rfl), (Nat.le_of_ble_eq_true rfl)⟩) hK hPc hDc rfl hl.1 rfl (Nat.le_of_ble_eq_true rfl) dX3_killShoePressure_142 ⟨(Nat.le_of_ble_eq_true rfl), (Nat.le_of_ble_eq_true rfl)⟩) hP hD hS hA (fun u21 H locs hw hP hD hS => ?_)
              have hP : va_P D vwCl (mdlW I a (u21, mA u20, mP u20, mS u20, mE u20, mH u20)) H := hP
              have hD : va_D (va_A (mdlW I a x) sz) (mdlW I a (u21, mA u20, mP u20, mS u20, mE u20, mH u20)) := hD
              refine lv_iload hx hb dX3_killShoePressure_145 (lv_at hl 0 rfl) ?_
              exact m_iret (u := (u21, mA u20, mP u20, mS u20, mE u20, mH u20)) hx hb hr hlocks hS hP hD dX3_killShoePressure_147 hw
            · have hw := hw.2 c16
              refine lv_aload_n hx hb dX3_killShoePressure_88 rfl (lv_at hl 1 rfl) ?_
              refine lv_aload_n hx hb dX3_killShoePressure_89 rfl (lv_at hl 1 rfl) ?_
              refine lv_iconst (v := 1) hx hb dX3_killShoePressure_90 (by decide) ?_
              refine mw_i (mv_V (As := [.int 1]) (rest := [.ref a.1]) ⟨hx, hb, hml, hown, hts⟩ (kX3_volumeOf l D I O a H.size (mN x, u15, mP x, mS x, mE x, mH x) 1 _ hw) (cwV 1 hts gX3_killShoePressure_X3_volumeOf rfl rfl rfl hdVX3_volumeOf ⟨(Nat.le_of_ble_eq_true rfl), (Nat.le_of_ble_eq_true rfl)⟩) hK hP hD 0 3 rfl rfl rfl rfl hl.1 rfl (Nat.le_of_ble_eq_true rfl) dX3_killShoePressure_91 ⟨(Nat.le_of_ble_eq_true rfl), (Nat.le_of_ble_eq_true rfl)⟩) hP hD hS hA (fun r22 _ H locs hw hP hD hS => ?_)
              have hP : va_P D vwCl (mdlW I a (mN x, u15, mP x, mS x, mE x, mH x)) H := hP
              have hD : va_D (va_A (mdlW I a x) sz) (mdlW I a (mN x, u15, mP x, mS x, mE x, mH x)) := hD
              refine lv_iload_n hx hb dX3_killShoePressure_94 rfl (lv_at hl 3 rfl) ?_
              refine lv_aload_n hx hb dX3_killShoePressure_95 rfl (lv_at hl 1 rfl) ?_
              refine va_get (ci := 3) (v := .ref a.2.1) (C := RX3) (T := TX3) (N := 6) hx hb hts hiX3 hown hK.1 hP 0 rfl rfl 0 (by decide) f0 (fun _ h9 => h9) rfl dX3_killShoePressure_96 ?_
              refine lv_iconst (v := 4) hx hb dX3_killShoePressure_99 (by decide) ?_
              refine va_iald hx hb hK.1 hP 3 0 rfl rfl (vp_c 4 4416 (by decide)) dX3_killShoePressure_100 ?_
              refine lv_iconst (v := 0) hx hb dX3_killShoePressure_101 (by decide) ?_
              refine mw_i (mv_V (As := [.int r22, .int p2, .int ((mN x) (Int32.toNatClampNeg 4)), .int 0]) (rest := []) ⟨hx, hb, hml, hown, hts⟩ (kX3_pumpAll l D I O a H.size (mN x, u15, mP x, mS x, mE x, mH x) r22 p2 ((mN x) (Int32.toNatClampNeg 4)) 0 _ hw) (cwV 4 hts gX3_killShoePressure_X3_pumpAll rfl rfl rfl hdVX3_pumpAll ⟨(Nat.le_of_ble_eq_true rfl), (Nat.le_of_ble_eq_true rfl)⟩) hK hP hD 0 3 rfl rfl rfl rfl hl.1 rfl (Nat.le_of_ble_eq_true rfl) dX3_killShoePressure_102 ⟨(Nat.le_of_ble_eq_true rfl), (Nat.le_of_ble_eq_true rfl)⟩) hP hD hS hA (fun r23 u24 H locs hw hP hD hS => ?_)
              have hP : va_P D vwCl (mdlW I a u24) H := hP
              have hD : va_D (va_A (mdlW I a x) sz) (mdlW I a u24) := hD
              refine lv_goto (tgt := 109) hx hb dX3_killShoePressure_105 (by decide) ?_
              refine lv_istore (lv' := [(4, .int r23), (3, .int r13), (0, .ref a.1), (1, .int p1), (2, .int p2)]) hx hb dX3_killShoePressure_109 hl (by decide) rfl (fun ls hl => ?_)
              refine lv_aload_n hx hb dX3_killShoePressure_111 rfl (lv_at hl 2 rfl) ?_
              refine lv_aload_n hx hb dX3_killShoePressure_112 rfl (lv_at hl 2 rfl) ?_
              refine lv_iconst (v := 0) hx hb dX3_killShoePressure_113 (by decide) ?_
              refine mw_i (mv_V (As := [.int 0]) (rest := [.ref a.1]) ⟨hx, hb, hml, hown, hts⟩ (kX3_volumeOf l D I O a H.size u24 0 _ hw) (cwV 1 hts gX3_killShoePressure_X3_volumeOf rfl rfl rfl hdVX3_volumeOf ⟨(Nat.le_of_ble_eq_true rfl), (Nat.le_of_ble_eq_true rfl)⟩) hK hP hD 0 3 rfl rfl rfl rfl hl.1 rfl (Nat.le_of_ble_eq_true rfl) dX3_killShoePressure_114 ⟨(Nat.le_of_ble_eq_true rfl), (Nat.le_of_ble_eq_true rfl)⟩) hP hD hS hA (fun r25 _ H locs hw hP hD hS => ?_)
              have hP : va_P D vwCl (mdlW I a u24) H := hP
              have hD : va_D (va_A (mdlW I a x) sz) (mdlW I a u24) := hD
              refine lv_aload_n hx hb dX3_killShoePressure_117 rfl (lv_at hl 2 rfl) ?_
              refine lv_iconst (v := 1) hx hb dX3_killShoePressure_118 (by decide) ?_
              refine mw_i (mv_V (As := [.int 1]) (rest := [.int r25, .ref a.1]) ⟨hx, hb, hml, hown, hts⟩ (kX3_volumeOf l D I O a H.size u24 1 _ hw) (cwV 1 hts gX3_killShoePressure_X3_volumeOf rfl rfl rfl hdVX3_volumeOf ⟨(Nat.le_of_ble_eq_true rfl), (Nat.le_of_ble_eq_true rfl)⟩) hK hP hD 0 3 rfl rfl rfl rfl hl.1 rfl (Nat.le_of_ble_eq_true rfl) dX3_killShoePressure_119 ⟨(Nat.le_of_ble_eq_true rfl), (Nat.le_of_ble_eq_true rfl)⟩) hP hD hS hA (fun r26 _ H locs hw hP hD hS => ?_)
              have hP : va_P D vwCl (mdlW I a u24) H := hP
              have hD : va_D (va_A (mdlW I a x) sz) (mdlW I a u24) := hD
              refine lv_iadd hx hb dX3_killShoePressure_122 ?_
              refine lv_iload_n hx hb dX3_killShoePressure_123 rfl (lv_at hl 4 rfl) ?_
              refine lv_iload_n hx hb dX3_killShoePressure_124 rfl (lv_at hl 1 rfl) ?_
              refine lv_iload hx hb dX3_killShoePressure_125 (lv_at hl 0 rfl) ?_
              refine mw_i (mv_V (As := [.int (r25 + r26), .int p2, .int r13, .int r23]) (rest := []) ⟨hx, hb, hml, hown, hts⟩ (kX3_pumpAll l D I O a H.size u24 (r25 + r26) p2 r13 r23 _ hw) (cwV 4 hts gX3_killShoePressure_X3_pumpAll rfl rfl rfl hdVX3_pumpAll ⟨(Nat.le_of_ble_eq_true rfl), (Nat.le_of_ble_eq_true rfl)⟩) hK hP hD 0 3 rfl rfl rfl rfl hl.1 rfl (Nat.le_of_ble_eq_true rfl) dX3_killShoePressure_127 ⟨(Nat.le_of_ble_eq_true rfl), (Nat.le_of_ble_eq_true rfl)⟩) hP hD hS hA (fun r27 u28 H locs hw hP hD hS => ?_)
              have hP : va_P D vwCl (mdlW I a u28) H := hP
              have hD : va_D (va_A (mdlW I a x) sz) (mdlW I a u28) := hD
              refine lv_istore (lv' := [(4, .int r27), (3, .int r13), (0, .ref a.1), (1, .int p1), (2, .int p2)]) hx hb dX3_killShoePressure_130 hl (by decide) rfl (fun ls hl => ?_)
              refine lv_aload_n hx hb dX3_killShoePressure_132 rfl (lv_at hl 2 rfl) ?_
              refine va_get (ci := 3) (v := .ref a.2.2.1) (C := RX3) (T := TX3) (N := 6) hx hb hts hiX3 hown hK.1 hP 0 rfl rfl 1 (by decide) f1 (fun _ h9 => h9) rfl dX3_killShoePressure_133 ?_
              refine lv_iconst (v := 0) hx hb dX3_killShoePressure_136 (by decide) ?_
              refine lv_aload_n hx hb dX3_killShoePressure_137 rfl (lv_at hl 2 rfl) ?_
              refine va_get (ci := 3) (v := .ref a.2.1) (C := RX3) (T := TX3) (N := 6) hx hb hts hiX3 hown hK.1 hP 0 rfl rfl 0 (by decide) f0 (fun _ h9 => h9) rfl dX3_killShoePressure_138 ?_
              refine lv_iconst (v := 0) hx hb dX3_killShoePressure_141 (by decide) ?_
              have hPc := va_P.mid (X := [mdlO a u28, (a.2.2.2.2, .inl (I, 4, .inl (mE u28)))]) (wc := arB I a.2.2.1 4416 (mA u28) ++ arB I a.2.1 4416 (mN u28)) (Y := [(a.2.2.2.1, .inl (I, 17664, .inl (mP u28)))]) hP
              have hDc := va_D.mid (X := [mdlO a u28, (a.2.2.2.2, .inl (I, 4, .inl (mE u28)))]) (wc := arB I a.2.2.1 4416 (mA u28) ++ arB I a.2.1 4416 (mN u28)) (Y := [(a.2.2.2.1, .inl (I, 17664, .inl (mP u28)))]) hD
              refine mc_v ([mdlO a u28, (a.2.2.2.2, .inl (I, 4, .inl (mE u28)))]) ([(a.2.2.2.1, .inl (I, 17664, .inl (mP u28)))]) (mv_S (As := [.ref a.2.2.1, .int 0, .ref a.2.1, .int 0]) (rest := []) ⟨hx, hb, hml, hown, hts⟩ (kX3_copy_ft l D I O a.2.2.1 a.2.1 H.size 4416 4416 (mA u28) (mN u28) 0 0 _ hw) (va_cwS 4 hts gX3_killShoePressure_X3_copy rfl rfl rfl hdSX3_copy ⟨(Nat.le_of_ble_eq_true rfl), (Nat.le_of_ble_eq_true rfl)⟩) hK hPc hDc rfl hl.1 rfl (Nat.le_of_ble_eq_true rfl) dX3_killShoePressure_142 ⟨(Nat.le_of_ble_eq_true rfl), (Nat.le_of_ble_eq_true rfl)⟩) hP hD hS hA (fun u29 H locs hw hP hD hS => ?_)
              have hP : va_P D vwCl (mdlW I a (u29, mA u28, mP u28, mS u28, mE u28, mH u28)) H := hP
              have hD : va_D (va_A (mdlW I a x) sz) (mdlW I a (u29, mA u28, mP u28, mS u28, mE u28, mH u28)) := hD
              refine lv_iload hx hb dX3_killShoePressure_145 (lv_at hl 0 rfl) ?_
              exact m_iret (u := (u29, mA u28, mP u28, mS u28, mE u28, mH u28)) hx hb hr hlocks hS hP hD dX3_killShoePressure_147 hw
          · have hw := hw.2 c14
            refine lv_aload_n hx hb dX3_killShoePressure_64 rfl (lv_at hl 1 rfl) ?_
            refine lv_bipush (v := (-4)) hx hb dX3_killShoePressure_65 (by decide) ?_
            refine mw_i (mv_V (As := [.int (-4)]) (rest := []) ⟨hx, hb, hml, hown, hts⟩ (kX3_error l D I O a H.size x (-4) _ hw) (cwV 1 hts gX3_killShoePressure_X3_error rfl rfl rfl hdVX3_error ⟨(Nat.le_of_ble_eq_true rfl), (Nat.le_of_ble_eq_true rfl)⟩) hK hP hD 0 3 rfl rfl rfl rfl hl.1 rfl (Nat.le_of_ble_eq_true rfl) dX3_killShoePressure_67 ⟨(Nat.le_of_ble_eq_true rfl), (Nat.le_of_ble_eq_true rfl)⟩) hP hD hS hA (fun r30 u31 H locs hw hP hD hS => ?_)
            have hP : va_P D vwCl (mdlW I a u31) H := hP
            have hD : va_D (va_A (mdlW I a x) sz) (mdlW I a u31) := hD
            exact m_iret (u := u31) hx hb hr hlocks hS hP hD dX3_killShoePressure_70 hw
        · have hw := hw.2 c12
          refine lv_aload_n hx hb dX3_killShoePressure_46 rfl (lv_at hl 0 rfl) ?_
          refine lv_bipush (v := (-3)) hx hb dX3_killShoePressure_47 (by decide) ?_
          refine mw_i (mv_V (As := [.int (-3)]) (rest := []) ⟨hx, hb, hml, hown, hts⟩ (kX3_error l D I O a H.size x (-3) _ hw) (cwV 1 hts gX3_killShoePressure_X3_error rfl rfl rfl hdVX3_error ⟨(Nat.le_of_ble_eq_true rfl), (Nat.le_of_ble_eq_true rfl)⟩) hK hP hD 0 3 rfl rfl rfl rfl hl.1 rfl (Nat.le_of_ble_eq_true rfl) dX3_killShoePressure_49 ⟨(Nat.le_of_ble_eq_true rfl), (Nat.le_of_ble_eq_true rfl)⟩) hP hD hS hA (fun r32 u33 H locs hw hP hD hS => ?_)
          have hP : va_P D vwCl (mdlW I a u33) H := hP
          have hD : va_D (va_A (mdlW I a x) sz) (mdlW I a u33) := hD
          exact m_iret (u := u33) hx hb hr hlocks hS hP hD dX3_killShoePressure_52 hw
    · have hw := hw.2 c6
      refine lv_aload_n hx hb dX3_killShoePressure_21 rfl (lv_at hl 0 rfl) ?_
      refine lv_bipush (v := (-2)) hx hb dX3_killShoePressure_22 (by decide) ?_
      refine mw_i (mv_V (As := [.int (-2)]) (rest := []) ⟨hx, hb, hml, hown, hts⟩ (kX3_error l D I O a H.size x (-2) _ hw) (cwV 1 hts gX3_killShoePressure_X3_error rfl rfl rfl hdVX3_error ⟨(Nat.le_of_ble_eq_true rfl), (Nat.le_of_ble_eq_true rfl)⟩) hK hP hD 0 3 rfl rfl rfl rfl hl.1 rfl (Nat.le_of_ble_eq_true rfl) dX3_killShoePressure_24 ⟨(Nat.le_of_ble_eq_true rfl), (Nat.le_of_ble_eq_true rfl)⟩) hP hD hS hA (fun r34 u35 H locs hw hP hD hS => ?_)
      have hP : va_P D vwCl (mdlW I a u35) H := hP
      have hD : va_D (va_A (mdlW I a x) sz) (mdlW I a u35) := hD
      exact m_iret (u := u35) hx hb hr hlocks hS hP hD dX3_killShoePressure_27 hw
def qX3_schedule (x : Mod) (p1 : Int32) (Q : Int32 → Mod → Prop) : Prop := (qX3_in p1 0 100 (fun r1 => ((¬ r1 = 0 → (qX3_leastDensity x (fun r3 => ((¬ r3 = (-4) → (qX3_lacking x 0 (fun r5 => (∀ v6 : Int64, v6 = Int32.toInt64 (((mN x) (Int32.toNatClampNeg 6)) + r5) → (¬ (Int32.toInt64 ((mN x) (Int32.toNatClampNeg 4))) = 0 ∧ (∀ v8 : Int64, v8 = ((Int32.toInt64 ((mN x) (Int32.toNatClampNeg 6))) * (Int32.toInt64 r3)) / (Int32.toInt64 ((mN x) (Int32.toNatClampNeg 4))) → Q (Int64.toInt32 (v6 + (((v8 - v6) * (Int32.toInt64 p1)) / 100))) x)))))) ∧ (r3 = (-4) → (qX3_error x (-4) (fun r9 u10 => Q r9 u10))))))) ∧ (r1 = 0 → (qX3_error x (-2) (fun r11 u12 => Q r11 u12))))))
set_option maxHeartbeats 4000000 in
set_option maxRecDepth 100000 in
theorem kX3_schedule (l : Launch) (D : va_G) (I O : ClassId) (a : MA) (sz : Nat) (x : Mod) (p1 : Int32) (Q : Int32 → Mod → Prop) (hw : qX3_schedule x p1 Q) : Met l yX3_schedule wsX3_schedule rX3_schedule (mPc D I O [.ref a.1, .int p1] (mdlW I a x) sz) (va_Qi (fun r (u : Mod) => Q r u) (mB D (va_A (mdlW I a x) sz) (fun u => mdlW I a u)) (va_A (mdlW I a x) sz)) 0 0 (va_A (mdlW I a x) sz) := by
  refine m_start (by decide) rfl (Nat.le_of_ble_eq_true rfl) (fun p e s m below meth c ls H locs hx hb hr hml hts hown hlocks hnm hK hP hD hA hS hl => ?_)
  have hown : s.vm.findClass RX3 = some m.cls := hown
  have hl : lv_has ls 7 [(0, .ref a.1), (1, .int p1)] := hl
  have hiX3 : ∀ w ∈ wsX30, w ∈ wsX3_schedule := by decide +kernel
  have f0 := hts (.fieldLink RX3 7 "WellControlModel" "now" "[I") (by decide +kernel)
  have f1 := hts (.constantLong RX3 103 (100)) (by decide +kernel)
  unfold qX3_schedule at hw
  refine lv_iload_n hx hb dX3_schedule_0 rfl (lv_at hl 1 rfl) ?_
  refine lv_iconst (v := 0) hx hb dX3_schedule_1 (by decide) ?_
  refine lv_bipush (v := 100) hx hb dX3_schedule_2 (by decide) ?_
  refine m0_i (mv_S (As := [.int p1, .int 0, .int 100]) (rest := []) ⟨hx, hb, hml, hown, hts⟩ (kX3_in l D I O H.size p1 0 100 _ hw) (va_cwS 3 hts gX3_schedule_X3_in rfl rfl rfl hdSX3_in ⟨(Nat.le_of_ble_eq_true rfl), (Nat.le_of_ble_eq_true rfl)⟩) hK (nil_P (D := D) (H := H)) (nil_D (A := va_A (mdlW I a x) sz)) rfl hl.1 rfl (Nat.le_of_ble_eq_true rfl) dX3_schedule_4 ⟨(Nat.le_of_ble_eq_true rfl), (Nat.le_of_ble_eq_true rfl)⟩) hP hD hS hA (fun r1 _ H locs hw hP hD hS => ?_)
  refine lv_if_ne (tgt := 17) hx hb dX3_schedule_7 (by decide) (fun c2 => ?_) (fun c2 => ?_)
  · have hw := hw.1 c2
    refine lv_aload_n hx hb dX3_schedule_17 rfl (lv_at hl 0 rfl) ?_
    refine mw_i (mv_V (As := []) (rest := []) ⟨hx, hb, hml, hown, hts⟩ (kX3_leastDensity l D I O a H.size x _ hw) (cwV 0 hts gX3_schedule_X3_leastDensity rfl rfl rfl hdVX3_leastDensity ⟨(Nat.le_of_ble_eq_true rfl), (Nat.le_of_ble_eq_true rfl)⟩) hK hP hD 0 3 rfl rfl rfl rfl hl.1 rfl (Nat.le_of_ble_eq_true rfl) dX3_schedule_18 ⟨(Nat.le_of_ble_eq_true rfl), (Nat.le_of_ble_eq_true rfl)⟩) hP hD hS hA (fun r3 _ H locs hw hP hD hS => ?_)
    have hP : va_P D vwCl (mdlW I a x) H := hP
    have hD : va_D (va_A (mdlW I a x) sz) (mdlW I a x) := hD
    refine lv_istore_n (lv' := [(2, .int r3), (0, .ref a.1), (1, .int p1)]) hx hb dX3_schedule_21 rfl hl (by decide) rfl (fun ls hl => ?_)
    refine lv_iload_n hx hb dX3_schedule_22 rfl (lv_at hl 0 rfl) ?_
    refine lv_bipush (v := (-4)) hx hb dX3_schedule_23 (by decide) ?_
    refine lv_icmp_ne (tgt := 35) hx hb dX3_schedule_25 (by decide) (fun c4 => ?_) (fun c4 => ?_)
    · have hw := hw.1 c4
      refine lv_aload_n hx hb dX3_schedule_35 rfl (lv_at hl 1 rfl) ?_
      refine va_get (ci := 3) (v := .ref a.2.1) (C := RX3) (T := TX3) (N := 6) hx hb hts hiX3 hown hK.1 hP 0 rfl rfl 0 (by decide) f0 (fun _ h9 => h9) rfl dX3_schedule_36 ?_
      refine lv_bipush (v := 6) hx hb dX3_schedule_39 (by decide) ?_
      refine va_iald hx hb hK.1 hP 3 0 rfl rfl (vp_c 6 4416 (by decide)) dX3_schedule_41 ?_
      refine lv_aload_n hx hb dX3_schedule_42 rfl (lv_at hl 1 rfl) ?_
      refine lv_iconst (v := 0) hx hb dX3_schedule_43 (by decide) ?_
      refine mw_i (mv_V (As := [.int 0]) (rest := [.int ((mN x) (Int32.toNatClampNeg 6))]) ⟨hx, hb, hml, hown, hts⟩ (kX3_lacking l D I O a H.size x 0 _ hw) (cwV 1 hts gX3_schedule_X3_lacking rfl rfl rfl hdVX3_lacking ⟨(Nat.le_of_ble_eq_true rfl), (Nat.le_of_ble_eq_true rfl)⟩) hK hP hD 0 3 rfl rfl rfl rfl hl.1 rfl (Nat.le_of_ble_eq_true rfl) dX3_schedule_44 ⟨(Nat.le_of_ble_eq_true rfl), (Nat.le_of_ble_eq_true rfl)⟩) hP hD hS hA (fun r5 _ H locs hw hP hD hS => ?_)
      have hP : va_P D vwCl (mdlW I a x) H := hP
      have hD : va_D (va_A (mdlW I a x) sz) (mdlW I a x) := hD
      refine lv_iadd hx hb dX3_schedule_47 ?_
      refine lv_i2l (v := Int32.toInt64 (((mN x) (Int32.toNatClampNeg 6)) + r5)) hx hb dX3_schedule_48 rfl ?_
      refine lv_topl (fun v6 ev6 => ?_)
      have hw := hw v6 ev6
      refine lv_lstore_n (lv' := [(3, .long v6), (2, .int r3), (0, .ref a.1), (1, .int p1)]) hx hb dX3_schedule_49 rfl hl (by decide) rfl (fun ls hl => ?_)
      refine lv_aload_n hx hb dX3_schedule_50 rfl (lv_at hl 2 rfl) ?_
      refine va_get (ci := 3) (v := .ref a.2.1) (C := RX3) (T := TX3) (N := 6) hx hb hts hiX3 hown hK.1 hP 0 rfl rfl 0 (by decide) f0 (fun _ h9 => h9) rfl dX3_schedule_51 ?_
      refine lv_bipush (v := 6) hx hb dX3_schedule_54 (by decide) ?_
      refine va_iald hx hb hK.1 hP 3 0 rfl rfl (vp_c 6 4416 (by decide)) dX3_schedule_56 ?_
      refine lv_i2l (v := Int32.toInt64 ((mN x) (Int32.toNatClampNeg 6))) hx hb dX3_schedule_57 rfl ?_
      refine lv_iload_n hx hb dX3_schedule_58 rfl (lv_at hl 1 rfl) ?_
      refine lv_i2l (v := Int32.toInt64 r3) hx hb dX3_schedule_59 rfl ?_
      refine lv_lmul hx hb dX3_schedule_60 ?_
      refine lv_aload_n hx hb dX3_schedule_61 rfl (lv_at hl 2 rfl) ?_
      refine va_get (ci := 3) (v := .ref a.2.1) (C := RX3) (T := TX3) (N := 6) hx hb hts hiX3 hown hK.1 hP 0 rfl rfl 0 (by decide) f0 (fun _ h9 => h9) rfl dX3_schedule_62 ?_
      refine lv_iconst (v := 4) hx hb dX3_schedule_65 (by decide) ?_
      refine va_iald hx hb hK.1 hP 3 0 rfl rfl (vp_c 4 4416 (by decide)) dX3_schedule_66 ?_
      refine lv_i2l (v := Int32.toInt64 ((mN x) (Int32.toNatClampNeg 4))) hx hb dX3_schedule_67 rfl ?_
      obtain ⟨h7, hw⟩ := hw
      refine lv_ldiv hx hb dX3_schedule_68 h7 ?_
      refine lv_topl (fun v8 ev8 => ?_)
      have hw := hw v8 ev8
      refine lv_lstore (lv' := [(5, .long v8), (3, .long v6), (2, .int r3), (0, .ref a.1), (1, .int p1)]) hx hb dX3_schedule_69 hl (by decide) rfl (fun ls hl => ?_)
      refine lv_lload_n hx hb dX3_schedule_71 rfl (lv_at hl 1 rfl) ?_
      refine lv_lload hx hb dX3_schedule_72 (lv_at hl 0 rfl) ?_
      refine lv_lload_n hx hb dX3_schedule_74 rfl (lv_at hl 1 rfl) ?_
      refine lv_lsub hx hb dX3_schedule_75 ?_
      refine lv_iload_n hx hb dX3_schedule_76 rfl (lv_at hl 4 rfl) ?_
      refine lv_i2l (v := Int32.toInt64 p1) hx hb dX3_schedule_77 rfl ?_
      refine lv_lmul hx hb dX3_schedule_78 ?_
      refine lv_ldc2 (v := 100) hx hb hown f1 dX3_schedule_79 ?_
      refine lv_ldiv hx hb dX3_schedule_82 (by decide) ?_
      refine lv_ladd hx hb dX3_schedule_83 ?_
      refine lv_l2i (v := Int64.toInt32 (v6 + (((v8 - v6) * (Int32.toInt64 p1)) / 100))) hx hb dX3_schedule_84 rfl ?_
      exact m_iret (u := x) hx hb hr hlocks hS hP hD dX3_schedule_85 hw
    · have hw := hw.2 c4
      refine lv_aload_n hx hb dX3_schedule_28 rfl (lv_at hl 1 rfl) ?_
      refine lv_bipush (v := (-4)) hx hb dX3_schedule_29 (by decide) ?_
      refine mw_i (mv_V (As := [.int (-4)]) (rest := []) ⟨hx, hb, hml, hown, hts⟩ (kX3_error l D I O a H.size x (-4) _ hw) (cwV 1 hts gX3_schedule_X3_error rfl rfl rfl hdVX3_error ⟨(Nat.le_of_ble_eq_true rfl), (Nat.le_of_ble_eq_true rfl)⟩) hK hP hD 0 3 rfl rfl rfl rfl hl.1 rfl (Nat.le_of_ble_eq_true rfl) dX3_schedule_31 ⟨(Nat.le_of_ble_eq_true rfl), (Nat.le_of_ble_eq_true rfl)⟩) hP hD hS hA (fun r9 u10 H locs hw hP hD hS => ?_)
      have hP : va_P D vwCl (mdlW I a u10) H := hP
      have hD : va_D (va_A (mdlW I a x) sz) (mdlW I a u10) := hD
      exact m_iret (u := u10) hx hb hr hlocks hS hP hD dX3_schedule_34 hw
  · have hw := hw.2 c2
    refine lv_aload_n hx hb dX3_schedule_10 rfl (lv_at hl 0 rfl) ?_
    refine lv_bipush (v := (-2)) hx hb dX3_schedule_11 (by decide) ?_
    refine mw_i (mv_V (As := [.int (-2)]) (rest := []) ⟨hx, hb, hml, hown, hts⟩ (kX3_error l D I O a H.size x (-2) _ hw) (cwV 1 hts gX3_schedule_X3_error rfl rfl rfl hdVX3_error ⟨(Nat.le_of_ble_eq_true rfl), (Nat.le_of_ble_eq_true rfl)⟩) hK hP hD 0 3 rfl rfl rfl rfl hl.1 rfl (Nat.le_of_ble_eq_true rfl) dX3_schedule_13 ⟨(Nat.le_of_ble_eq_true rfl), (Nat.le_of_ble_eq_true rfl)⟩) hP hD hS hA (fun r11 u12 H locs hw hP hD hS => ?_)
    have hP : va_P D vwCl (mdlW I a u12) H := hP
    have hD : va_D (va_A (mdlW I a x) sz) (mdlW I a u12) := hD
    exact m_iret (u := u12) hx hb hr hlocks hS hP hD dX3_schedule_16 hw
def qX3_strokesToBit (x : Mod) (p1 : Int32) (Q : Int32 → Mod → Prop) : Prop := (qX3_in p1 1 100 (fun r1 => ((r1 = 0 → (qX3_error x (-2) (fun r3 u4 => Q r3 u4))) ∧ (¬ r1 = 0 → (qX3_volumeOf x 0 (fun r5 => (¬ p1 = 0 ∧ Q (((r5 + p1) - 1) / p1) x)))))))
set_option maxHeartbeats 4000000 in
set_option maxRecDepth 100000 in
theorem kX3_strokesToBit (l : Launch) (D : va_G) (I O : ClassId) (a : MA) (sz : Nat) (x : Mod) (p1 : Int32) (Q : Int32 → Mod → Prop) (hw : qX3_strokesToBit x p1 Q) : Met l yX3_strokesToBit wsX3_strokesToBit rX3_strokesToBit (mPc D I O [.ref a.1, .int p1] (mdlW I a x) sz) (va_Qi (fun r (u : Mod) => Q r u) (mB D (va_A (mdlW I a x) sz) (fun u => mdlW I a u)) (va_A (mdlW I a x) sz)) 0 0 (va_A (mdlW I a x) sz) := by
  refine m_start (by decide) rfl (Nat.le_of_ble_eq_true rfl) (fun p e s m below meth c ls H locs hx hb hr hml hts hown hlocks hnm hK hP hD hA hS hl => ?_)
  have hown : s.vm.findClass RX3 = some m.cls := hown
  have hl : lv_has ls 2 [(0, .ref a.1), (1, .int p1)] := hl
  unfold qX3_strokesToBit at hw
  refine lv_iload_n hx hb dX3_strokesToBit_0 rfl (lv_at hl 1 rfl) ?_
  refine lv_iconst (v := 1) hx hb dX3_strokesToBit_1 (by decide) ?_
  refine lv_bipush (v := 100) hx hb dX3_strokesToBit_2 (by decide) ?_
  refine m0_i (mv_S (As := [.int p1, .int 1, .int 100]) (rest := []) ⟨hx, hb, hml, hown, hts⟩ (kX3_in l D I O H.size p1 1 100 _ hw) (va_cwS 3 hts gX3_strokesToBit_X3_in rfl rfl rfl hdSX3_in ⟨(Nat.le_of_ble_eq_true rfl), (Nat.le_of_ble_eq_true rfl)⟩) hK (nil_P (D := D) (H := H)) (nil_D (A := va_A (mdlW I a x) sz)) rfl hl.1 rfl (Nat.le_of_ble_eq_true rfl) dX3_strokesToBit_4 ⟨(Nat.le_of_ble_eq_true rfl), (Nat.le_of_ble_eq_true rfl)⟩) hP hD hS hA (fun r1 _ H locs hw hP hD hS => ?_)
  refine lv_if_eq (tgt := 24) hx hb dX3_strokesToBit_7 (by decide) (fun c2 => ?_) (fun c2 => ?_)
  · have hw := hw.1 c2
    refine lv_aload_n hx hb dX3_strokesToBit_24 rfl (lv_at hl 0 rfl) ?_
    refine lv_bipush (v := (-2)) hx hb dX3_strokesToBit_25 (by decide) ?_
    refine mw_i (mv_V (As := [.int (-2)]) (rest := []) ⟨hx, hb, hml, hown, hts⟩ (kX3_error l D I O a H.size x (-2) _ hw) (cwV 1 hts gX3_strokesToBit_X3_error rfl rfl rfl hdVX3_error ⟨(Nat.le_of_ble_eq_true rfl), (Nat.le_of_ble_eq_true rfl)⟩) hK hP hD 0 3 rfl rfl rfl rfl hl.1 rfl (Nat.le_of_ble_eq_true rfl) dX3_strokesToBit_27 ⟨(Nat.le_of_ble_eq_true rfl), (Nat.le_of_ble_eq_true rfl)⟩) hP hD hS hA (fun r3 u4 H locs hw hP hD hS => ?_)
    have hP : va_P D vwCl (mdlW I a u4) H := hP
    have hD : va_D (va_A (mdlW I a x) sz) (mdlW I a u4) := hD
    exact m_iret (u := u4) hx hb hr hlocks hS hP hD dX3_strokesToBit_30 hw
  · have hw := hw.2 c2
    refine lv_aload_n hx hb dX3_strokesToBit_10 rfl (lv_at hl 0 rfl) ?_
    refine lv_iconst (v := 0) hx hb dX3_strokesToBit_11 (by decide) ?_
    refine mw_i (mv_V (As := [.int 0]) (rest := []) ⟨hx, hb, hml, hown, hts⟩ (kX3_volumeOf l D I O a H.size x 0 _ hw) (cwV 1 hts gX3_strokesToBit_X3_volumeOf rfl rfl rfl hdVX3_volumeOf ⟨(Nat.le_of_ble_eq_true rfl), (Nat.le_of_ble_eq_true rfl)⟩) hK hP hD 0 3 rfl rfl rfl rfl hl.1 rfl (Nat.le_of_ble_eq_true rfl) dX3_strokesToBit_12 ⟨(Nat.le_of_ble_eq_true rfl), (Nat.le_of_ble_eq_true rfl)⟩) hP hD hS hA (fun r5 _ H locs hw hP hD hS => ?_)
    have hP : va_P D vwCl (mdlW I a x) H := hP
    have hD : va_D (va_A (mdlW I a x) sz) (mdlW I a x) := hD
    refine lv_iload_n hx hb dX3_strokesToBit_15 rfl (lv_at hl 1 rfl) ?_
    refine lv_iadd hx hb dX3_strokesToBit_16 ?_
    refine lv_iconst (v := 1) hx hb dX3_strokesToBit_17 (by decide) ?_
    refine lv_isub hx hb dX3_strokesToBit_18 ?_
    refine lv_iload_n hx hb dX3_strokesToBit_19 rfl (lv_at hl 1 rfl) ?_
    obtain ⟨h6, hw⟩ := hw
    refine lv_idiv hx hb dX3_strokesToBit_20 h6 ?_
    refine lv_goto (tgt := 30) hx hb dX3_strokesToBit_21 (by decide) ?_
    exact m_iret (u := x) hx hb hr hlocks hS hP hD dX3_strokesToBit_30 hw
def qX3_layers (x : Mod) (p1 : Int32) (Q : Int32 → Mod → Prop) : Prop := (qX3_isColumn p1 (fun r1 => ((r1 = 0 → (qX3_error x (-2) (fun r3 u4 => Q r3 u4))) ∧ (¬ r1 = 0 → (vp_in (11 + p1) 4416 ∧ Q ((mN x) (Int32.toNatClampNeg (11 + p1))) x)))))
set_option maxHeartbeats 4000000 in
set_option maxRecDepth 100000 in
theorem kX3_layers (l : Launch) (D : va_G) (I O : ClassId) (a : MA) (sz : Nat) (x : Mod) (p1 : Int32) (Q : Int32 → Mod → Prop) (hw : qX3_layers x p1 Q) : Met l yX3_layers wsX3_layers rX3_layers (mPc D I O [.ref a.1, .int p1] (mdlW I a x) sz) (va_Qi (fun r (u : Mod) => Q r u) (mB D (va_A (mdlW I a x) sz) (fun u => mdlW I a u)) (va_A (mdlW I a x) sz)) 0 0 (va_A (mdlW I a x) sz) := by
  refine m_start (by decide) rfl (Nat.le_of_ble_eq_true rfl) (fun p e s m below meth c ls H locs hx hb hr hml hts hown hlocks hnm hK hP hD hA hS hl => ?_)
  have hown : s.vm.findClass RX3 = some m.cls := hown
  have hl : lv_has ls 2 [(0, .ref a.1), (1, .int p1)] := hl
  have hiX3 : ∀ w ∈ wsX30, w ∈ wsX3_layers := by decide +kernel
  have f0 := hts (.fieldLink RX3 7 "WellControlModel" "now" "[I") (by decide +kernel)
  unfold qX3_layers at hw
  refine lv_iload_n hx hb dX3_layers_0 rfl (lv_at hl 1 rfl) ?_
  refine m0_i (mv_S (As := [.int p1]) (rest := []) ⟨hx, hb, hml, hown, hts⟩ (kX3_isColumn l D I O H.size p1 _ hw) (va_cwS 1 hts gX3_layers_X3_isColumn rfl rfl rfl hdSX3_isColumn ⟨(Nat.le_of_ble_eq_true rfl), (Nat.le_of_ble_eq_true rfl)⟩) hK (nil_P (D := D) (H := H)) (nil_D (A := va_A (mdlW I a x) sz)) rfl hl.1 rfl (Nat.le_of_ble_eq_true rfl) dX3_layers_1 ⟨(Nat.le_of_ble_eq_true rfl), (Nat.le_of_ble_eq_true rfl)⟩) hP hD hS hA (fun r1 _ H locs hw hP hD hS => ?_)
  refine lv_if_eq (tgt := 19) hx hb dX3_layers_4 (by decide) (fun c2 => ?_) (fun c2 => ?_)
  · have hw := hw.1 c2
    refine lv_aload_n hx hb dX3_layers_19 rfl (lv_at hl 0 rfl) ?_
    refine lv_bipush (v := (-2)) hx hb dX3_layers_20 (by decide) ?_
    refine mw_i (mv_V (As := [.int (-2)]) (rest := []) ⟨hx, hb, hml, hown, hts⟩ (kX3_error l D I O a H.size x (-2) _ hw) (cwV 1 hts gX3_layers_X3_error rfl rfl rfl hdVX3_error ⟨(Nat.le_of_ble_eq_true rfl), (Nat.le_of_ble_eq_true rfl)⟩) hK hP hD 0 3 rfl rfl rfl rfl hl.1 rfl (Nat.le_of_ble_eq_true rfl) dX3_layers_22 ⟨(Nat.le_of_ble_eq_true rfl), (Nat.le_of_ble_eq_true rfl)⟩) hP hD hS hA (fun r3 u4 H locs hw hP hD hS => ?_)
    have hP : va_P D vwCl (mdlW I a u4) H := hP
    have hD : va_D (va_A (mdlW I a x) sz) (mdlW I a u4) := hD
    exact m_iret (u := u4) hx hb hr hlocks hS hP hD dX3_layers_25 hw
  · have hw := hw.2 c2
    refine lv_aload_n hx hb dX3_layers_7 rfl (lv_at hl 0 rfl) ?_
    refine va_get (ci := 3) (v := .ref a.2.1) (C := RX3) (T := TX3) (N := 6) hx hb hts hiX3 hown hK.1 hP 0 rfl rfl 0 (by decide) f0 (fun _ h9 => h9) rfl dX3_layers_8 ?_
    refine lv_bipush (v := 11) hx hb dX3_layers_11 (by decide) ?_
    refine lv_iload_n hx hb dX3_layers_13 rfl (lv_at hl 1 rfl) ?_
    refine lv_iadd hx hb dX3_layers_14 ?_
    obtain ⟨h5, hw⟩ := hw
    refine va_iald hx hb hK.1 hP 3 0 rfl rfl h5 dX3_layers_15 ?_
    refine lv_goto (tgt := 25) hx hb dX3_layers_16 (by decide) ?_
    exact m_iret (u := x) hx hb hr hlocks hS hP hD dX3_layers_25 hw
def qX3_ofLayer (x : Mod) (p1 : Int32) (p2 : Int32) (p3 : Int32) (Q : Int32 → Mod → Prop) : Prop := (qX3_isColumn p1 (fun r1 => ((r1 = 0 → (qX3_error x (-2) (fun r3 u4 => Q r3 u4))) ∧ (¬ r1 = 0 → ((0 ≤ p2 → (vp_in (11 + p1) 4416 ∧ ((((mN x) (Int32.toNatClampNeg (11 + p1))) ≤ p2 → (qX3_error x (-4) (fun r8 u9 => Q r8 u9))) ∧ (¬ ((mN x) (Int32.toNatClampNeg (11 + p1))) ≤ p2 → (qX3_volumeAt p1 p2 (fun r10 => (vp_in (r10 + p3) 4416 ∧ Q ((mN x) (Int32.toNatClampNeg (r10 + p3))) x))))))) ∧ (¬ 0 ≤ p2 → (qX3_error x (-2) (fun r12 u13 => Q r12 u13))))))))
set_option maxHeartbeats 4000000 in
set_option maxRecDepth 100000 in
theorem kX3_ofLayer (l : Launch) (D : va_G) (I O : ClassId) (a : MA) (sz : Nat) (x : Mod) (p1 : Int32) (p2 : Int32) (p3 : Int32) (Q : Int32 → Mod → Prop) (hw : qX3_ofLayer x p1 p2 p3 Q) : Met l yX3_ofLayer wsX3_ofLayer rX3_ofLayer (mPc D I O [.ref a.1, .int p1, .int p2, .int p3] (mdlW I a x) sz) (va_Qi (fun r (u : Mod) => Q r u) (mB D (va_A (mdlW I a x) sz) (fun u => mdlW I a u)) (va_A (mdlW I a x) sz)) 0 0 (va_A (mdlW I a x) sz) := by
  refine m_start (by decide) rfl (Nat.le_of_ble_eq_true rfl) (fun p e s m below meth c ls H locs hx hb hr hml hts hown hlocks hnm hK hP hD hA hS hl => ?_)
  have hown : s.vm.findClass RX3 = some m.cls := hown
  have hl : lv_has ls 4 [(0, .ref a.1), (1, .int p1), (2, .int p2), (3, .int p3)] := hl
  have hiX3 : ∀ w ∈ wsX30, w ∈ wsX3_ofLayer := by decide +kernel
  have f0 := hts (.fieldLink RX3 7 "WellControlModel" "now" "[I") (by decide +kernel)
  unfold qX3_ofLayer at hw
  refine lv_iload_n hx hb dX3_ofLayer_0 rfl (lv_at hl 1 rfl) ?_
  refine m0_i (mv_S (As := [.int p1]) (rest := []) ⟨hx, hb, hml, hown, hts⟩ (kX3_isColumn l D I O H.size p1 _ hw) (va_cwS 1 hts gX3_ofLayer_X3_isColumn rfl rfl rfl hdSX3_isColumn ⟨(Nat.le_of_ble_eq_true rfl), (Nat.le_of_ble_eq_true rfl)⟩) hK (nil_P (D := D) (H := H)) (nil_D (A := va_A (mdlW I a x) sz)) rfl hl.1 rfl (Nat.le_of_ble_eq_true rfl) dX3_ofLayer_1 ⟨(Nat.le_of_ble_eq_true rfl), (Nat.le_of_ble_eq_true rfl)⟩) hP hD hS hA (fun r1 _ H locs hw hP hD hS => ?_)
  refine lv_if_eq (tgt := 11) hx hb dX3_ofLayer_4 (by decide) (fun c2 => ?_) (fun c2 => ?_)
  · have hw := hw.1 c2
    refine lv_aload_n hx hb dX3_ofLayer_11 rfl (lv_at hl 0 rfl) ?_
    refine lv_bipush (v := (-2)) hx hb dX3_ofLayer_12 (by decide) ?_
    refine mw_i (mv_V (As := [.int (-2)]) (rest := []) ⟨hx, hb, hml, hown, hts⟩ (kX3_error l D I O a H.size x (-2) _ hw) (cwV 1 hts gX3_ofLayer_X3_error rfl rfl rfl hdVX3_error ⟨(Nat.le_of_ble_eq_true rfl), (Nat.le_of_ble_eq_true rfl)⟩) hK hP hD 0 3 rfl rfl rfl rfl hl.1 rfl (Nat.le_of_ble_eq_true rfl) dX3_ofLayer_14 ⟨(Nat.le_of_ble_eq_true rfl), (Nat.le_of_ble_eq_true rfl)⟩) hP hD hS hA (fun r3 u4 H locs hw hP hD hS => ?_)
    have hP : va_P D vwCl (mdlW I a u4) H := hP
    have hD : va_D (va_A (mdlW I a x) sz) (mdlW I a u4) := hD
    exact m_iret (u := u4) hx hb hr hlocks hS hP hD dX3_ofLayer_17 hw
  · have hw := hw.2 c2
    refine lv_iload_n hx hb dX3_ofLayer_7 rfl (lv_at hl 2 rfl) ?_
    refine lv_if_ge (tgt := 18) hx hb dX3_ofLayer_8 (by decide) (fun c5 => ?_) (fun c5 => ?_)
    · have hw := hw.1 c5
      refine lv_iload_n hx hb dX3_ofLayer_18 rfl (lv_at hl 2 rfl) ?_
      refine lv_aload_n hx hb dX3_ofLayer_19 rfl (lv_at hl 0 rfl) ?_
      refine va_get (ci := 3) (v := .ref a.2.1) (C := RX3) (T := TX3) (N := 6) hx hb hts hiX3 hown hK.1 hP 0 rfl rfl 0 (by decide) f0 (fun _ h9 => h9) rfl dX3_ofLayer_20 ?_
      refine lv_bipush (v := 11) hx hb dX3_ofLayer_23 (by decide) ?_
      refine lv_iload_n hx hb dX3_ofLayer_25 rfl (lv_at hl 1 rfl) ?_
      refine lv_iadd hx hb dX3_ofLayer_26 ?_
      obtain ⟨h6, hw⟩ := hw
      refine va_iald hx hb hK.1 hP 3 0 rfl rfl h6 dX3_ofLayer_27 ?_
      refine lv_icmp_ge (tgt := 46) hx hb dX3_ofLayer_28 (by decide) (fun c7 => ?_) (fun c7 => ?_)
      · have hw := hw.1 c7
        refine lv_aload_n hx hb dX3_ofLayer_46 rfl (lv_at hl 0 rfl) ?_
        refine lv_bipush (v := (-4)) hx hb dX3_ofLayer_47 (by decide) ?_
        refine mw_i (mv_V (As := [.int (-4)]) (rest := []) ⟨hx, hb, hml, hown, hts⟩ (kX3_error l D I O a H.size x (-4) _ hw) (cwV 1 hts gX3_ofLayer_X3_error rfl rfl rfl hdVX3_error ⟨(Nat.le_of_ble_eq_true rfl), (Nat.le_of_ble_eq_true rfl)⟩) hK hP hD 0 3 rfl rfl rfl rfl hl.1 rfl (Nat.le_of_ble_eq_true rfl) dX3_ofLayer_49 ⟨(Nat.le_of_ble_eq_true rfl), (Nat.le_of_ble_eq_true rfl)⟩) hP hD hS hA (fun r8 u9 H locs hw hP hD hS => ?_)
        have hP : va_P D vwCl (mdlW I a u9) H := hP
        have hD : va_D (va_A (mdlW I a x) sz) (mdlW I a u9) := hD
        exact m_iret (u := u9) hx hb hr hlocks hS hP hD dX3_ofLayer_52 hw
      · have hw := hw.2 c7
        refine lv_aload_n hx hb dX3_ofLayer_31 rfl (lv_at hl 0 rfl) ?_
        refine va_get (ci := 3) (v := .ref a.2.1) (C := RX3) (T := TX3) (N := 6) hx hb hts hiX3 hown hK.1 hP 0 rfl rfl 0 (by decide) f0 (fun _ h9 => h9) rfl dX3_ofLayer_32 ?_
        refine lv_iload_n hx hb dX3_ofLayer_35 rfl (lv_at hl 1 rfl) ?_
        refine lv_iload_n hx hb dX3_ofLayer_36 rfl (lv_at hl 2 rfl) ?_
        refine m0_i (mv_S (As := [.int p1, .int p2]) (rest := [.ref a.2.1]) ⟨hx, hb, hml, hown, hts⟩ (kX3_volumeAt l D I O H.size p1 p2 _ hw) (va_cwS 2 hts gX3_ofLayer_X3_volumeAt rfl rfl rfl hdSX3_volumeAt ⟨(Nat.le_of_ble_eq_true rfl), (Nat.le_of_ble_eq_true rfl)⟩) hK (nil_P (D := D) (H := H)) (nil_D (A := va_A (mdlW I a x) sz)) rfl hl.1 rfl (Nat.le_of_ble_eq_true rfl) dX3_ofLayer_37 ⟨(Nat.le_of_ble_eq_true rfl), (Nat.le_of_ble_eq_true rfl)⟩) hP hD hS hA (fun r10 _ H locs hw hP hD hS => ?_)
        refine lv_iload_n hx hb dX3_ofLayer_40 rfl (lv_at hl 3 rfl) ?_
        refine lv_iadd hx hb dX3_ofLayer_41 ?_
        obtain ⟨h11, hw⟩ := hw
        refine va_iald hx hb hK.1 hP 3 0 rfl rfl h11 dX3_ofLayer_42 ?_
        refine lv_goto (tgt := 52) hx hb dX3_ofLayer_43 (by decide) ?_
        exact m_iret (u := x) hx hb hr hlocks hS hP hD dX3_ofLayer_52 hw
    · have hw := hw.2 c5
      refine lv_aload_n hx hb dX3_ofLayer_11 rfl (lv_at hl 0 rfl) ?_
      refine lv_bipush (v := (-2)) hx hb dX3_ofLayer_12 (by decide) ?_
      refine mw_i (mv_V (As := [.int (-2)]) (rest := []) ⟨hx, hb, hml, hown, hts⟩ (kX3_error l D I O a H.size x (-2) _ hw) (cwV 1 hts gX3_ofLayer_X3_error rfl rfl rfl hdVX3_error ⟨(Nat.le_of_ble_eq_true rfl), (Nat.le_of_ble_eq_true rfl)⟩) hK hP hD 0 3 rfl rfl rfl rfl hl.1 rfl (Nat.le_of_ble_eq_true rfl) dX3_ofLayer_14 ⟨(Nat.le_of_ble_eq_true rfl), (Nat.le_of_ble_eq_true rfl)⟩) hP hD hS hA (fun r12 u13 H locs hw hP hD hS => ?_)
      have hP : va_P D vwCl (mdlW I a u13) H := hP
      have hD : va_D (va_A (mdlW I a x) sz) (mdlW I a u13) := hD
      exact m_iret (u := u13) hx hb hr hlocks hS hP hD dX3_ofLayer_17 hw
def qX3_layerVolume (x : Mod) (p1 : Int32) (p2 : Int32) (Q : Int32 → Mod → Prop) : Prop := (qX3_ofLayer x p1 p2 0 (fun r1 u2 => Q r1 u2))
set_option maxHeartbeats 4000000 in
set_option maxRecDepth 100000 in
theorem kX3_layerVolume (l : Launch) (D : va_G) (I O : ClassId) (a : MA) (sz : Nat) (x : Mod) (p1 : Int32) (p2 : Int32) (Q : Int32 → Mod → Prop) (hw : qX3_layerVolume x p1 p2 Q) : Met l yX3_layerVolume wsX3_layerVolume rX3_layerVolume (mPc D I O [.ref a.1, .int p1, .int p2] (mdlW I a x) sz) (va_Qi (fun r (u : Mod) => Q r u) (mB D (va_A (mdlW I a x) sz) (fun u => mdlW I a u)) (va_A (mdlW I a x) sz)) 0 0 (va_A (mdlW I a x) sz) := by
  refine m_start (by decide) rfl (Nat.le_of_ble_eq_true rfl) (fun p e s m below meth c ls H locs hx hb hr hml hts hown hlocks hnm hK hP hD hA hS hl => ?_)
  have hown : s.vm.findClass RX3 = some m.cls := hown
  have hl : lv_has ls 3 [(0, .ref a.1), (1, .int p1), (2, .int p2)] := hl
  unfold qX3_layerVolume at hw
  refine lv_aload_n hx hb dX3_layerVolume_0 rfl (lv_at hl 0 rfl) ?_
  refine lv_iload_n hx hb dX3_layerVolume_1 rfl (lv_at hl 1 rfl) ?_
  refine lv_iload_n hx hb dX3_layerVolume_2 rfl (lv_at hl 2 rfl) ?_
  refine lv_iconst (v := 0) hx hb dX3_layerVolume_3 (by decide) ?_
  refine mw_i (mv_V (As := [.int p1, .int p2, .int 0]) (rest := []) ⟨hx, hb, hml, hown, hts⟩ (kX3_ofLayer l D I O a H.size x p1 p2 0 _ hw) (cwV 3 hts gX3_layerVolume_X3_ofLayer rfl rfl rfl hdVX3_ofLayer ⟨(Nat.le_of_ble_eq_true rfl), (Nat.le_of_ble_eq_true rfl)⟩) hK hP hD 0 3 rfl rfl rfl rfl hl.1 rfl (Nat.le_of_ble_eq_true rfl) dX3_layerVolume_4 ⟨(Nat.le_of_ble_eq_true rfl), (Nat.le_of_ble_eq_true rfl)⟩) hP hD hS hA (fun r1 u2 H locs hw hP hD hS => ?_)
  have hP : va_P D vwCl (mdlW I a u2) H := hP
  have hD : va_D (va_A (mdlW I a x) sz) (mdlW I a u2) := hD
  exact m_iret (u := u2) hx hb hr hlocks hS hP hD dX3_layerVolume_7 hw
def qX3_layerDensity (x : Mod) (p1 : Int32) (p2 : Int32) (Q : Int32 → Mod → Prop) : Prop := (qX3_ofLayer x p1 p2 1100 (fun r1 u2 => Q r1 u2))
set_option maxHeartbeats 4000000 in
set_option maxRecDepth 100000 in
theorem kX3_layerDensity (l : Launch) (D : va_G) (I O : ClassId) (a : MA) (sz : Nat) (x : Mod) (p1 : Int32) (p2 : Int32) (Q : Int32 → Mod → Prop) (hw : qX3_layerDensity x p1 p2 Q) : Met l yX3_layerDensity wsX3_layerDensity rX3_layerDensity (mPc D I O [.ref a.1, .int p1, .int p2] (mdlW I a x) sz) (va_Qi (fun r (u : Mod) => Q r u) (mB D (va_A (mdlW I a x) sz) (fun u => mdlW I a u)) (va_A (mdlW I a x) sz)) 0 0 (va_A (mdlW I a x) sz) := by
  refine m_start (by decide) rfl (Nat.le_of_ble_eq_true rfl) (fun p e s m below meth c ls H locs hx hb hr hml hts hown hlocks hnm hK hP hD hA hS hl => ?_)
  have hown : s.vm.findClass RX3 = some m.cls := hown
  have hl : lv_has ls 3 [(0, .ref a.1), (1, .int p1), (2, .int p2)] := hl
  unfold qX3_layerDensity at hw
  refine lv_aload_n hx hb dX3_layerDensity_0 rfl (lv_at hl 0 rfl) ?_
  refine lv_iload_n hx hb dX3_layerDensity_1 rfl (lv_at hl 1 rfl) ?_
  refine lv_iload_n hx hb dX3_layerDensity_2 rfl (lv_at hl 2 rfl) ?_
  refine lv_sipush (v := 1100) hx hb dX3_layerDensity_3 (by decide) ?_
  refine mw_i (mv_V (As := [.int p1, .int p2, .int 1100]) (rest := []) ⟨hx, hb, hml, hown, hts⟩ (kX3_ofLayer l D I O a H.size x p1 p2 1100 _ hw) (cwV 3 hts gX3_layerDensity_X3_ofLayer rfl rfl rfl hdVX3_ofLayer ⟨(Nat.le_of_ble_eq_true rfl), (Nat.le_of_ble_eq_true rfl)⟩) hK hP hD 0 3 rfl rfl rfl rfl hl.1 rfl (Nat.le_of_ble_eq_true rfl) dX3_layerDensity_6 ⟨(Nat.le_of_ble_eq_true rfl), (Nat.le_of_ble_eq_true rfl)⟩) hP hD hS hA (fun r1 u2 H locs hw hP hD hS => ?_)
  have hP : va_P D vwCl (mdlW I a u2) H := hP
  have hD : va_D (va_A (mdlW I a x) sz) (mdlW I a u2) := hD
  exact m_iret (u := u2) hx hb hr hlocks hS hP hD dX3_layerDensity_9 hw
def qX3_gain (x : Mod) (Q : Int32 → Prop) : Prop := Q ((mN x) (Int32.toNatClampNeg 8))
set_option maxHeartbeats 4000000 in
set_option maxRecDepth 100000 in
theorem kX3_gain (l : Launch) (D : va_G) (I O : ClassId) (a : MA) (sz : Nat) (x : Mod) (Q : Int32 → Prop) (hw : qX3_gain x Q) : Met l yX3_gain wsX3_gain rX3_gain (mPc D I O [.ref a.1] (mdlW I a x) sz) (va_Qi (fun r (_ : Unit) => Q r) (mB D (va_A (mdlW I a x) sz) (fun _ => mdlW I a x)) (va_A (mdlW I a x) sz)) 0 0 (va_A (mdlW I a x) sz) := by
  refine m_start (by decide) rfl (Nat.le_of_ble_eq_true rfl) (fun p e s m below meth c ls H locs hx hb hr hml hts hown hlocks hnm hK hP hD hA hS hl => ?_)
  have hown : s.vm.findClass RX3 = some m.cls := hown
  have hl : lv_has ls 1 [(0, .ref a.1)] := hl
  have hiX3 : ∀ w ∈ wsX30, w ∈ wsX3_gain := by decide +kernel
  have f0 := hts (.fieldLink RX3 7 "WellControlModel" "now" "[I") (by decide +kernel)
  unfold qX3_gain at hw
  refine lv_aload_n hx hb dX3_gain_0 rfl (lv_at hl 0 rfl) ?_
  refine va_get (ci := 3) (v := .ref a.2.1) (C := RX3) (T := TX3) (N := 6) hx hb hts hiX3 hown hK.1 hP 0 rfl rfl 0 (by decide) f0 (fun _ h9 => h9) rfl dX3_gain_1 ?_
  refine lv_bipush (v := 8) hx hb dX3_gain_4 (by decide) ?_
  refine va_iald hx hb hK.1 hP 3 0 rfl rfl (vp_c 8 4416 (by decide)) dX3_gain_6 ?_
  exact m_iret (u := ()) hx hb hr hlocks hS hP hD dX3_gain_7 hw
def qX3_breaks (x : Mod) (Q : Int32 → Prop) : Prop := Q ((mN x) (Int32.toNatClampNeg 9))
set_option maxHeartbeats 4000000 in
set_option maxRecDepth 100000 in
theorem kX3_breaks (l : Launch) (D : va_G) (I O : ClassId) (a : MA) (sz : Nat) (x : Mod) (Q : Int32 → Prop) (hw : qX3_breaks x Q) : Met l yX3_breaks wsX3_breaks rX3_breaks (mPc D I O [.ref a.1] (mdlW I a x) sz) (va_Qi (fun r (_ : Unit) => Q r) (mB D (va_A (mdlW I a x) sz) (fun _ => mdlW I a x)) (va_A (mdlW I a x) sz)) 0 0 (va_A (mdlW I a x) sz) := by
  refine m_start (by decide) rfl (Nat.le_of_ble_eq_true rfl) (fun p e s m below meth c ls H locs hx hb hr hml hts hown hlocks hnm hK hP hD hA hS hl => ?_)
  have hown : s.vm.findClass RX3 = some m.cls := hown
  have hl : lv_has ls 1 [(0, .ref a.1)] := hl
  have hiX3 : ∀ w ∈ wsX30, w ∈ wsX3_breaks := by decide +kernel
  have f0 := hts (.fieldLink RX3 7 "WellControlModel" "now" "[I") (by decide +kernel)
  unfold qX3_breaks at hw
  refine lv_aload_n hx hb dX3_breaks_0 rfl (lv_at hl 0 rfl) ?_
  refine va_get (ci := 3) (v := .ref a.2.1) (C := RX3) (T := TX3) (N := 6) hx hb hts hiX3 hown hK.1 hP 0 rfl rfl 0 (by decide) f0 (fun _ h9 => h9) rfl dX3_breaks_1 ?_
  refine lv_bipush (v := 9) hx hb dX3_breaks_4 (by decide) ?_
  refine va_iald hx hb hK.1 hP 3 0 rfl rfl (vp_c 9 4416 (by decide)) dX3_breaks_6 ?_
  exact m_iret (u := ()) hx hb hr hlocks hS hP hD dX3_breaks_7 hw
def qX3_greatestShoePressure (x : Mod) (Q : Int32 → Prop) : Prop := Q ((mN x) (Int32.toNatClampNeg 10))
set_option maxHeartbeats 4000000 in
set_option maxRecDepth 100000 in
theorem kX3_greatestShoePressure (l : Launch) (D : va_G) (I O : ClassId) (a : MA) (sz : Nat) (x : Mod) (Q : Int32 → Prop) (hw : qX3_greatestShoePressure x Q) : Met l yX3_greatestShoePressure wsX3_greatestShoePressure rX3_greatestShoePressure (mPc D I O [.ref a.1] (mdlW I a x) sz) (va_Qi (fun r (_ : Unit) => Q r) (mB D (va_A (mdlW I a x) sz) (fun _ => mdlW I a x)) (va_A (mdlW I a x) sz)) 0 0 (va_A (mdlW I a x) sz) := by
  refine m_start (by decide) rfl (Nat.le_of_ble_eq_true rfl) (fun p e s m below meth c ls H locs hx hb hr hml hts hown hlocks hnm hK hP hD hA hS hl => ?_)
  have hown : s.vm.findClass RX3 = some m.cls := hown
  have hl : lv_has ls 1 [(0, .ref a.1)] := hl
  have hiX3 : ∀ w ∈ wsX30, w ∈ wsX3_greatestShoePressure := by decide +kernel
  have f0 := hts (.fieldLink RX3 7 "WellControlModel" "now" "[I") (by decide +kernel)
  unfold qX3_greatestShoePressure at hw
  refine lv_aload_n hx hb dX3_greatestShoePressure_0 rfl (lv_at hl 0 rfl) ?_
  refine va_get (ci := 3) (v := .ref a.2.1) (C := RX3) (T := TX3) (N := 6) hx hb hts hiX3 hown hK.1 hP 0 rfl rfl 0 (by decide) f0 (fun _ h9 => h9) rfl dX3_greatestShoePressure_1 ?_
  refine lv_bipush (v := 10) hx hb dX3_greatestShoePressure_4 (by decide) ?_
  refine va_iald hx hb hK.1 hP 3 0 rfl rfl (vp_c 10 4416 (by decide)) dX3_greatestShoePressure_6 ?_
  exact m_iret (u := ()) hx hb hr hlocks hS hP hD dX3_greatestShoePressure_7 hw
def qX3_undo (x : Mod) (Q : Int32 → Mod → Prop) : Prop := ((¬ (mS x) = 0 → (qX3_copy 17664 4416 (mP x) (mN x) (4416 * ((mS x) - 1)) 0 (fun u2 => Q ((mS x) - 1) (u2, mA x, mP x, (mS x) - 1, mE x, mH x)))) ∧ ((mS x) = 0 → (qX3_error x (-5) (fun r3 u4 => Q r3 u4))))
set_option maxHeartbeats 4000000 in
set_option maxRecDepth 100000 in
theorem kX3_undo (l : Launch) (D : va_G) (I O : ClassId) (a : MA) (sz : Nat) (x : Mod) (Q : Int32 → Mod → Prop) (hw : qX3_undo x Q) : Met l yX3_undo wsX3_undo rX3_undo (mPc D I O [.ref a.1] (mdlW I a x) sz) (va_Qi (fun r (u : Mod) => Q r u) (mB D (va_A (mdlW I a x) sz) (fun u => mdlW I a u)) (va_A (mdlW I a x) sz)) 0 0 (va_A (mdlW I a x) sz) := by
  refine m_start (by decide) rfl (Nat.le_of_ble_eq_true rfl) (fun p e s m below meth c ls H locs hx hb hr hml hts hown hlocks hnm hK hP hD hA hS hl => ?_)
  have hown : s.vm.findClass RX3 = some m.cls := hown
  have hl : lv_has ls 1 [(0, .ref a.1)] := hl
  have hiX3 : ∀ w ∈ wsX30, w ∈ wsX3_undo := by decide +kernel
  have f0 := hts (.fieldLink RX3 25 "WellControlModel" "states" "I") (by decide +kernel)
  have f1 := hts (.fieldLink RX3 16 "WellControlModel" "past" "[I") (by decide +kernel)
  have f2 := hts (.fieldLink RX3 7 "WellControlModel" "now" "[I") (by decide +kernel)
  unfold qX3_undo at hw
  refine lv_aload_n hx hb dX3_undo_0 rfl (lv_at hl 0 rfl) ?_
  refine va_get (ci := 3) (v := .int (mS x)) (C := RX3) (T := TX3) (N := 6) hx hb hts hiX3 hown hK.1 hP 0 rfl rfl 3 (by decide) f0 (fun _ h9 => h9) rfl dX3_undo_1 ?_
  refine lv_if_ne (tgt := 14) hx hb dX3_undo_4 (by decide) (fun c1 => ?_) (fun c1 => ?_)
  · have hw := hw.1 c1
    refine lv_aload_n hx hb dX3_undo_14 rfl (lv_at hl 0 rfl) ?_
    refine lv_dup hx hb dX3_undo_15 rfl ?_
    refine va_get (ci := 3) (v := .int (mS x)) (C := RX3) (T := TX3) (N := 6) hx hb hts hiX3 hown hK.1 hP 0 rfl rfl 3 (by decide) f0 (fun _ h9 => h9) rfl dX3_undo_16 ?_
    refine lv_iconst (v := 1) hx hb dX3_undo_19 (by decide) ?_
    refine lv_isub hx hb dX3_undo_20 ?_
    refine va_put (ci := 3) (v := .int ((mS x) - 1)) (ty := .int) (C := RX3) (T := TX3) (N := 6) hx hb hts hiX3 tyX3 tyX3_ok nmX3 hown hK.1 hP hD hS 0 rfl rfl 3 (by decide) f0 (fun _ h9 => h9) rfl (by decide +kernel) rfl rfl (Nat.le_of_ble_eq_true rfl) dX3_undo_21 (fun H locs hP hD hS => ?_)
    have hP : va_P D vwCl (mdlW I a (mN x, mA x, mP x, (mS x) - 1, mE x, mH x)) H := hP
    have hD : va_D (va_A (mdlW I a x) sz) (mdlW I a (mN x, mA x, mP x, (mS x) - 1, mE x, mH x)) := hD
    refine lv_aload_n hx hb dX3_undo_24 rfl (lv_at hl 0 rfl) ?_
    refine va_get (ci := 3) (v := .ref a.2.2.2.1) (C := RX3) (T := TX3) (N := 6) hx hb hts hiX3 hown hK.1 hP 0 rfl rfl 2 (by decide) f1 (fun _ h9 => h9) rfl dX3_undo_25 ?_
    refine lv_sipush (v := 4416) hx hb dX3_undo_28 (by decide) ?_
    refine lv_aload_n hx hb dX3_undo_31 rfl (lv_at hl 0 rfl) ?_
    refine va_get (ci := 3) (v := .int ((mS x) - 1)) (C := RX3) (T := TX3) (N := 6) hx hb hts hiX3 hown hK.1 hP 0 rfl rfl 3 (by decide) f0 (fun _ h9 => h9) rfl dX3_undo_32 ?_
    refine lv_imul hx hb dX3_undo_35 ?_
    refine lv_aload_n hx hb dX3_undo_36 rfl (lv_at hl 0 rfl) ?_
    refine va_get (ci := 3) (v := .ref a.2.1) (C := RX3) (T := TX3) (N := 6) hx hb hts hiX3 hown hK.1 hP 0 rfl rfl 0 (by decide) f2 (fun _ h9 => h9) rfl dX3_undo_37 ?_
    refine lv_iconst (v := 0) hx hb dX3_undo_40 (by decide) ?_
    have hPc := va_P.mid (X := [mdlO a (mN x, mA x, mP x, (mS x) - 1, mE x, mH x), (a.2.2.2.2, .inl (I, 4, .inl (mE x))), (a.2.2.1, .inl (I, 4416, .inl (mA x)))]) (wc := arB I a.2.1 4416 (mN x) ++ arB I a.2.2.2.1 17664 (mP x)) (Y := []) hP
    have hDc := va_D.mid (X := [mdlO a (mN x, mA x, mP x, (mS x) - 1, mE x, mH x), (a.2.2.2.2, .inl (I, 4, .inl (mE x))), (a.2.2.1, .inl (I, 4416, .inl (mA x)))]) (wc := arB I a.2.1 4416 (mN x) ++ arB I a.2.2.2.1 17664 (mP x)) (Y := []) hD
    refine mc_v ([mdlO a (mN x, mA x, mP x, (mS x) - 1, mE x, mH x), (a.2.2.2.2, .inl (I, 4, .inl (mE x))), (a.2.2.1, .inl (I, 4416, .inl (mA x)))]) ([]) (mv_S (As := [.ref a.2.2.2.1, .int (4416 * ((mS x) - 1)), .ref a.2.1, .int 0]) (rest := []) ⟨hx, hb, hml, hown, hts⟩ (kX3_copy_tf l D I O a.2.2.2.1 a.2.1 H.size 17664 4416 (mP x) (mN x) (4416 * ((mS x) - 1)) 0 _ hw) (va_cwS 4 hts gX3_undo_X3_copy rfl rfl rfl hdSX3_copy ⟨(Nat.le_of_ble_eq_true rfl), (Nat.le_of_ble_eq_true rfl)⟩) hK hPc hDc rfl hl.1 rfl (Nat.le_of_ble_eq_true rfl) dX3_undo_41 ⟨(Nat.le_of_ble_eq_true rfl), (Nat.le_of_ble_eq_true rfl)⟩) hP hD hS hA (fun u2 H locs hw hP hD hS => ?_)
    have hP : va_P D vwCl (mdlW I a (u2, mA x, mP x, (mS x) - 1, mE x, mH x)) H := hP
    have hD : va_D (va_A (mdlW I a x) sz) (mdlW I a (u2, mA x, mP x, (mS x) - 1, mE x, mH x)) := hD
    refine lv_aload_n hx hb dX3_undo_44 rfl (lv_at hl 0 rfl) ?_
    refine va_get (ci := 3) (v := .int ((mS x) - 1)) (C := RX3) (T := TX3) (N := 6) hx hb hts hiX3 hown hK.1 hP 0 rfl rfl 3 (by decide) f0 (fun _ h9 => h9) rfl dX3_undo_45 ?_
    exact m_iret (u := (u2, mA x, mP x, (mS x) - 1, mE x, mH x)) hx hb hr hlocks hS hP hD dX3_undo_48 hw
  · have hw := hw.2 c1
    refine lv_aload_n hx hb dX3_undo_7 rfl (lv_at hl 0 rfl) ?_
    refine lv_bipush (v := (-5)) hx hb dX3_undo_8 (by decide) ?_
    refine mw_i (mv_V (As := [.int (-5)]) (rest := []) ⟨hx, hb, hml, hown, hts⟩ (kX3_error l D I O a H.size x (-5) _ hw) (cwV 1 hts gX3_undo_X3_error rfl rfl rfl hdVX3_error ⟨(Nat.le_of_ble_eq_true rfl), (Nat.le_of_ble_eq_true rfl)⟩) hK hP hD 0 3 rfl rfl rfl rfl hl.1 rfl (Nat.le_of_ble_eq_true rfl) dX3_undo_10 ⟨(Nat.le_of_ble_eq_true rfl), (Nat.le_of_ble_eq_true rfl)⟩) hP hD hS hA (fun r3 u4 H locs hw hP hD hS => ?_)
    have hP : va_P D vwCl (mdlW I a u4) H := hP
    have hD : va_D (va_A (mdlW I a x) sz) (mdlW I a u4) := hD
    exact m_iret (u := u4) hx hb hr hlocks hS hP hD dX3_undo_13 hw
def qX3_errorCount (x : Mod) (p1 : Int32) (Q : Int32 → Mod → Prop) : Prop := (qX3_in p1 (-5) (-2) (fun r1 => ((r1 = 0 → (qX3_error x (-2) (fun r3 u4 => Q r3 u4))) ∧ (¬ r1 = 0 → (vp_in ((-2) - p1) 4 ∧ Q ((mE x) (Int32.toNatClampNeg ((-2) - p1))) x)))))
set_option maxHeartbeats 4000000 in
set_option maxRecDepth 100000 in
theorem kX3_errorCount (l : Launch) (D : va_G) (I O : ClassId) (a : MA) (sz : Nat) (x : Mod) (p1 : Int32) (Q : Int32 → Mod → Prop) (hw : qX3_errorCount x p1 Q) : Met l yX3_errorCount wsX3_errorCount rX3_errorCount (mPc D I O [.ref a.1, .int p1] (mdlW I a x) sz) (va_Qi (fun r (u : Mod) => Q r u) (mB D (va_A (mdlW I a x) sz) (fun u => mdlW I a u)) (va_A (mdlW I a x) sz)) 0 0 (va_A (mdlW I a x) sz) := by
  refine m_start (by decide) rfl (Nat.le_of_ble_eq_true rfl) (fun p e s m below meth c ls H locs hx hb hr hml hts hown hlocks hnm hK hP hD hA hS hl => ?_)
  have hown : s.vm.findClass RX3 = some m.cls := hown
  have hl : lv_has ls 2 [(0, .ref a.1), (1, .int p1)] := hl
  have hiX3 : ∀ w ∈ wsX30, w ∈ wsX3_errorCount := by decide +kernel
  have f0 := hts (.fieldLink RX3 19 "WellControlModel" "errors" "[I") (by decide +kernel)
  unfold qX3_errorCount at hw
  refine lv_iload_n hx hb dX3_errorCount_0 rfl (lv_at hl 1 rfl) ?_
  refine lv_bipush (v := (-5)) hx hb dX3_errorCount_1 (by decide) ?_
  refine lv_bipush (v := (-2)) hx hb dX3_errorCount_3 (by decide) ?_
  refine m0_i (mv_S (As := [.int p1, .int (-5), .int (-2)]) (rest := []) ⟨hx, hb, hml, hown, hts⟩ (kX3_in l D I O H.size p1 (-5) (-2) _ hw) (va_cwS 3 hts gX3_errorCount_X3_in rfl rfl rfl hdSX3_in ⟨(Nat.le_of_ble_eq_true rfl), (Nat.le_of_ble_eq_true rfl)⟩) hK (nil_P (D := D) (H := H)) (nil_D (A := va_A (mdlW I a x) sz)) rfl hl.1 rfl (Nat.le_of_ble_eq_true rfl) dX3_errorCount_5 ⟨(Nat.le_of_ble_eq_true rfl), (Nat.le_of_ble_eq_true rfl)⟩) hP hD hS hA (fun r1 _ H locs hw hP hD hS => ?_)
  refine lv_if_eq (tgt := 23) hx hb dX3_errorCount_8 (by decide) (fun c2 => ?_) (fun c2 => ?_)
  · have hw := hw.1 c2
    refine lv_aload_n hx hb dX3_errorCount_23 rfl (lv_at hl 0 rfl) ?_
    refine lv_bipush (v := (-2)) hx hb dX3_errorCount_24 (by decide) ?_
    refine mw_i (mv_V (As := [.int (-2)]) (rest := []) ⟨hx, hb, hml, hown, hts⟩ (kX3_error l D I O a H.size x (-2) _ hw) (cwV 1 hts gX3_errorCount_X3_error rfl rfl rfl hdVX3_error ⟨(Nat.le_of_ble_eq_true rfl), (Nat.le_of_ble_eq_true rfl)⟩) hK hP hD 0 3 rfl rfl rfl rfl hl.1 rfl (Nat.le_of_ble_eq_true rfl) dX3_errorCount_26 ⟨(Nat.le_of_ble_eq_true rfl), (Nat.le_of_ble_eq_true rfl)⟩) hP hD hS hA (fun r3 u4 H locs hw hP hD hS => ?_)
    have hP : va_P D vwCl (mdlW I a u4) H := hP
    have hD : va_D (va_A (mdlW I a x) sz) (mdlW I a u4) := hD
    exact m_iret (u := u4) hx hb hr hlocks hS hP hD dX3_errorCount_29 hw
  · have hw := hw.2 c2
    refine lv_aload_n hx hb dX3_errorCount_11 rfl (lv_at hl 0 rfl) ?_
    refine va_get (ci := 3) (v := .ref a.2.2.2.2) (C := RX3) (T := TX3) (N := 6) hx hb hts hiX3 hown hK.1 hP 0 rfl rfl 4 (by decide) f0 (fun _ h9 => h9) rfl dX3_errorCount_12 ?_
    refine lv_bipush (v := (-2)) hx hb dX3_errorCount_15 (by decide) ?_
    refine lv_iload_n hx hb dX3_errorCount_17 rfl (lv_at hl 1 rfl) ?_
    refine lv_isub hx hb dX3_errorCount_18 ?_
    obtain ⟨h5, hw⟩ := hw
    refine va_iald hx hb hK.1 hP 1 0 rfl rfl h5 dX3_errorCount_19 ?_
    refine lv_goto (tgt := 29) hx hb dX3_errorCount_20 (by decide) ?_
    exact m_iret (u := x) hx hb hr hlocks hS hP hD dX3_errorCount_29 hw
def qX3_mix (x : Mod) (p1 : Int64) (Q : Mod → Prop) : Prop := Q (mN x, mA x, mP x, mS x, mE x, (31 * (mH x)) + p1)
set_option maxHeartbeats 4000000 in
set_option maxRecDepth 100000 in
theorem kX3_mix (l : Launch) (D : va_G) (I O : ClassId) (a : MA) (sz : Nat) (x : Mod) (p1 : Int64) (Q : Mod → Prop) (hw : qX3_mix x p1 Q) : Met l yX3_mix wsX3_mix rX3_mix (mPc D I O [.ref a.1, .long p1] (mdlW I a x) sz) (va_Qv (fun (u : Mod) => Q u) (mB D (va_A (mdlW I a x) sz) (fun u => mdlW I a u)) (va_A (mdlW I a x) sz)) 0 0 (va_A (mdlW I a x) sz) := by
  refine m_start (by decide) rfl (Nat.le_of_ble_eq_true rfl) (fun p e s m below meth c ls H locs hx hb hr hml hts hown hlocks hnm hK hP hD hA hS hl => ?_)
  have hown : s.vm.findClass RX3 = some m.cls := hown
  have hl : lv_has ls 3 [(0, .ref a.1), (1, .long p1)] := hl
  have hiX3 : ∀ w ∈ wsX30, w ∈ wsX3_mix := by decide +kernel
  have f0 := hts (.constantLong RX3 109 (31)) (by decide +kernel)
  have f1 := hts (.fieldLink RX3 111 "WellControlModel" "hash" "J") (by decide +kernel)
  unfold qX3_mix at hw
  refine lv_aload_n hx hb dX3_mix_0 rfl (lv_at hl 0 rfl) ?_
  refine lv_ldc2 (v := 31) hx hb hown f0 dX3_mix_1 ?_
  refine lv_aload_n hx hb dX3_mix_4 rfl (lv_at hl 0 rfl) ?_
  refine va_get (ci := 3) (v := .long (mH x)) (C := RX3) (T := TX3) (N := 6) hx hb hts hiX3 hown hK.1 hP 0 rfl rfl 5 (by decide) f1 (fun _ h9 => h9) rfl dX3_mix_5 ?_
  refine lv_lmul hx hb dX3_mix_8 ?_
  refine lv_lload_n hx hb dX3_mix_9 rfl (lv_at hl 1 rfl) ?_
  refine lv_ladd hx hb dX3_mix_10 ?_
  refine va_put (ci := 3) (v := .long ((31 * (mH x)) + p1)) (ty := .long) (C := RX3) (T := TX3) (N := 6) hx hb hts hiX3 tyX3 tyX3_ok nmX3 hown hK.1 hP hD hS 0 rfl rfl 5 (by decide) f1 (fun _ h9 => h9) rfl (by decide +kernel) rfl rfl (Nat.le_of_ble_eq_true rfl) dX3_mix_11 (fun H locs hP hD hS => ?_)
  have hP : va_P D vwCl (mdlW I a (mN x, mA x, mP x, mS x, mE x, (31 * (mH x)) + p1)) H := hP
  have hD : va_D (va_A (mdlW I a x) sz) (mdlW I a (mN x, mA x, mP x, mS x, mE x, (31 * (mH x)) + p1)) := hD
  exact m_vret (u := (mN x, mA x, mP x, mS x, mE x, (31 * (mH x)) + p1)) hx hb hr hlocks hS hP hD dX3_mix_14 hw
def qX3_digest_L79  (K32 : Int32 → Mod → Prop) : Nat → Int32 → Mod → Prop
  | 0, _, _ => False
  | n34 + 1, i30, w31 => ((((mN w31) (Int32.toNatClampNeg 11)) ≤ i30 → K32 i30 w31) ∧ (¬ ((mN w31) (Int32.toNatClampNeg 11)) ≤ i30 → (qX3_volumeAt 0 i30 (fun r37 => (vp_in r37 4416 ∧ (qX3_mix w31 (Int32.toInt64 ((mN w31) (Int32.toNatClampNeg r37))) (fun u39 => (qX3_densityAt 0 i30 (fun r40 => (vp_in r40 4416 ∧ (qX3_mix u39 (Int32.toInt64 ((mN u39) (Int32.toNatClampNeg r40))) (fun u42 => qX3_digest_L79 K32 n34 (i30 + 1) u42))))))))))))
def qX3_digest_L79b  (K48 : Int32 → Mod → Prop) : Nat → Int32 → Mod → Prop
  | 0, _, _ => False
  | n50 + 1, i46, w47 => ((((mN w47) (Int32.toNatClampNeg 12)) ≤ i46 → K48 i46 w47) ∧ (¬ ((mN w47) (Int32.toNatClampNeg 12)) ≤ i46 → (qX3_volumeAt 1 i46 (fun r53 => (vp_in r53 4416 ∧ (qX3_mix w47 (Int32.toInt64 ((mN w47) (Int32.toNatClampNeg r53))) (fun u55 => (qX3_densityAt 1 i46 (fun r56 => (vp_in r56 4416 ∧ (qX3_mix u55 (Int32.toInt64 ((mN u55) (Int32.toNatClampNeg r56))) (fun u58 => qX3_digest_L79b K48 n50 (i46 + 1) u58))))))))))))
def qX3_digest (x : Mod) (Q : Int64 → Mod → Prop) : Prop := (qX3_mix (mN x, mA x, mP x, mS x, mE x, 2693) (Int32.toInt64 ((mE x) (Int32.toNatClampNeg 0))) (fun u2 => (qX3_mix u2 (Int32.toInt64 ((mE u2) (Int32.toNatClampNeg 1))) (fun u4 => (qX3_mix u4 (Int32.toInt64 ((mE u4) (Int32.toNatClampNeg 2))) (fun u6 => (qX3_mix u6 (Int32.toInt64 ((mE u6) (Int32.toNatClampNeg 3))) (fun u8 => (qX3_mix u8 (Int32.toInt64 ((mN u8) (Int32.toNatClampNeg 0))) (fun u11 => (qX3_mix u11 (Int32.toInt64 ((mN u11) (Int32.toNatClampNeg 1))) (fun u13 => (qX3_mix u13 (Int32.toInt64 ((mN u13) (Int32.toNatClampNeg 2))) (fun u15 => (qX3_mix u15 (Int32.toInt64 ((mN u15) (Int32.toNatClampNeg 3))) (fun u17 => (qX3_mix u17 (Int32.toInt64 ((mN u17) (Int32.toNatClampNeg 4))) (fun u19 => (qX3_mix u19 (Int32.toInt64 ((mN u19) (Int32.toNatClampNeg 5))) (fun u21 => (qX3_mix u21 (Int32.toInt64 ((mN u21) (Int32.toNatClampNeg 6))) (fun u23 => (qX3_mix u23 (Int32.toInt64 ((mN u23) (Int32.toNatClampNeg 7))) (fun u25 => (qX3_mix u25 (Int32.toInt64 ((mN u25) (Int32.toNatClampNeg 11))) (fun u28 => (∃ n29, qX3_digest_L79 (fun i30 w31 => (qX3_mix w31 (Int32.toInt64 ((mN w31) (Int32.toNatClampNeg 12))) (fun u44 => (∃ n45, qX3_digest_L79b (fun i46 w47 => (qX3_lacking w47 0 (fun r60 => (qX3_mix w47 (Int32.toInt64 r60) (fun u61 => (qX3_lacking u61 1 (fun r62 => (qX3_mix u61 (Int32.toInt64 r62) (fun u63 => (qX3_lacking u63 0 (fun r64 => (qX3_mix u63 (Int32.toInt64 (((mN u63) (Int32.toNatClampNeg 6)) + r64)) (fun u65 => (qX3_atShoe u65 (fun r66 => (qX3_mix u65 (Int32.toInt64 r66) (fun u67 => (qX3_mix u67 (Int32.toInt64 ((mN u67) (Int32.toNatClampNeg 8))) (fun u69 => (qX3_mix u69 (Int32.toInt64 ((mN u69) (Int32.toNatClampNeg 9))) (fun u71 => (qX3_mix u71 (Int32.toInt64 ((mN u71) (Int32.toNatClampNeg 10))) (fun u73 => (qX3_mix u73 (Int32.toInt64 (mS u73)) (fun u75 => Q (mH u75) u75))))))))))))))))))))))))) n45 0 u44)))) n29 0 u28)))))))))))))))))))))))))))
set_option maxHeartbeats 4000000 in
set_option maxRecDepth 100000 in
theorem kX3_digest (l : Launch) (D : va_G) (I O : ClassId) (a : MA) (sz : Nat) (x : Mod) (Q : Int64 → Mod → Prop) (hw : qX3_digest x Q) : Met l yX3_digest wsX3_digest rX3_digest (mPc D I O [.ref a.1] (mdlW I a x) sz) (va_Ql (fun r (u : Mod) => Q r u) (mB D (va_A (mdlW I a x) sz) (fun u => mdlW I a u)) (va_A (mdlW I a x) sz)) 0 0 (va_A (mdlW I a x) sz) := by
  refine m_start (by decide) rfl (Nat.le_of_ble_eq_true rfl) (fun p e s m below meth c ls H locs hx hb hr hml hts hown hlocks hnm hK hP hD hA hS hl => ?_)
  have hown : s.vm.findClass RX3 = some m.cls := hown
  have hl : lv_has ls 3 [(0, .ref a.1)] := hl
  have hiX3 : ∀ w ∈ wsX30, w ∈ wsX3_digest := by decide +kernel
  have f0 := hts (.constantLong RX3 115 (2693)) (by decide +kernel)
  have f1 := hts (.fieldLink RX3 111 "WellControlModel" "hash" "J") (by decide +kernel)
  have f2 := hts (.fieldLink RX3 19 "WellControlModel" "errors" "[I") (by decide +kernel)
  have f3 := hts (.fieldLink RX3 7 "WellControlModel" "now" "[I") (by decide +kernel)
  have f4 := hts (.fieldLink RX3 25 "WellControlModel" "states" "I") (by decide +kernel)
  unfold qX3_digest at hw
  refine lv_aload_n hx hb dX3_digest_0 rfl (lv_at hl 0 rfl) ?_
  refine lv_ldc2 (v := 2693) hx hb hown f0 dX3_digest_1 ?_
  refine va_put (ci := 3) (v := .long 2693) (ty := .long) (C := RX3) (T := TX3) (N := 6) hx hb hts hiX3 tyX3 tyX3_ok nmX3 hown hK.1 hP hD hS 0 rfl rfl 5 (by decide) f1 (fun _ h9 => h9) rfl (by decide +kernel) rfl rfl (Nat.le_of_ble_eq_true rfl) dX3_digest_4 (fun H locs hP hD hS => ?_)
  have hP : va_P D vwCl (mdlW I a (mN x, mA x, mP x, mS x, mE x, 2693)) H := hP
  have hD : va_D (va_A (mdlW I a x) sz) (mdlW I a (mN x, mA x, mP x, mS x, mE x, 2693)) := hD
  refine lv_iconst (v := 0) hx hb dX3_digest_7 (by decide) ?_
  refine lv_istore_n (lv' := [(1, .int 0), (0, .ref a.1)]) hx hb dX3_digest_8 rfl hl (by decide) rfl (fun ls hl => ?_)
  refine lv_iload_n hx hb dX3_digest_9 rfl (lv_at hl 0 rfl) ?_
  refine lv_iconst (v := 4) hx hb dX3_digest_10 (by decide) ?_
  refine lv_icmp_ge (tgt := 31) hx hb dX3_digest_11 (by decide) (fun c1 => ?_) (fun c1 => ?_)
  · exact absurd c1 (show ¬ ((4 : Int32) ≤ (0 : Int32)) from by decide)
  · refine lv_aload_n hx hb dX3_digest_14 rfl (lv_at hl 1 rfl) ?_
    refine lv_aload_n hx hb dX3_digest_15 rfl (lv_at hl 1 rfl) ?_
    refine va_get (ci := 3) (v := .ref a.2.2.2.2) (C := RX3) (T := TX3) (N := 6) hx hb hts hiX3 hown hK.1 hP 0 rfl rfl 4 (by decide) f2 (fun _ h9 => h9) rfl dX3_digest_16 ?_
    refine lv_iload_n hx hb dX3_digest_19 rfl (lv_at hl 0 rfl) ?_
    refine va_iald hx hb hK.1 hP 1 0 rfl rfl (vp_c 0 4 (by decide)) dX3_digest_20 ?_
    refine lv_i2l (v := Int32.toInt64 ((mE x) (Int32.toNatClampNeg 0))) hx hb dX3_digest_21 rfl ?_
    refine mw_v (mv_V (As := [.long (Int32.toInt64 ((mE x) (Int32.toNatClampNeg 0)))]) (rest := []) ⟨hx, hb, hml, hown, hts⟩ (kX3_mix l D I O a H.size (mN x, mA x, mP x, mS x, mE x, 2693) (Int32.toInt64 ((mE x) (Int32.toNatClampNeg 0))) _ hw) (cwV 1 hts gX3_digest_X3_mix rfl rfl rfl hdVX3_mix ⟨(Nat.le_of_ble_eq_true rfl), (Nat.le_of_ble_eq_true rfl)⟩) hK hP hD 0 3 rfl rfl rfl rfl hl.1 rfl (Nat.le_of_ble_eq_true rfl) dX3_digest_22 ⟨(Nat.le_of_ble_eq_true rfl), (Nat.le_of_ble_eq_true rfl)⟩) hP hD hS hA (fun u2 H locs hw hP hD hS => ?_)
    have hP : va_P D vwCl (mdlW I a u2) H := hP
    have hD : va_D (va_A (mdlW I a x) sz) (mdlW I a u2) := hD
    refine lv_iinc (v := 1) (lv' := [(1, .int 1), (0, .ref a.1)]) hx hb dX3_digest_25 hl (k := 0) rfl (by decide) (by decide) rfl (fun ls hl => ?_)
    refine lv_goto (tgt := 9) hx hb dX3_digest_28 (by decide) ?_
    refine lv_iload_n hx hb dX3_digest_9 rfl (lv_at hl 0 rfl) ?_
    refine lv_iconst (v := 4) hx hb dX3_digest_10 (by decide) ?_
    refine lv_icmp_ge (tgt := 31) hx hb dX3_digest_11 (by decide) (fun c3 => ?_) (fun c3 => ?_)
    · exact absurd c3 (show ¬ ((4 : Int32) ≤ (1 : Int32)) from by decide)
    · refine lv_aload_n hx hb dX3_digest_14 rfl (lv_at hl 1 rfl) ?_
      refine lv_aload_n hx hb dX3_digest_15 rfl (lv_at hl 1 rfl) ?_
      refine va_get (ci := 3) (v := .ref a.2.2.2.2) (C := RX3) (T := TX3) (N := 6) hx hb hts hiX3 hown hK.1 hP 0 rfl rfl 4 (by decide) f2 (fun _ h9 => h9) rfl dX3_digest_16 ?_
      refine lv_iload_n hx hb dX3_digest_19 rfl (lv_at hl 0 rfl) ?_
      refine va_iald hx hb hK.1 hP 1 0 rfl rfl (vp_c 1 4 (by decide)) dX3_digest_20 ?_
      refine lv_i2l (v := Int32.toInt64 ((mE u2) (Int32.toNatClampNeg 1))) hx hb dX3_digest_21 rfl ?_
      refine mw_v (mv_V (As := [.long (Int32.toInt64 ((mE u2) (Int32.toNatClampNeg 1)))]) (rest := []) ⟨hx, hb, hml, hown, hts⟩ (kX3_mix l D I O a H.size u2 (Int32.toInt64 ((mE u2) (Int32.toNatClampNeg 1))) _ hw) (cwV 1 hts gX3_digest_X3_mix rfl rfl rfl hdVX3_mix ⟨(Nat.le_of_ble_eq_true rfl), (Nat.le_of_ble_eq_true rfl)⟩) hK hP hD 0 3 rfl rfl rfl rfl hl.1 rfl (Nat.le_of_ble_eq_true rfl) dX3_digest_22 ⟨(Nat.le_of_ble_eq_true rfl), (Nat.le_of_ble_eq_true rfl)⟩) hP hD hS hA (fun u4 H locs hw hP hD hS => ?_)
      have hP : va_P D vwCl (mdlW I a u4) H := hP
      have hD : va_D (va_A (mdlW I a x) sz) (mdlW I a u4) := hD
      refine lv_iinc (v := 2) (lv' := [(1, .int 2), (0, .ref a.1)]) hx hb dX3_digest_25 hl (k := 0) rfl (by decide) (by decide) rfl (fun ls hl => ?_)
      refine lv_goto (tgt := 9) hx hb dX3_digest_28 (by decide) ?_
      refine lv_iload_n hx hb dX3_digest_9 rfl (lv_at hl 0 rfl) ?_
      refine lv_iconst (v := 4) hx hb dX3_digest_10 (by decide) ?_
      refine lv_icmp_ge (tgt := 31) hx hb dX3_digest_11 (by decide) (fun c5 => ?_) (fun c5 => ?_)
      · exact absurd c5 (show ¬ ((4 : Int32) ≤ (2 : Int32)) from by decide)
      · refine lv_aload_n hx hb dX3_digest_14 rfl (lv_at hl 1 rfl) ?_
        refine lv_aload_n hx hb dX3_digest_15 rfl (lv_at hl 1 rfl) ?_
        refine va_get (ci := 3) (v := .ref a.2.2.2.2) (C := RX3) (T := TX3) (N := 6) hx hb hts hiX3 hown hK.1 hP 0 rfl rfl 4 (by decide) f2 (fun _ h9 => h9) rfl dX3_digest_16 ?_
        refine lv_iload_n hx hb dX3_digest_19 rfl (lv_at hl 0 rfl) ?_
        refine va_iald hx hb hK.1 hP 1 0 rfl rfl (vp_c 2 4 (by decide)) dX3_digest_20 ?_
        refine lv_i2l (v := Int32.toInt64 ((mE u4) (Int32.toNatClampNeg 2))) hx hb dX3_digest_21 rfl ?_
        refine mw_v (mv_V (As := [.long (Int32.toInt64 ((mE u4) (Int32.toNatClampNeg 2)))]) (rest := []) ⟨hx, hb, hml, hown, hts⟩ (kX3_mix l D I O a H.size u4 (Int32.toInt64 ((mE u4) (Int32.toNatClampNeg 2))) _ hw) (cwV 1 hts gX3_digest_X3_mix rfl rfl rfl hdVX3_mix ⟨(Nat.le_of_ble_eq_true rfl), (Nat.le_of_ble_eq_true rfl)⟩) hK hP hD 0 3 rfl rfl rfl rfl hl.1 rfl (Nat.le_of_ble_eq_true rfl) dX3_digest_22 ⟨(Nat.le_of_ble_eq_true rfl), (Nat.le_of_ble_eq_true rfl)⟩) hP hD hS hA (fun u6 H locs hw hP hD hS => ?_)
        have hP : va_P D vwCl (mdlW I a u6) H := hP
        have hD : va_D (va_A (mdlW I a x) sz) (mdlW I a u6) := hD
        refine lv_iinc (v := 3) (lv' := [(1, .int 3), (0, .ref a.1)]) hx hb dX3_digest_25 hl (k := 0) rfl (by decide) (by decide) rfl (fun ls hl => ?_)
        refine lv_goto (tgt := 9) hx hb dX3_digest_28 (by decide) ?_
        refine lv_iload_n hx hb dX3_digest_9 rfl (lv_at hl 0 rfl) ?_
        refine lv_iconst (v := 4) hx hb dX3_digest_10 (by decide) ?_
        refine lv_icmp_ge (tgt := 31) hx hb dX3_digest_11 (by decide) (fun c7 => ?_) (fun c7 => ?_)
        · exact absurd c7 (show ¬ ((4 : Int32) ≤ (3 : Int32)) from by decide)
        · refine lv_aload_n hx hb dX3_digest_14 rfl (lv_at hl 1 rfl) ?_
          refine lv_aload_n hx hb dX3_digest_15 rfl (lv_at hl 1 rfl) ?_
          refine va_get (ci := 3) (v := .ref a.2.2.2.2) (C := RX3) (T := TX3) (N := 6) hx hb hts hiX3 hown hK.1 hP 0 rfl rfl 4 (by decide) f2 (fun _ h9 => h9) rfl dX3_digest_16 ?_
          refine lv_iload_n hx hb dX3_digest_19 rfl (lv_at hl 0 rfl) ?_
          refine va_iald hx hb hK.1 hP 1 0 rfl rfl (vp_c 3 4 (by decide)) dX3_digest_20 ?_
          refine lv_i2l (v := Int32.toInt64 ((mE u6) (Int32.toNatClampNeg 3))) hx hb dX3_digest_21 rfl ?_
          refine mw_v (mv_V (As := [.long (Int32.toInt64 ((mE u6) (Int32.toNatClampNeg 3)))]) (rest := []) ⟨hx, hb, hml, hown, hts⟩ (kX3_mix l D I O a H.size u6 (Int32.toInt64 ((mE u6) (Int32.toNatClampNeg 3))) _ hw) (cwV 1 hts gX3_digest_X3_mix rfl rfl rfl hdVX3_mix ⟨(Nat.le_of_ble_eq_true rfl), (Nat.le_of_ble_eq_true rfl)⟩) hK hP hD 0 3 rfl rfl rfl rfl hl.1 rfl (Nat.le_of_ble_eq_true rfl) dX3_digest_22 ⟨(Nat.le_of_ble_eq_true rfl), (Nat.le_of_ble_eq_true rfl)⟩) hP hD hS hA (fun u8 H locs hw hP hD hS => ?_)
          have hP : va_P D vwCl (mdlW I a u8) H := hP
          have hD : va_D (va_A (mdlW I a x) sz) (mdlW I a u8) := hD
          refine lv_iinc (v := 4) (lv' := [(1, .int 4), (0, .ref a.1)]) hx hb dX3_digest_25 hl (k := 0) rfl (by decide) (by decide) rfl (fun ls hl => ?_)
          refine lv_goto (tgt := 9) hx hb dX3_digest_28 (by decide) ?_
          refine lv_iload_n hx hb dX3_digest_9 rfl (lv_at hl 0 rfl) ?_
          refine lv_iconst (v := 4) hx hb dX3_digest_10 (by decide) ?_
          refine lv_icmp_ge (tgt := 31) hx hb dX3_digest_11 (by decide) (fun c9 => ?_) (fun c9 => ?_)
          · refine lv_iconst (v := 0) hx hb dX3_digest_31 (by decide) ?_
            refine lv_istore_n (lv' := [(1, .int 0), (0, .ref a.1)]) hx hb dX3_digest_32 rfl hl (by decide) rfl (fun ls hl => ?_)
            refine lv_iload_n hx hb dX3_digest_33 rfl (lv_at hl 0 rfl) ?_
            refine lv_bipush (v := 7) hx hb dX3_digest_34 (by decide) ?_
            refine lv_icmp_gt (tgt := 56) hx hb dX3_digest_36 (by decide) (fun c10 => ?_) (fun c10 => ?_)
            · exact absurd c10 (show ¬ ((7 : Int32) < (0 : Int32)) from by decide)
            · refine lv_aload_n hx hb dX3_digest_39 rfl (lv_at hl 1 rfl) ?_
              refine lv_aload_n hx hb dX3_digest_40 rfl (lv_at hl 1 rfl) ?_
              refine va_get (ci := 3) (v := .ref a.2.1) (C := RX3) (T := TX3) (N := 6) hx hb hts hiX3 hown hK.1 hP 0 rfl rfl 0 (by decide) f3 (fun _ h9 => h9) rfl dX3_digest_41 ?_
              refine lv_iload_n hx hb dX3_digest_44 rfl (lv_at hl 0 rfl) ?_
              refine va_iald hx hb hK.1 hP 3 0 rfl rfl (vp_c 0 4416 (by decide)) dX3_digest_45 ?_
              refine lv_i2l (v := Int32.toInt64 ((mN u8) (Int32.toNatClampNeg 0))) hx hb dX3_digest_46 rfl ?_
              refine mw_v (mv_V (As := [.long (Int32.toInt64 ((mN u8) (Int32.toNatClampNeg 0)))]) (rest := []) ⟨hx, hb, hml, hown, hts⟩ (kX3_mix l D I O a H.size u8 (Int32.toInt64 ((mN u8) (Int32.toNatClampNeg 0))) _ hw) (cwV 1 hts gX3_digest_X3_mix rfl rfl rfl hdVX3_mix ⟨(Nat.le_of_ble_eq_true rfl), (Nat.le_of_ble_eq_true rfl)⟩) hK hP hD 0 3 rfl rfl rfl rfl hl.1 rfl (Nat.le_of_ble_eq_true rfl) dX3_digest_47 ⟨(Nat.le_of_ble_eq_true rfl), (Nat.le_of_ble_eq_true rfl)⟩) hP hD hS hA (fun u11 H locs hw hP hD hS => ?_)
              have hP : va_P D vwCl (mdlW I a u11) H := hP
              have hD : va_D (va_A (mdlW I a x) sz) (mdlW I a u11) := hD
              refine lv_iinc (v := 1) (lv' := [(1, .int 1), (0, .ref a.1)]) hx hb dX3_digest_50 hl (k := 0) rfl (by decide) (by decide) rfl (fun ls hl => ?_)
              refine lv_goto (tgt := 33) hx hb dX3_digest_53 (by decide) ?_
              refine lv_iload_n hx hb dX3_digest_33 rfl (lv_at hl 0 rfl) ?_
              refine lv_bipush (v := 7) hx hb dX3_digest_34 (by decide) ?_
              refine lv_icmp_gt (tgt := 56) hx hb dX3_digest_36 (by decide) (fun c12 => ?_) (fun c12 => ?_)
              · exact absurd c12 (show ¬ ((7 : Int32) < (1 : Int32)) from by decide)
              · refine lv_aload_n hx hb dX3_digest_39 rfl (lv_at hl 1 rfl) ?_
                refine lv_aload_n hx hb dX3_digest_40 rfl (lv_at hl 1 rfl) ?_
                refine va_get (ci := 3) (v := .ref a.2.1) (C := RX3) (T := TX3) (N := 6) hx hb hts hiX3 hown hK.1 hP 0 rfl rfl 0 (by decide) f3 (fun _ h9 => h9) rfl dX3_digest_41 ?_
                refine lv_iload_n hx hb dX3_digest_44 rfl (lv_at hl 0 rfl) ?_
                refine va_iald hx hb hK.1 hP 3 0 rfl rfl (vp_c 1 4416 (by decide)) dX3_digest_45 ?_
                refine lv_i2l (v := Int32.toInt64 ((mN u11) (Int32.toNatClampNeg 1))) hx hb dX3_digest_46 rfl ?_
                refine mw_v (mv_V (As := [.long (Int32.toInt64 ((mN u11) (Int32.toNatClampNeg 1)))]) (rest := []) ⟨hx, hb, hml, hown, hts⟩ (kX3_mix l D I O a H.size u11 (Int32.toInt64 ((mN u11) (Int32.toNatClampNeg 1))) _ hw) (cwV 1 hts gX3_digest_X3_mix rfl rfl rfl hdVX3_mix ⟨(Nat.le_of_ble_eq_true rfl), (Nat.le_of_ble_eq_true rfl)⟩) hK hP hD 0 3 rfl rfl rfl rfl hl.1 rfl (Nat.le_of_ble_eq_true rfl) dX3_digest_47 ⟨(Nat.le_of_ble_eq_true rfl), (Nat.le_of_ble_eq_true rfl)⟩) hP hD hS hA (fun u13 H locs hw hP hD hS => ?_)
                have hP : va_P D vwCl (mdlW I a u13) H := hP
                have hD : va_D (va_A (mdlW I a x) sz) (mdlW I a u13) := hD
                refine lv_iinc (v := 2) (lv' := [(1, .int 2), (0, .ref a.1)]) hx hb dX3_digest_50 hl (k := 0) rfl (by decide) (by decide) rfl (fun ls hl => ?_)
                refine lv_goto (tgt := 33) hx hb dX3_digest_53 (by decide) ?_
                refine lv_iload_n hx hb dX3_digest_33 rfl (lv_at hl 0 rfl) ?_
                refine lv_bipush (v := 7) hx hb dX3_digest_34 (by decide) ?_
                refine lv_icmp_gt (tgt := 56) hx hb dX3_digest_36 (by decide) (fun c14 => ?_) (fun c14 => ?_)
                · exact absurd c14 (show ¬ ((7 : Int32) < (2 : Int32)) from by decide)
                · refine lv_aload_n hx hb dX3_digest_39 rfl (lv_at hl 1 rfl) ?_
                  refine lv_aload_n hx hb dX3_digest_40 rfl (lv_at hl 1 rfl) ?_
                  refine va_get (ci := 3) (v := .ref a.2.1) (C := RX3) (T := TX3) (N := 6) hx hb hts hiX3 hown hK.1 hP 0 rfl rfl 0 (by decide) f3 (fun _ h9 => h9) rfl dX3_digest_41 ?_
                  refine lv_iload_n hx hb dX3_digest_44 rfl (lv_at hl 0 rfl) ?_
                  refine va_iald hx hb hK.1 hP 3 0 rfl rfl (vp_c 2 4416 (by decide)) dX3_digest_45 ?_
                  refine lv_i2l (v := Int32.toInt64 ((mN u13) (Int32.toNatClampNeg 2))) hx hb dX3_digest_46 rfl ?_
                  refine mw_v (mv_V (As := [.long (Int32.toInt64 ((mN u13) (Int32.toNatClampNeg 2)))]) (rest := []) ⟨hx, hb, hml, hown, hts⟩ (kX3_mix l D I O a H.size u13 (Int32.toInt64 ((mN u13) (Int32.toNatClampNeg 2))) _ hw) (cwV 1 hts gX3_digest_X3_mix rfl rfl rfl hdVX3_mix ⟨(Nat.le_of_ble_eq_true rfl), (Nat.le_of_ble_eq_true rfl)⟩) hK hP hD 0 3 rfl rfl rfl rfl hl.1 rfl (Nat.le_of_ble_eq_true rfl) dX3_digest_47 ⟨(Nat.le_of_ble_eq_true rfl), (Nat.le_of_ble_eq_true rfl)⟩) hP hD hS hA (fun u15 H locs hw hP hD hS => ?_)
                  have hP : va_P D vwCl (mdlW I a u15) H := hP
                  have hD : va_D (va_A (mdlW I a x) sz) (mdlW I a u15) := hD
                  refine lv_iinc (v := 3) (lv' := [(1, .int 3), (0, .ref a.1)]) hx hb dX3_digest_50 hl (k := 0) rfl (by decide) (by decide) rfl (fun ls hl => ?_)
                  refine lv_goto (tgt := 33) hx hb dX3_digest_53 (by decide) ?_
                  refine lv_iload_n hx hb dX3_digest_33 rfl (lv_at hl 0 rfl) ?_
                  refine lv_bipush (v := 7) hx hb dX3_digest_34 (by decide) ?_
                  refine lv_icmp_gt (tgt := 56) hx hb dX3_digest_36 (by decide) (fun c16 => ?_) (fun c16 => ?_)
                  · exact absurd c16 (show ¬ ((7 : Int32) < (3 : Int32)) from by decide)
                  · refine lv_aload_n hx hb dX3_digest_39 rfl (lv_at hl 1 rfl) ?_
                    refine lv_aload_n hx hb dX3_digest_40 rfl (lv_at hl 1 rfl) ?_
                    refine va_get (ci := 3) (v := .ref a.2.1) (C := RX3) (T := TX3) (N := 6) hx hb hts hiX3 hown hK.1 hP 0 rfl rfl 0 (by decide) f3 (fun _ h9 => h9) rfl dX3_digest_41 ?_
                    refine lv_iload_n hx hb dX3_digest_44 rfl (lv_at hl 0 rfl) ?_
                    refine va_iald hx hb hK.1 hP 3 0 rfl rfl (vp_c 3 4416 (by decide)) dX3_digest_45 ?_
                    refine lv_i2l (v := Int32.toInt64 ((mN u15) (Int32.toNatClampNeg 3))) hx hb dX3_digest_46 rfl ?_
                    refine mw_v (mv_V (As := [.long (Int32.toInt64 ((mN u15) (Int32.toNatClampNeg 3)))]) (rest := []) ⟨hx, hb, hml, hown, hts⟩ (kX3_mix l D I O a H.size u15 (Int32.toInt64 ((mN u15) (Int32.toNatClampNeg 3))) _ hw) (cwV 1 hts gX3_digest_X3_mix rfl rfl rfl hdVX3_mix ⟨(Nat.le_of_ble_eq_true rfl), (Nat.le_of_ble_eq_true rfl)⟩) hK hP hD 0 3 rfl rfl rfl rfl hl.1 rfl (Nat.le_of_ble_eq_true rfl) dX3_digest_47 ⟨(Nat.le_of_ble_eq_true rfl), (Nat.le_of_ble_eq_true rfl)⟩) hP hD hS hA (fun u17 H locs hw hP hD hS => ?_)
                    have hP : va_P D vwCl (mdlW I a u17) H := hP
                    have hD : va_D (va_A (mdlW I a x) sz) (mdlW I a u17) := hD
                    refine lv_iinc (v := 4) (lv' := [(1, .int 4), (0, .ref a.1)]) hx hb dX3_digest_50 hl (k := 0) rfl (by decide) (by decide) rfl (fun ls hl => ?_)
                    refine lv_goto (tgt := 33) hx hb dX3_digest_53 (by decide) ?_
                    refine lv_iload_n hx hb dX3_digest_33 rfl (lv_at hl 0 rfl) ?_
                    refine lv_bipush (v := 7) hx hb dX3_digest_34 (by decide) ?_
                    refine lv_icmp_gt (tgt := 56) hx hb dX3_digest_36 (by decide) (fun c18 => ?_) (fun c18 => ?_)
                    · exact absurd c18 (show ¬ ((7 : Int32) < (4 : Int32)) from by decide)
                    · refine lv_aload_n hx hb dX3_digest_39 rfl (lv_at hl 1 rfl) ?_
                      refine lv_aload_n hx hb dX3_digest_40 rfl (lv_at hl 1 rfl) ?_
                      refine va_get (ci := 3) (v := .ref a.2.1) (C := RX3) (T := TX3) (N := 6) hx hb hts hiX3 hown hK.1 hP 0 rfl rfl 0 (by decide) f3 (fun _ h9 => h9) rfl dX3_digest_41 ?_
                      refine lv_iload_n hx hb dX3_digest_44 rfl (lv_at hl 0 rfl) ?_
                      refine va_iald hx hb hK.1 hP 3 0 rfl rfl (vp_c 4 4416 (by decide)) dX3_digest_45 ?_
                      refine lv_i2l (v := Int32.toInt64 ((mN u17) (Int32.toNatClampNeg 4))) hx hb dX3_digest_46 rfl ?_
                      refine mw_v (mv_V (As := [.long (Int32.toInt64 ((mN u17) (Int32.toNatClampNeg 4)))]) (rest := []) ⟨hx, hb, hml, hown, hts⟩ (kX3_mix l D I O a H.size u17 (Int32.toInt64 ((mN u17) (Int32.toNatClampNeg 4))) _ hw) (cwV 1 hts gX3_digest_X3_mix rfl rfl rfl hdVX3_mix ⟨(Nat.le_of_ble_eq_true rfl), (Nat.le_of_ble_eq_true rfl)⟩) hK hP hD 0 3 rfl rfl rfl rfl hl.1 rfl (Nat.le_of_ble_eq_true rfl) dX3_digest_47 ⟨(Nat.le_of_ble_eq_true rfl), (Nat.le_of_ble_eq_true rfl)⟩) hP hD hS hA (fun u19 H locs hw hP hD hS => ?_)
                      have hP : va_P D vwCl (mdlW I a u19) H := hP
                      have hD : va_D (va_A (mdlW I a x) sz) (mdlW I a u19) := hD
                      refine lv_iinc (v := 5) (lv' := [(1, .int 5), (0, .ref a.1)]) hx hb dX3_digest_50 hl (k := 0) rfl (by decide) (by decide) rfl (fun ls hl => ?_)
                      refine lv_goto (tgt := 33) hx hb dX3_digest_53 (by decide) ?_
                      refine lv_iload_n hx hb dX3_digest_33 rfl (lv_at hl 0 rfl) ?_
                      refine lv_bipush (v := 7) hx hb dX3_digest_34 (by decide) ?_
                      refine lv_icmp_gt (tgt := 56) hx hb dX3_digest_36 (by decide) (fun c20 => ?_) (fun c20 => ?_)
                      · exact absurd c20 (show ¬ ((7 : Int32) < (5 : Int32)) from by decide)
                      · refine lv_aload_n hx hb dX3_digest_39 rfl (lv_at hl 1 rfl) ?_
                        refine lv_aload_n hx hb dX3_digest_40 rfl (lv_at hl 1 rfl) ?_
                        refine va_get (ci := 3) (v := .ref a.2.1) (C := RX3) (T := TX3) (N := 6) hx hb hts hiX3 hown hK.1 hP 0 rfl rfl 0 (by decide) f3 (fun _ h9 => h9) rfl dX3_digest_41 ?_
                        refine lv_iload_n hx hb dX3_digest_44 rfl (lv_at hl 0 rfl) ?_
                        refine va_iald hx hb hK.1 hP 3 0 rfl rfl (vp_c 5 4416 (by decide)) dX3_digest_45 ?_
                        refine lv_i2l (v := Int32.toInt64 ((mN u19) (Int32.toNatClampNeg 5))) hx hb dX3_digest_46 rfl ?_
                        refine mw_v (mv_V (As := [.long (Int32.toInt64 ((mN u19) (Int32.toNatClampNeg 5)))]) (rest := []) ⟨hx, hb, hml, hown, hts⟩ (kX3_mix l D I O a H.size u19 (Int32.toInt64 ((mN u19) (Int32.toNatClampNeg 5))) _ hw) (cwV 1 hts gX3_digest_X3_mix rfl rfl rfl hdVX3_mix ⟨(Nat.le_of_ble_eq_true rfl), (Nat.le_of_ble_eq_true rfl)⟩) hK hP hD 0 3 rfl rfl rfl rfl hl.1 rfl (Nat.le_of_ble_eq_true rfl) dX3_digest_47 ⟨(Nat.le_of_ble_eq_true rfl), (Nat.le_of_ble_eq_true rfl)⟩) hP hD hS hA (fun u21 H locs hw hP hD hS => ?_)
                        have hP : va_P D vwCl (mdlW I a u21) H := hP
                        have hD : va_D (va_A (mdlW I a x) sz) (mdlW I a u21) := hD
                        refine lv_iinc (v := 6) (lv' := [(1, .int 6), (0, .ref a.1)]) hx hb dX3_digest_50 hl (k := 0) rfl (by decide) (by decide) rfl (fun ls hl => ?_)
                        refine lv_goto (tgt := 33) hx hb dX3_digest_53 (by decide) ?_
                        refine lv_iload_n hx hb dX3_digest_33 rfl (lv_at hl 0 rfl) ?_
                        refine lv_bipush (v := 7) hx hb dX3_digest_34 (by decide) ?_
                        refine lv_icmp_gt (tgt := 56) hx hb dX3_digest_36 (by decide) (fun c22 => ?_) (fun c22 => ?_)
                        · exact absurd c22 (show ¬ ((7 : Int32) < (6 : Int32)) from by decide)
                        · refine lv_aload_n hx hb dX3_digest_39 rfl (lv_at hl 1 rfl) ?_
                          refine lv_aload_n hx hb dX3_digest_40 rfl (lv_at hl 1 rfl) ?_
                          refine va_get (ci := 3) (v := .ref a.2.1) (C := RX3) (T := TX3) (N := 6) hx hb hts hiX3 hown hK.1 hP 0 rfl rfl 0 (by decide) f3 (fun _ h9 => h9) rfl dX3_digest_41 ?_
                          refine lv_iload_n hx hb dX3_digest_44 rfl (lv_at hl 0 rfl) ?_
                          refine va_iald hx hb hK.1 hP 3 0 rfl rfl (vp_c 6 4416 (by decide)) dX3_digest_45 ?_
                          refine lv_i2l (v := Int32.toInt64 ((mN u21) (Int32.toNatClampNeg 6))) hx hb dX3_digest_46 rfl ?_
                          refine mw_v (mv_V (As := [.long (Int32.toInt64 ((mN u21) (Int32.toNatClampNeg 6)))]) (rest := []) ⟨hx, hb, hml, hown, hts⟩ (kX3_mix l D I O a H.size u21 (Int32.toInt64 ((mN u21) (Int32.toNatClampNeg 6))) _ hw) (cwV 1 hts gX3_digest_X3_mix rfl rfl rfl hdVX3_mix ⟨(Nat.le_of_ble_eq_true rfl), (Nat.le_of_ble_eq_true rfl)⟩) hK hP hD 0 3 rfl rfl rfl rfl hl.1 rfl (Nat.le_of_ble_eq_true rfl) dX3_digest_47 ⟨(Nat.le_of_ble_eq_true rfl), (Nat.le_of_ble_eq_true rfl)⟩) hP hD hS hA (fun u23 H locs hw hP hD hS => ?_)
                          have hP : va_P D vwCl (mdlW I a u23) H := hP
                          have hD : va_D (va_A (mdlW I a x) sz) (mdlW I a u23) := hD
                          refine lv_iinc (v := 7) (lv' := [(1, .int 7), (0, .ref a.1)]) hx hb dX3_digest_50 hl (k := 0) rfl (by decide) (by decide) rfl (fun ls hl => ?_)
                          refine lv_goto (tgt := 33) hx hb dX3_digest_53 (by decide) ?_
                          refine lv_iload_n hx hb dX3_digest_33 rfl (lv_at hl 0 rfl) ?_
                          refine lv_bipush (v := 7) hx hb dX3_digest_34 (by decide) ?_
                          refine lv_icmp_gt (tgt := 56) hx hb dX3_digest_36 (by decide) (fun c24 => ?_) (fun c24 => ?_)
                          · exact absurd c24 (show ¬ ((7 : Int32) < (7 : Int32)) from by decide)
                          · refine lv_aload_n hx hb dX3_digest_39 rfl (lv_at hl 1 rfl) ?_
                            refine lv_aload_n hx hb dX3_digest_40 rfl (lv_at hl 1 rfl) ?_
                            refine va_get (ci := 3) (v := .ref a.2.1) (C := RX3) (T := TX3) (N := 6) hx hb hts hiX3 hown hK.1 hP 0 rfl rfl 0 (by decide) f3 (fun _ h9 => h9) rfl dX3_digest_41 ?_
                            refine lv_iload_n hx hb dX3_digest_44 rfl (lv_at hl 0 rfl) ?_
                            refine va_iald hx hb hK.1 hP 3 0 rfl rfl (vp_c 7 4416 (by decide)) dX3_digest_45 ?_
                            refine lv_i2l (v := Int32.toInt64 ((mN u23) (Int32.toNatClampNeg 7))) hx hb dX3_digest_46 rfl ?_
                            refine mw_v (mv_V (As := [.long (Int32.toInt64 ((mN u23) (Int32.toNatClampNeg 7)))]) (rest := []) ⟨hx, hb, hml, hown, hts⟩ (kX3_mix l D I O a H.size u23 (Int32.toInt64 ((mN u23) (Int32.toNatClampNeg 7))) _ hw) (cwV 1 hts gX3_digest_X3_mix rfl rfl rfl hdVX3_mix ⟨(Nat.le_of_ble_eq_true rfl), (Nat.le_of_ble_eq_true rfl)⟩) hK hP hD 0 3 rfl rfl rfl rfl hl.1 rfl (Nat.le_of_ble_eq_true rfl) dX3_digest_47 ⟨(Nat.le_of_ble_eq_true rfl), (Nat.le_of_ble_eq_true rfl)⟩) hP hD hS hA (fun u25 H locs hw hP hD hS => ?_)
                            have hP : va_P D vwCl (mdlW I a u25) H := hP
                            have hD : va_D (va_A (mdlW I a x) sz) (mdlW I a u25) := hD
                            refine lv_iinc (v := 8) (lv' := [(1, .int 8), (0, .ref a.1)]) hx hb dX3_digest_50 hl (k := 0) rfl (by decide) (by decide) rfl (fun ls hl => ?_)
                            refine lv_goto (tgt := 33) hx hb dX3_digest_53 (by decide) ?_
                            refine lv_iload_n hx hb dX3_digest_33 rfl (lv_at hl 0 rfl) ?_
                            refine lv_bipush (v := 7) hx hb dX3_digest_34 (by decide) ?_
                            refine lv_icmp_gt (tgt := 56) hx hb dX3_digest_36 (by decide) (fun c26 => ?_) (fun c26 => ?_)
                            · refine lv_iconst (v := 0) hx hb dX3_digest_56 (by decide) ?_
                              refine lv_istore_n (lv' := [(1, .int 0), (0, .ref a.1)]) hx hb dX3_digest_57 rfl hl (by decide) rfl (fun ls hl => ?_)
                              refine lv_iload_n hx hb dX3_digest_58 rfl (lv_at hl 0 rfl) ?_
                              refine lv_iconst (v := 2) hx hb dX3_digest_59 (by decide) ?_
                              refine lv_icmp_ge (tgt := 134) hx hb dX3_digest_60 (by decide) (fun c27 => ?_) (fun c27 => ?_)
                              · exact absurd c27 (show ¬ ((2 : Int32) ≤ (0 : Int32)) from by decide)
                              · refine lv_aload_n hx hb dX3_digest_63 rfl (lv_at hl 1 rfl) ?_
                                refine lv_aload_n hx hb dX3_digest_64 rfl (lv_at hl 1 rfl) ?_
                                refine va_get (ci := 3) (v := .ref a.2.1) (C := RX3) (T := TX3) (N := 6) hx hb hts hiX3 hown hK.1 hP 0 rfl rfl 0 (by decide) f3 (fun _ h9 => h9) rfl dX3_digest_65 ?_
                                refine lv_bipush (v := 11) hx hb dX3_digest_68 (by decide) ?_
                                refine lv_iload_n hx hb dX3_digest_70 rfl (lv_at hl 0 rfl) ?_
                                refine lv_iadd hx hb dX3_digest_71 ?_
                                rw [show ((11 : Int32) + 0) = 11 from by decide]
                                refine va_iald hx hb hK.1 hP 3 0 rfl rfl (vp_c 11 4416 (by decide)) dX3_digest_72 ?_
                                refine lv_i2l (v := Int32.toInt64 ((mN u25) (Int32.toNatClampNeg 11))) hx hb dX3_digest_73 rfl ?_
                                refine mw_v (mv_V (As := [.long (Int32.toInt64 ((mN u25) (Int32.toNatClampNeg 11)))]) (rest := []) ⟨hx, hb, hml, hown, hts⟩ (kX3_mix l D I O a H.size u25 (Int32.toInt64 ((mN u25) (Int32.toNatClampNeg 11))) _ hw) (cwV 1 hts gX3_digest_X3_mix rfl rfl rfl hdVX3_mix ⟨(Nat.le_of_ble_eq_true rfl), (Nat.le_of_ble_eq_true rfl)⟩) hK hP hD 0 3 rfl rfl rfl rfl hl.1 rfl (Nat.le_of_ble_eq_true rfl) dX3_digest_74 ⟨(Nat.le_of_ble_eq_true rfl), (Nat.le_of_ble_eq_true rfl)⟩) hP hD hS hA (fun u28 H locs hw hP hD hS => ?_)
                                have hP : va_P D vwCl (mdlW I a u28) H := hP
                                have hD : va_D (va_A (mdlW I a x) sz) (mdlW I a u28) := hD
                                refine lv_iconst (v := 0) hx hb dX3_digest_77 (by decide) ?_
                                refine lv_istore_n (lv' := [(2, .int 0), (1, .int 0), (0, .ref a.1)]) hx hb dX3_digest_78 rfl hl (by decide) rfl (fun ls hl => ?_)
                                obtain ⟨n29, hw⟩ := hw
                                have ky35 : ∀ (K32 : Int32 → Mod → Prop) (_ : ∀ (i30 : Int32) (w31 : Mod) (H : Heap) (locs : List Loc) (ls : Array Slot), va_P D vwCl (mdlW I a w31) H → va_D (va_A (mdlW I a x) sz) (mdlW I a w31) → va_S (va_A (mdlW I a x) sz) s.heap H locs → lv_has ls 3 [(2, .int i30), (1, .int 0), (0, .ref a.1)] → K32 i30 w31 → W p l e rX3_digest s m ([.ref a.1] : List Value).toArray below meth c H locs 0 0 (MQ below (va_Ql (fun r (u : Mod) => Q r u) (mB D (va_A (mdlW I a x) sz) (fun u => mdlW I a u)) (va_A (mdlW I a x) sz)) ([.ref a.1] : List Value).toArray s 0 0 (va_A (mdlW I a x) sz)) (F0 m 128 ls [])) (n34 : Nat) (i30 : Int32) (w31 : Mod) (H : Heap) (locs : List Loc) (ls : Array Slot), va_P D vwCl (mdlW I a w31) H → va_D (va_A (mdlW I a x) sz) (mdlW I a w31) → va_S (va_A (mdlW I a x) sz) s.heap H locs → lv_has ls 3 [(2, .int i30), (1, .int 0), (0, .ref a.1)] → qX3_digest_L79 K32 n34 i30 w31 → W p l e rX3_digest s m ([.ref a.1] : List Value).toArray below meth c H locs 0 0 (MQ below (va_Ql (fun r (u : Mod) => Q r u) (mB D (va_A (mdlW I a x) sz) (fun u => mdlW I a u)) (va_A (mdlW I a x) sz)) ([.ref a.1] : List Value).toArray s 0 0 (va_A (mdlW I a x) sz)) (F0 m 79 ls []) := by
                                  intro K32 hx33 n34
                                  induction n34 with
                                  | zero =>
                                    intro i30 w31 H locs ls hP hD hS hl hw
                                    exact hw.elim
                                  | succ n34 ihn34 =>
                                    intro i30 w31 H locs ls hP hD hS hl hw
                                    unfold qX3_digest_L79 at hw
                                    refine lv_iload_n hx hb dX3_digest_79 rfl (lv_at hl 0 rfl) ?_
                                    refine lv_aload_n hx hb dX3_digest_80 rfl (lv_at hl 2 rfl) ?_
                                    refine va_get (ci := 3) (v := .ref a.2.1) (C := RX3) (T := TX3) (N := 6) hx hb hts hiX3 hown hK.1 hP 0 rfl rfl 0 (by decide) f3 (fun _ h9 => h9) rfl dX3_digest_81 ?_
                                    refine lv_bipush (v := 11) hx hb dX3_digest_84 (by decide) ?_
                                    refine lv_iload_n hx hb dX3_digest_86 rfl (lv_at hl 1 rfl) ?_
                                    refine lv_iadd hx hb dX3_digest_87 ?_
                                    rw [show ((11 : Int32) + 0) = 11 from by decide]
                                    refine va_iald hx hb hK.1 hP 3 0 rfl rfl (vp_c 11 4416 (by decide)) dX3_digest_88 ?_
                                    refine lv_icmp_ge (tgt := 128) hx hb dX3_digest_89 (by decide) (fun c36 => ?_) (fun c36 => ?_)
                                    · have hw := hw.1 c36
                                      exact hx33 i30 w31 H locs ls hP hD hS (lv_sub hl [0, 1, 2] rfl) hw
                                    · have hw := hw.2 c36
                                      refine lv_aload_n hx hb dX3_digest_92 rfl (lv_at hl 2 rfl) ?_
                                      refine lv_aload_n hx hb dX3_digest_93 rfl (lv_at hl 2 rfl) ?_
                                      refine va_get (ci := 3) (v := .ref a.2.1) (C := RX3) (T := TX3) (N := 6) hx hb hts hiX3 hown hK.1 hP 0 rfl rfl 0 (by decide) f3 (fun _ h9 => h9) rfl dX3_digest_94 ?_
                                      refine lv_iload_n hx hb dX3_digest_97 rfl (lv_at hl 1 rfl) ?_
                                      refine lv_iload_n hx hb dX3_digest_98 rfl (lv_at hl 0 rfl) ?_
                                      refine m0_i (mv_S (As := [.int 0, .int i30]) (rest := [.ref a.2.1, .ref a.1]) ⟨hx, hb, hml, hown, hts⟩ (kX3_volumeAt l D I O H.size 0 i30 _ hw) (va_cwS 2 hts gX3_digest_X3_volumeAt rfl rfl rfl hdSX3_volumeAt ⟨(Nat.le_of_ble_eq_true rfl), (Nat.le_of_ble_eq_true rfl)⟩) hK (nil_P (D := D) (H := H)) (nil_D (A := va_A (mdlW I a x) sz)) rfl hl.1 rfl (Nat.le_of_ble_eq_true rfl) dX3_digest_99 ⟨(Nat.le_of_ble_eq_true rfl), (Nat.le_of_ble_eq_true rfl)⟩) hP hD hS hA (fun r37 _ H locs hw hP hD hS => ?_)
                                      obtain ⟨h38, hw⟩ := hw
                                      refine va_iald hx hb hK.1 hP 3 0 rfl rfl h38 dX3_digest_102 ?_
                                      refine lv_i2l (v := Int32.toInt64 ((mN w31) (Int32.toNatClampNeg r37))) hx hb dX3_digest_103 rfl ?_
                                      refine mw_v (mv_V (As := [.long (Int32.toInt64 ((mN w31) (Int32.toNatClampNeg r37)))]) (rest := []) ⟨hx, hb, hml, hown, hts⟩ (kX3_mix l D I O a H.size w31 (Int32.toInt64 ((mN w31) (Int32.toNatClampNeg r37))) _ hw) (cwV 1 hts gX3_digest_X3_mix rfl rfl rfl hdVX3_mix ⟨(Nat.le_of_ble_eq_true rfl), (Nat.le_of_ble_eq_true rfl)⟩) hK hP hD 0 3 rfl rfl rfl rfl hl.1 rfl (Nat.le_of_ble_eq_true rfl) dX3_digest_104 ⟨(Nat.le_of_ble_eq_true rfl), (Nat.le_of_ble_eq_true rfl)⟩) hP hD hS hA (fun u39 H locs hw hP hD hS => ?_)
                                      have hP : va_P D vwCl (mdlW I a u39) H := hP
                                      have hD : va_D (va_A (mdlW I a x) sz) (mdlW I a u39) := hD
                                      refine lv_aload_n hx hb dX3_digest_107 rfl (lv_at hl 2 rfl) ?_
                                      refine lv_aload_n hx hb dX3_digest_108 rfl (lv_at hl 2 rfl) ?_
                                      refine va_get (ci := 3) (v := .ref a.2.1) (C := RX3) (T := TX3) (N := 6) hx hb hts hiX3 hown hK.1 hP 0 rfl rfl 0 (by decide) f3 (fun _ h9 => h9) rfl dX3_digest_109 ?_
                                      refine lv_iload_n hx hb dX3_digest_112 rfl (lv_at hl 1 rfl) ?_
                                      refine lv_iload_n hx hb dX3_digest_113 rfl (lv_at hl 0 rfl) ?_
                                      refine m0_i (mv_S (As := [.int 0, .int i30]) (rest := [.ref a.2.1, .ref a.1]) ⟨hx, hb, hml, hown, hts⟩ (kX3_densityAt l D I O H.size 0 i30 _ hw) (va_cwS 2 hts gX3_digest_X3_densityAt rfl rfl rfl hdSX3_densityAt ⟨(Nat.le_of_ble_eq_true rfl), (Nat.le_of_ble_eq_true rfl)⟩) hK (nil_P (D := D) (H := H)) (nil_D (A := va_A (mdlW I a x) sz)) rfl hl.1 rfl (Nat.le_of_ble_eq_true rfl) dX3_digest_114 ⟨(Nat.le_of_ble_eq_true rfl), (Nat.le_of_ble_eq_true rfl)⟩) hP hD hS hA (fun r40 _ H locs hw hP hD hS => ?_)
                                      obtain ⟨h41, hw⟩ := hw
                                      refine va_iald hx hb hK.1 hP 3 0 rfl rfl h41 dX3_digest_117 ?_
                                      refine lv_i2l (v := Int32.toInt64 ((mN u39) (Int32.toNatClampNeg r40))) hx hb dX3_digest_118 rfl ?_
                                      refine mw_v (mv_V (As := [.long (Int32.toInt64 ((mN u39) (Int32.toNatClampNeg r40)))]) (rest := []) ⟨hx, hb, hml, hown, hts⟩ (kX3_mix l D I O a H.size u39 (Int32.toInt64 ((mN u39) (Int32.toNatClampNeg r40))) _ hw) (cwV 1 hts gX3_digest_X3_mix rfl rfl rfl hdVX3_mix ⟨(Nat.le_of_ble_eq_true rfl), (Nat.le_of_ble_eq_true rfl)⟩) hK hP hD 0 3 rfl rfl rfl rfl hl.1 rfl (Nat.le_of_ble_eq_true rfl) dX3_digest_119 ⟨(Nat.le_of_ble_eq_true rfl), (Nat.le_of_ble_eq_true rfl)⟩) hP hD hS hA (fun u42 H locs hw hP hD hS => ?_)
                                      have hP : va_P D vwCl (mdlW I a u42) H := hP
                                      have hD : va_D (va_A (mdlW I a x) sz) (mdlW I a u42) := hD
                                      refine lv_iinc (v := i30 + 1) (lv' := [(2, .int (i30 + 1)), (1, .int 0), (0, .ref a.1)]) hx hb dX3_digest_122 hl (k := 0) rfl (congrArg (fun z => i30 + z) (show Int32.ofInt 1 = 1 from by decide)) (by decide) rfl (fun ls hl => ?_)
                                      refine lv_goto (tgt := 79) hx hb dX3_digest_125 (by decide) ?_
                                      exact ihn34 (i30 + 1) u42 H locs ls hP hD hS (lv_sub hl [0, 1, 2] rfl) hw
                                refine ky35 _ (fun i30 w31 H locs ls hP hD hS hl hw => ?_) n29 0 u28 H locs ls hP hD hS (lv_sub hl [0, 1, 2] rfl) hw
                                refine lv_iinc (v := 1) (lv' := [(1, .int 1), (2, .int i30), (0, .ref a.1)]) hx hb dX3_digest_128 hl (k := 1) rfl (by decide) (by decide) rfl (fun ls hl => ?_)
                                refine lv_goto (tgt := 58) hx hb dX3_digest_131 (by decide) ?_
                                refine lv_iload_n hx hb dX3_digest_58 rfl (lv_at hl 0 rfl) ?_
                                refine lv_iconst (v := 2) hx hb dX3_digest_59 (by decide) ?_
                                refine lv_icmp_ge (tgt := 134) hx hb dX3_digest_60 (by decide) (fun c43 => ?_) (fun c43 => ?_)
                                · exact absurd c43 (show ¬ ((2 : Int32) ≤ (1 : Int32)) from by decide)
                                · refine lv_aload_n hx hb dX3_digest_63 rfl (lv_at hl 2 rfl) ?_
                                  refine lv_aload_n hx hb dX3_digest_64 rfl (lv_at hl 2 rfl) ?_
                                  refine va_get (ci := 3) (v := .ref a.2.1) (C := RX3) (T := TX3) (N := 6) hx hb hts hiX3 hown hK.1 hP 0 rfl rfl 0 (by decide) f3 (fun _ h9 => h9) rfl dX3_digest_65 ?_
                                  refine lv_bipush (v := 11) hx hb dX3_digest_68 (by decide) ?_
                                  refine lv_iload_n hx hb dX3_digest_70 rfl (lv_at hl 0 rfl) ?_
                                  refine lv_iadd hx hb dX3_digest_71 ?_
                                  rw [show ((11 : Int32) + 1) = 12 from by decide]
                                  refine va_iald hx hb hK.1 hP 3 0 rfl rfl (vp_c 12 4416 (by decide)) dX3_digest_72 ?_
                                  refine lv_i2l (v := Int32.toInt64 ((mN w31) (Int32.toNatClampNeg 12))) hx hb dX3_digest_73 rfl ?_
                                  refine mw_v (mv_V (As := [.long (Int32.toInt64 ((mN w31) (Int32.toNatClampNeg 12)))]) (rest := []) ⟨hx, hb, hml, hown, hts⟩ (kX3_mix l D I O a H.size w31 (Int32.toInt64 ((mN w31) (Int32.toNatClampNeg 12))) _ hw) (cwV 1 hts gX3_digest_X3_mix rfl rfl rfl hdVX3_mix ⟨(Nat.le_of_ble_eq_true rfl), (Nat.le_of_ble_eq_true rfl)⟩) hK hP hD 0 3 rfl rfl rfl rfl hl.1 rfl (Nat.le_of_ble_eq_true rfl) dX3_digest_74 ⟨(Nat.le_of_ble_eq_true rfl), (Nat.le_of_ble_eq_true rfl)⟩) hP hD hS hA (fun u44 H locs hw hP hD hS => ?_)
                                  have hP : va_P D vwCl (mdlW I a u44) H := hP
                                  have hD : va_D (va_A (mdlW I a x) sz) (mdlW I a u44) := hD
                                  refine lv_iconst (v := 0) hx hb dX3_digest_77 (by decide) ?_
                                  refine lv_istore_n (lv' := [(2, .int 0), (1, .int 1), (0, .ref a.1)]) hx hb dX3_digest_78 rfl hl (by decide) rfl (fun ls hl => ?_)
                                  obtain ⟨n45, hw⟩ := hw
                                  have ky51 : ∀ (K48 : Int32 → Mod → Prop) (_ : ∀ (i46 : Int32) (w47 : Mod) (H : Heap) (locs : List Loc) (ls : Array Slot), va_P D vwCl (mdlW I a w47) H → va_D (va_A (mdlW I a x) sz) (mdlW I a w47) → va_S (va_A (mdlW I a x) sz) s.heap H locs → lv_has ls 3 [(2, .int i46), (1, .int 1), (0, .ref a.1)] → K48 i46 w47 → W p l e rX3_digest s m ([.ref a.1] : List Value).toArray below meth c H locs 0 0 (MQ below (va_Ql (fun r (u : Mod) => Q r u) (mB D (va_A (mdlW I a x) sz) (fun u => mdlW I a u)) (va_A (mdlW I a x) sz)) ([.ref a.1] : List Value).toArray s 0 0 (va_A (mdlW I a x) sz)) (F0 m 128 ls [])) (n50 : Nat) (i46 : Int32) (w47 : Mod) (H : Heap) (locs : List Loc) (ls : Array Slot), va_P D vwCl (mdlW I a w47) H → va_D (va_A (mdlW I a x) sz) (mdlW I a w47) → va_S (va_A (mdlW I a x) sz) s.heap H locs → lv_has ls 3 [(2, .int i46), (1, .int 1), (0, .ref a.1)] → qX3_digest_L79b K48 n50 i46 w47 → W p l e rX3_digest s m ([.ref a.1] : List Value).toArray below meth c H locs 0 0 (MQ below (va_Ql (fun r (u : Mod) => Q r u) (mB D (va_A (mdlW I a x) sz) (fun u => mdlW I a u)) (va_A (mdlW I a x) sz)) ([.ref a.1] : List Value).toArray s 0 0 (va_A (mdlW I a x) sz)) (F0 m 79 ls []) := by
                                    intro K48 hx49 n50
                                    induction n50 with
                                    | zero =>
                                      intro i46 w47 H locs ls hP hD hS hl hw
                                      exact hw.elim
                                    | succ n50 ihn50 =>
                                      intro i46 w47 H locs ls hP hD hS hl hw
                                      unfold qX3_digest_L79b at hw
                                      refine lv_iload_n hx hb dX3_digest_79 rfl (lv_at hl 0 rfl) ?_
                                      refine lv_aload_n hx hb dX3_digest_80 rfl (lv_at hl 2 rfl) ?_
                                      refine va_get (ci := 3) (v := .ref a.2.1) (C := RX3) (T := TX3) (N := 6) hx hb hts hiX3 hown hK.1 hP 0 rfl rfl 0 (by decide) f3 (fun _ h9 => h9) rfl dX3_digest_81 ?_
                                      refine lv_bipush (v := 11) hx hb dX3_digest_84 (by decide) ?_
                                      refine lv_iload_n hx hb dX3_digest_86 rfl (lv_at hl 1 rfl) ?_
                                      refine lv_iadd hx hb dX3_digest_87 ?_
                                      rw [show ((11 : Int32) + 1) = 12 from by decide]
                                      refine va_iald hx hb hK.1 hP 3 0 rfl rfl (vp_c 12 4416 (by decide)) dX3_digest_88 ?_
                                      refine lv_icmp_ge (tgt := 128) hx hb dX3_digest_89 (by decide) (fun c52 => ?_) (fun c52 => ?_)
                                      · have hw := hw.1 c52
                                        exact hx49 i46 w47 H locs ls hP hD hS (lv_sub hl [0, 1, 2] rfl) hw
                                      · have hw := hw.2 c52
                                        refine lv_aload_n hx hb dX3_digest_92 rfl (lv_at hl 2 rfl) ?_
                                        refine lv_aload_n hx hb dX3_digest_93 rfl (lv_at hl 2 rfl) ?_
                                        refine va_get (ci := 3) (v := .ref a.2.1) (C := RX3) (T := TX3) (N := 6) hx hb hts hiX3 hown hK.1 hP 0 rfl rfl 0 (by decide) f3 (fun _ h9 => h9) rfl dX3_digest_94 ?_
                                        refine lv_iload_n hx hb dX3_digest_97 rfl (lv_at hl 1 rfl) ?_
                                        refine lv_iload_n hx hb dX3_digest_98 rfl (lv_at hl 0 rfl) ?_
                                        refine m0_i (mv_S (As := [.int 1, .int i46]) (rest := [.ref a.2.1, .ref a.1]) ⟨hx, hb, hml, hown, hts⟩ (kX3_volumeAt l D I O H.size 1 i46 _ hw) (va_cwS 2 hts gX3_digest_X3_volumeAt rfl rfl rfl hdSX3_volumeAt ⟨(Nat.le_of_ble_eq_true rfl), (Nat.le_of_ble_eq_true rfl)⟩) hK (nil_P (D := D) (H := H)) (nil_D (A := va_A (mdlW I a x) sz)) rfl hl.1 rfl (Nat.le_of_ble_eq_true rfl) dX3_digest_99 ⟨(Nat.le_of_ble_eq_true rfl), (Nat.le_of_ble_eq_true rfl)⟩) hP hD hS hA (fun r53 _ H locs hw hP hD hS => ?_)
                                        obtain ⟨h54, hw⟩ := hw
                                        refine va_iald hx hb hK.1 hP 3 0 rfl rfl h54 dX3_digest_102 ?_
                                        refine lv_i2l (v := Int32.toInt64 ((mN w47) (Int32.toNatClampNeg r53))) hx hb dX3_digest_103 rfl ?_
                                        refine mw_v (mv_V (As := [.long (Int32.toInt64 ((mN w47) (Int32.toNatClampNeg r53)))]) (rest := []) ⟨hx, hb, hml, hown, hts⟩ (kX3_mix l D I O a H.size w47 (Int32.toInt64 ((mN w47) (Int32.toNatClampNeg r53))) _ hw) (cwV 1 hts gX3_digest_X3_mix rfl rfl rfl hdVX3_mix ⟨(Nat.le_of_ble_eq_true rfl), (Nat.le_of_ble_eq_true rfl)⟩) hK hP hD 0 3 rfl rfl rfl rfl hl.1 rfl (Nat.le_of_ble_eq_true rfl) dX3_digest_104 ⟨(Nat.le_of_ble_eq_true rfl), (Nat.le_of_ble_eq_true rfl)⟩) hP hD hS hA (fun u55 H locs hw hP hD hS => ?_)
                                        have hP : va_P D vwCl (mdlW I a u55) H := hP
                                        have hD : va_D (va_A (mdlW I a x) sz) (mdlW I a u55) := hD
                                        refine lv_aload_n hx hb dX3_digest_107 rfl (lv_at hl 2 rfl) ?_
                                        refine lv_aload_n hx hb dX3_digest_108 rfl (lv_at hl 2 rfl) ?_
                                        refine va_get (ci := 3) (v := .ref a.2.1) (C := RX3) (T := TX3) (N := 6) hx hb hts hiX3 hown hK.1 hP 0 rfl rfl 0 (by decide) f3 (fun _ h9 => h9) rfl dX3_digest_109 ?_
                                        refine lv_iload_n hx hb dX3_digest_112 rfl (lv_at hl 1 rfl) ?_
                                        refine lv_iload_n hx hb dX3_digest_113 rfl (lv_at hl 0 rfl) ?_
                                        refine m0_i (mv_S (As := [.int 1, .int i46]) (rest := [.ref a.2.1, .ref a.1]) ⟨hx, hb, hml, hown, hts⟩ (kX3_densityAt l D I O H.size 1 i46 _ hw) (va_cwS 2 hts gX3_digest_X3_densityAt rfl rfl rfl hdSX3_densityAt ⟨(Nat.le_of_ble_eq_true rfl), (Nat.le_of_ble_eq_true rfl)⟩) hK (nil_P (D := D) (H := H)) (nil_D (A := va_A (mdlW I a x) sz)) rfl hl.1 rfl (Nat.le_of_ble_eq_true rfl) dX3_digest_114 ⟨(Nat.le_of_ble_eq_true rfl), (Nat.le_of_ble_eq_true rfl)⟩) hP hD hS hA (fun r56 _ H locs hw hP hD hS => ?_)
                                        obtain ⟨h57, hw⟩ := hw
                                        refine va_iald hx hb hK.1 hP 3 0 rfl rfl h57 dX3_digest_117 ?_
                                        refine lv_i2l (v := Int32.toInt64 ((mN u55) (Int32.toNatClampNeg r56))) hx hb dX3_digest_118 rfl ?_
                                        refine mw_v (mv_V (As := [.long (Int32.toInt64 ((mN u55) (Int32.toNatClampNeg r56)))]) (rest := []) ⟨hx, hb, hml, hown, hts⟩ (kX3_mix l D I O a H.size u55 (Int32.toInt64 ((mN u55) (Int32.toNatClampNeg r56))) _ hw) (cwV 1 hts gX3_digest_X3_mix rfl rfl rfl hdVX3_mix ⟨(Nat.le_of_ble_eq_true rfl), (Nat.le_of_ble_eq_true rfl)⟩) hK hP hD 0 3 rfl rfl rfl rfl hl.1 rfl (Nat.le_of_ble_eq_true rfl) dX3_digest_119 ⟨(Nat.le_of_ble_eq_true rfl), (Nat.le_of_ble_eq_true rfl)⟩) hP hD hS hA (fun u58 H locs hw hP hD hS => ?_)
                                        have hP : va_P D vwCl (mdlW I a u58) H := hP
                                        have hD : va_D (va_A (mdlW I a x) sz) (mdlW I a u58) := hD
                                        refine lv_iinc (v := i46 + 1) (lv' := [(2, .int (i46 + 1)), (1, .int 1), (0, .ref a.1)]) hx hb dX3_digest_122 hl (k := 0) rfl (congrArg (fun z => i46 + z) (show Int32.ofInt 1 = 1 from by decide)) (by decide) rfl (fun ls hl => ?_)
                                        refine lv_goto (tgt := 79) hx hb dX3_digest_125 (by decide) ?_
                                        exact ihn50 (i46 + 1) u58 H locs ls hP hD hS (lv_sub hl [0, 1, 2] rfl) hw
                                  refine ky51 _ (fun i46 w47 H locs ls hP hD hS hl hw => ?_) n45 0 u44 H locs ls hP hD hS (lv_sub hl [0, 1, 2] rfl) hw
                                  refine lv_iinc (v := 2) (lv' := [(1, .int 2), (2, .int i46), (0, .ref a.1)]) hx hb dX3_digest_128 hl (k := 1) rfl (by decide) (by decide) rfl (fun ls hl => ?_)
                                  refine lv_goto (tgt := 58) hx hb dX3_digest_131 (by decide) ?_
                                  refine lv_iload_n hx hb dX3_digest_58 rfl (lv_at hl 0 rfl) ?_
                                  refine lv_iconst (v := 2) hx hb dX3_digest_59 (by decide) ?_
                                  refine lv_icmp_ge (tgt := 134) hx hb dX3_digest_60 (by decide) (fun c59 => ?_) (fun c59 => ?_)
                                  · refine lv_aload_n hx hb dX3_digest_134 rfl (lv_at hl 2 rfl) ?_
                                    refine lv_aload_n hx hb dX3_digest_135 rfl (lv_at hl 2 rfl) ?_
                                    refine lv_iconst (v := 0) hx hb dX3_digest_136 (by decide) ?_
                                    refine mw_i (mv_V (As := [.int 0]) (rest := [.ref a.1]) ⟨hx, hb, hml, hown, hts⟩ (kX3_lacking l D I O a H.size w47 0 _ hw) (cwV 1 hts gX3_digest_X3_lacking rfl rfl rfl hdVX3_lacking ⟨(Nat.le_of_ble_eq_true rfl), (Nat.le_of_ble_eq_true rfl)⟩) hK hP hD 0 3 rfl rfl rfl rfl hl.1 rfl (Nat.le_of_ble_eq_true rfl) dX3_digest_137 ⟨(Nat.le_of_ble_eq_true rfl), (Nat.le_of_ble_eq_true rfl)⟩) hP hD hS hA (fun r60 _ H locs hw hP hD hS => ?_)
                                    have hP : va_P D vwCl (mdlW I a w47) H := hP
                                    have hD : va_D (va_A (mdlW I a x) sz) (mdlW I a w47) := hD
                                    refine lv_i2l (v := Int32.toInt64 r60) hx hb dX3_digest_140 rfl ?_
                                    refine mw_v (mv_V (As := [.long (Int32.toInt64 r60)]) (rest := []) ⟨hx, hb, hml, hown, hts⟩ (kX3_mix l D I O a H.size w47 (Int32.toInt64 r60) _ hw) (cwV 1 hts gX3_digest_X3_mix rfl rfl rfl hdVX3_mix ⟨(Nat.le_of_ble_eq_true rfl), (Nat.le_of_ble_eq_true rfl)⟩) hK hP hD 0 3 rfl rfl rfl rfl hl.1 rfl (Nat.le_of_ble_eq_true rfl) dX3_digest_141 ⟨(Nat.le_of_ble_eq_true rfl), (Nat.le_of_ble_eq_true rfl)⟩) hP hD hS hA (fun u61 H locs hw hP hD hS => ?_)
                                    have hP : va_P D vwCl (mdlW I a u61) H := hP
                                    have hD : va_D (va_A (mdlW I a x) sz) (mdlW I a u61) := hD
                                    refine lv_aload_n hx hb dX3_digest_144 rfl (lv_at hl 2 rfl) ?_
                                    refine lv_aload_n hx hb dX3_digest_145 rfl (lv_at hl 2 rfl) ?_
                                    refine lv_iconst (v := 1) hx hb dX3_digest_146 (by decide) ?_
                                    refine mw_i (mv_V (As := [.int 1]) (rest := [.ref a.1]) ⟨hx, hb, hml, hown, hts⟩ (kX3_lacking l D I O a H.size u61 1 _ hw) (cwV 1 hts gX3_digest_X3_lacking rfl rfl rfl hdVX3_lacking ⟨(Nat.le_of_ble_eq_true rfl), (Nat.le_of_ble_eq_true rfl)⟩) hK hP hD 0 3 rfl rfl rfl rfl hl.1 rfl (Nat.le_of_ble_eq_true rfl) dX3_digest_147 ⟨(Nat.le_of_ble_eq_true rfl), (Nat.le_of_ble_eq_true rfl)⟩) hP hD hS hA (fun r62 _ H locs hw hP hD hS => ?_)
                                    have hP : va_P D vwCl (mdlW I a u61) H := hP
                                    have hD : va_D (va_A (mdlW I a x) sz) (mdlW I a u61) := hD
                                    refine lv_i2l (v := Int32.toInt64 r62) hx hb dX3_digest_150 rfl ?_
                                    refine mw_v (mv_V (As := [.long (Int32.toInt64 r62)]) (rest := []) ⟨hx, hb, hml, hown, hts⟩ (kX3_mix l D I O a H.size u61 (Int32.toInt64 r62) _ hw) (cwV 1 hts gX3_digest_X3_mix rfl rfl rfl hdVX3_mix ⟨(Nat.le_of_ble_eq_true rfl), (Nat.le_of_ble_eq_true rfl)⟩) hK hP hD 0 3 rfl rfl rfl rfl hl.1 rfl (Nat.le_of_ble_eq_true rfl) dX3_digest_151 ⟨(Nat.le_of_ble_eq_true rfl), (Nat.le_of_ble_eq_true rfl)⟩) hP hD hS hA (fun u63 H locs hw hP hD hS => ?_)
                                    have hP : va_P D vwCl (mdlW I a u63) H := hP
                                    have hD : va_D (va_A (mdlW I a x) sz) (mdlW I a u63) := hD
                                    refine lv_aload_n hx hb dX3_digest_154 rfl (lv_at hl 2 rfl) ?_
                                    refine lv_aload_n hx hb dX3_digest_155 rfl (lv_at hl 2 rfl) ?_
                                    refine va_get (ci := 3) (v := .ref a.2.1) (C := RX3) (T := TX3) (N := 6) hx hb hts hiX3 hown hK.1 hP 0 rfl rfl 0 (by decide) f3 (fun _ h9 => h9) rfl dX3_digest_156 ?_
                                    refine lv_bipush (v := 6) hx hb dX3_digest_159 (by decide) ?_
                                    refine va_iald hx hb hK.1 hP 3 0 rfl rfl (vp_c 6 4416 (by decide)) dX3_digest_161 ?_
                                    refine lv_aload_n hx hb dX3_digest_162 rfl (lv_at hl 2 rfl) ?_
                                    refine lv_iconst (v := 0) hx hb dX3_digest_163 (by decide) ?_
                                    refine mw_i (mv_V (As := [.int 0]) (rest := [.int ((mN u63) (Int32.toNatClampNeg 6)), .ref a.1]) ⟨hx, hb, hml, hown, hts⟩ (kX3_lacking l D I O a H.size u63 0 _ hw) (cwV 1 hts gX3_digest_X3_lacking rfl rfl rfl hdVX3_lacking ⟨(Nat.le_of_ble_eq_true rfl), (Nat.le_of_ble_eq_true rfl)⟩) hK hP hD 0 3 rfl rfl rfl rfl hl.1 rfl (Nat.le_of_ble_eq_true rfl) dX3_digest_164 ⟨(Nat.le_of_ble_eq_true rfl), (Nat.le_of_ble_eq_true rfl)⟩) hP hD hS hA (fun r64 _ H locs hw hP hD hS => ?_)
                                    have hP : va_P D vwCl (mdlW I a u63) H := hP
                                    have hD : va_D (va_A (mdlW I a x) sz) (mdlW I a u63) := hD
                                    refine lv_iadd hx hb dX3_digest_167 ?_
                                    refine lv_i2l (v := Int32.toInt64 (((mN u63) (Int32.toNatClampNeg 6)) + r64)) hx hb dX3_digest_168 rfl ?_
                                    refine mw_v (mv_V (As := [.long (Int32.toInt64 (((mN u63) (Int32.toNatClampNeg 6)) + r64))]) (rest := []) ⟨hx, hb, hml, hown, hts⟩ (kX3_mix l D I O a H.size u63 (Int32.toInt64 (((mN u63) (Int32.toNatClampNeg 6)) + r64)) _ hw) (cwV 1 hts gX3_digest_X3_mix rfl rfl rfl hdVX3_mix ⟨(Nat.le_of_ble_eq_true rfl), (Nat.le_of_ble_eq_true rfl)⟩) hK hP hD 0 3 rfl rfl rfl rfl hl.1 rfl (Nat.le_of_ble_eq_true rfl) dX3_digest_169 ⟨(Nat.le_of_ble_eq_true rfl), (Nat.le_of_ble_eq_true rfl)⟩) hP hD hS hA (fun u65 H locs hw hP hD hS => ?_)
                                    have hP : va_P D vwCl (mdlW I a u65) H := hP
                                    have hD : va_D (va_A (mdlW I a x) sz) (mdlW I a u65) := hD
                                    refine lv_aload_n hx hb dX3_digest_172 rfl (lv_at hl 2 rfl) ?_
                                    refine lv_aload_n hx hb dX3_digest_173 rfl (lv_at hl 2 rfl) ?_
                                    refine mw_i (mv_V (As := []) (rest := [.ref a.1]) ⟨hx, hb, hml, hown, hts⟩ (kX3_atShoe l D I O a H.size u65 _ hw) (cwV 0 hts gX3_digest_X3_atShoe rfl rfl rfl hdVX3_atShoe ⟨(Nat.le_of_ble_eq_true rfl), (Nat.le_of_ble_eq_true rfl)⟩) hK hP hD 0 3 rfl rfl rfl rfl hl.1 rfl (Nat.le_of_ble_eq_true rfl) dX3_digest_174 ⟨(Nat.le_of_ble_eq_true rfl), (Nat.le_of_ble_eq_true rfl)⟩) hP hD hS hA (fun r66 _ H locs hw hP hD hS => ?_)
                                    have hP : va_P D vwCl (mdlW I a u65) H := hP
                                    have hD : va_D (va_A (mdlW I a x) sz) (mdlW I a u65) := hD
                                    refine lv_i2l (v := Int32.toInt64 r66) hx hb dX3_digest_177 rfl ?_
                                    refine mw_v (mv_V (As := [.long (Int32.toInt64 r66)]) (rest := []) ⟨hx, hb, hml, hown, hts⟩ (kX3_mix l D I O a H.size u65 (Int32.toInt64 r66) _ hw) (cwV 1 hts gX3_digest_X3_mix rfl rfl rfl hdVX3_mix ⟨(Nat.le_of_ble_eq_true rfl), (Nat.le_of_ble_eq_true rfl)⟩) hK hP hD 0 3 rfl rfl rfl rfl hl.1 rfl (Nat.le_of_ble_eq_true rfl) dX3_digest_178 ⟨(Nat.le_of_ble_eq_true rfl), (Nat.le_of_ble_eq_true rfl)⟩) hP hD hS hA (fun u67 H locs hw hP hD hS => ?_)
                                    have hP : va_P D vwCl (mdlW I a u67) H := hP
                                    have hD : va_D (va_A (mdlW I a x) sz) (mdlW I a u67) := hD
                                    refine lv_bipush (v := 8) hx hb dX3_digest_181 (by decide) ?_
                                    refine lv_istore_n (lv' := [(1, .int 8), (2, .int i46), (0, .ref a.1)]) hx hb dX3_digest_183 rfl hl (by decide) rfl (fun ls hl => ?_)
                                    refine lv_iload_n hx hb dX3_digest_184 rfl (lv_at hl 0 rfl) ?_
                                    refine lv_bipush (v := 10) hx hb dX3_digest_185 (by decide) ?_
                                    refine lv_icmp_gt (tgt := 207) hx hb dX3_digest_187 (by decide) (fun c68 => ?_) (fun c68 => ?_)
                                    · exact absurd c68 (show ¬ ((10 : Int32) < (8 : Int32)) from by decide)
                                    · refine lv_aload_n hx hb dX3_digest_190 rfl (lv_at hl 2 rfl) ?_
                                      refine lv_aload_n hx hb dX3_digest_191 rfl (lv_at hl 2 rfl) ?_
                                      refine va_get (ci := 3) (v := .ref a.2.1) (C := RX3) (T := TX3) (N := 6) hx hb hts hiX3 hown hK.1 hP 0 rfl rfl 0 (by decide) f3 (fun _ h9 => h9) rfl dX3_digest_192 ?_
                                      refine lv_iload_n hx hb dX3_digest_195 rfl (lv_at hl 0 rfl) ?_
                                      refine va_iald hx hb hK.1 hP 3 0 rfl rfl (vp_c 8 4416 (by decide)) dX3_digest_196 ?_
                                      refine lv_i2l (v := Int32.toInt64 ((mN u67) (Int32.toNatClampNeg 8))) hx hb dX3_digest_197 rfl ?_
                                      refine mw_v (mv_V (As := [.long (Int32.toInt64 ((mN u67) (Int32.toNatClampNeg 8)))]) (rest := []) ⟨hx, hb, hml, hown, hts⟩ (kX3_mix l D I O a H.size u67 (Int32.toInt64 ((mN u67) (Int32.toNatClampNeg 8))) _ hw) (cwV 1 hts gX3_digest_X3_mix rfl rfl rfl hdVX3_mix ⟨(Nat.le_of_ble_eq_true rfl), (Nat.le_of_ble_eq_true rfl)⟩) hK hP hD 0 3 rfl rfl rfl rfl hl.1 rfl (Nat.le_of_ble_eq_true rfl) dX3_digest_198 ⟨(Nat.le_of_ble_eq_true rfl), (Nat.le_of_ble_eq_true rfl)⟩) hP hD hS hA (fun u69 H locs hw hP hD hS => ?_)
                                      have hP : va_P D vwCl (mdlW I a u69) H := hP
                                      have hD : va_D (va_A (mdlW I a x) sz) (mdlW I a u69) := hD
                                      refine lv_iinc (v := 9) (lv' := [(1, .int 9), (2, .int i46), (0, .ref a.1)]) hx hb dX3_digest_201 hl (k := 0) rfl (by decide) (by decide) rfl (fun ls hl => ?_)
                                      refine lv_goto (tgt := 184) hx hb dX3_digest_204 (by decide) ?_
                                      refine lv_iload_n hx hb dX3_digest_184 rfl (lv_at hl 0 rfl) ?_
                                      refine lv_bipush (v := 10) hx hb dX3_digest_185 (by decide) ?_
                                      refine lv_icmp_gt (tgt := 207) hx hb dX3_digest_187 (by decide) (fun c70 => ?_) (fun c70 => ?_)
                                      · exact absurd c70 (show ¬ ((10 : Int32) < (9 : Int32)) from by decide)
                                      · refine lv_aload_n hx hb dX3_digest_190 rfl (lv_at hl 2 rfl) ?_
                                        refine lv_aload_n hx hb dX3_digest_191 rfl (lv_at hl 2 rfl) ?_
                                        refine va_get (ci := 3) (v := .ref a.2.1) (C := RX3) (T := TX3) (N := 6) hx hb hts hiX3 hown hK.1 hP 0 rfl rfl 0 (by decide) f3 (fun _ h9 => h9) rfl dX3_digest_192 ?_
                                        refine lv_iload_n hx hb dX3_digest_195 rfl (lv_at hl 0 rfl) ?_
                                        refine va_iald hx hb hK.1 hP 3 0 rfl rfl (vp_c 9 4416 (by decide)) dX3_digest_196 ?_
                                        refine lv_i2l (v := Int32.toInt64 ((mN u69) (Int32.toNatClampNeg 9))) hx hb dX3_digest_197 rfl ?_
                                        refine mw_v (mv_V (As := [.long (Int32.toInt64 ((mN u69) (Int32.toNatClampNeg 9)))]) (rest := []) ⟨hx, hb, hml, hown, hts⟩ (kX3_mix l D I O a H.size u69 (Int32.toInt64 ((mN u69) (Int32.toNatClampNeg 9))) _ hw) (cwV 1 hts gX3_digest_X3_mix rfl rfl rfl hdVX3_mix ⟨(Nat.le_of_ble_eq_true rfl), (Nat.le_of_ble_eq_true rfl)⟩) hK hP hD 0 3 rfl rfl rfl rfl hl.1 rfl (Nat.le_of_ble_eq_true rfl) dX3_digest_198 ⟨(Nat.le_of_ble_eq_true rfl), (Nat.le_of_ble_eq_true rfl)⟩) hP hD hS hA (fun u71 H locs hw hP hD hS => ?_)
                                        have hP : va_P D vwCl (mdlW I a u71) H := hP
                                        have hD : va_D (va_A (mdlW I a x) sz) (mdlW I a u71) := hD
                                        refine lv_iinc (v := 10) (lv' := [(1, .int 10), (2, .int i46), (0, .ref a.1)]) hx hb dX3_digest_201 hl (k := 0) rfl (by decide) (by decide) rfl (fun ls hl => ?_)
                                        refine lv_goto (tgt := 184) hx hb dX3_digest_204 (by decide) ?_
                                        refine lv_iload_n hx hb dX3_digest_184 rfl (lv_at hl 0 rfl) ?_
                                        refine lv_bipush (v := 10) hx hb dX3_digest_185 (by decide) ?_
                                        refine lv_icmp_gt (tgt := 207) hx hb dX3_digest_187 (by decide) (fun c72 => ?_) (fun c72 => ?_)
                                        · exact absurd c72 (show ¬ ((10 : Int32) < (10 : Int32)) from by decide)
                                        · refine lv_aload_n hx hb dX3_digest_190 rfl (lv_at hl 2 rfl) ?_
                                          refine lv_aload_n hx hb dX3_digest_191 rfl (lv_at hl 2 rfl) ?_
                                          refine va_get (ci := 3) (v := .ref a.2.1) (C := RX3) (T := TX3) (N := 6) hx hb hts hiX3 hown hK.1 hP 0 rfl rfl 0 (by decide) f3 (fun _ h9 => h9) rfl dX3_digest_192 ?_
                                          refine lv_iload_n hx hb dX3_digest_195 rfl (lv_at hl 0 rfl) ?_
                                          refine va_iald hx hb hK.1 hP 3 0 rfl rfl (vp_c 10 4416 (by decide)) dX3_digest_196 ?_
                                          refine lv_i2l (v := Int32.toInt64 ((mN u71) (Int32.toNatClampNeg 10))) hx hb dX3_digest_197 rfl ?_
                                          refine mw_v (mv_V (As := [.long (Int32.toInt64 ((mN u71) (Int32.toNatClampNeg 10)))]) (rest := []) ⟨hx, hb, hml, hown, hts⟩ (kX3_mix l D I O a H.size u71 (Int32.toInt64 ((mN u71) (Int32.toNatClampNeg 10))) _ hw) (cwV 1 hts gX3_digest_X3_mix rfl rfl rfl hdVX3_mix ⟨(Nat.le_of_ble_eq_true rfl), (Nat.le_of_ble_eq_true rfl)⟩) hK hP hD 0 3 rfl rfl rfl rfl hl.1 rfl (Nat.le_of_ble_eq_true rfl) dX3_digest_198 ⟨(Nat.le_of_ble_eq_true rfl), (Nat.le_of_ble_eq_true rfl)⟩) hP hD hS hA (fun u73 H locs hw hP hD hS => ?_)
                                          have hP : va_P D vwCl (mdlW I a u73) H := hP
                                          have hD : va_D (va_A (mdlW I a x) sz) (mdlW I a u73) := hD
                                          refine lv_iinc (v := 11) (lv' := [(1, .int 11), (2, .int i46), (0, .ref a.1)]) hx hb dX3_digest_201 hl (k := 0) rfl (by decide) (by decide) rfl (fun ls hl => ?_)
                                          refine lv_goto (tgt := 184) hx hb dX3_digest_204 (by decide) ?_
                                          refine lv_iload_n hx hb dX3_digest_184 rfl (lv_at hl 0 rfl) ?_
                                          refine lv_bipush (v := 10) hx hb dX3_digest_185 (by decide) ?_
                                          refine lv_icmp_gt (tgt := 207) hx hb dX3_digest_187 (by decide) (fun c74 => ?_) (fun c74 => ?_)
                                          · refine lv_aload_n hx hb dX3_digest_207 rfl (lv_at hl 2 rfl) ?_
                                            refine lv_aload_n hx hb dX3_digest_208 rfl (lv_at hl 2 rfl) ?_
                                            refine va_get (ci := 3) (v := .int (mS u73)) (C := RX3) (T := TX3) (N := 6) hx hb hts hiX3 hown hK.1 hP 0 rfl rfl 3 (by decide) f4 (fun _ h9 => h9) rfl dX3_digest_209 ?_
                                            refine lv_i2l (v := Int32.toInt64 (mS u73)) hx hb dX3_digest_212 rfl ?_
                                            refine mw_v (mv_V (As := [.long (Int32.toInt64 (mS u73))]) (rest := []) ⟨hx, hb, hml, hown, hts⟩ (kX3_mix l D I O a H.size u73 (Int32.toInt64 (mS u73)) _ hw) (cwV 1 hts gX3_digest_X3_mix rfl rfl rfl hdVX3_mix ⟨(Nat.le_of_ble_eq_true rfl), (Nat.le_of_ble_eq_true rfl)⟩) hK hP hD 0 3 rfl rfl rfl rfl hl.1 rfl (Nat.le_of_ble_eq_true rfl) dX3_digest_213 ⟨(Nat.le_of_ble_eq_true rfl), (Nat.le_of_ble_eq_true rfl)⟩) hP hD hS hA (fun u75 H locs hw hP hD hS => ?_)
                                            have hP : va_P D vwCl (mdlW I a u75) H := hP
                                            have hD : va_D (va_A (mdlW I a x) sz) (mdlW I a u75) := hD
                                            refine lv_aload_n hx hb dX3_digest_216 rfl (lv_at hl 2 rfl) ?_
                                            refine va_get (ci := 3) (v := .long (mH u75)) (C := RX3) (T := TX3) (N := 6) hx hb hts hiX3 hown hK.1 hP 0 rfl rfl 5 (by decide) f1 (fun _ h9 => h9) rfl dX3_digest_217 ?_
                                            exact m_lret (u := u75) hx hb hr hlocks hS hP hD dX3_digest_220 hw
                                          · exact absurd (show (10 : Int32) < (11 : Int32) from by decide) c74
                                  · exact absurd (show (2 : Int32) ≤ (2 : Int32) from by decide) c59
                            · exact absurd (show (7 : Int32) < (8 : Int32) from by decide) c26
          · exact absurd (show (4 : Int32) ≤ (4 : Int32) from by decide) c9
