def qX3_pressureOf_L17 (p1 : Int32) (x : Mod) (K7 : Int32 → Int64 → Int32 → Prop) : Nat → Int32 → Int64 → Int32 → Prop
  | 0, _, _, _ => False
  | n9 + 1, i4, i5, i6 => (vp_in (11 + p1) 4416 ∧ ((((mN x) (Int32.toNatClampNeg (11 + p1))) ≤ i4 → K7 i4 i5 i6) ∧ (¬ ((mN x) (Int32.toNatClampNeg (11 + p1))) ≤ i4 → ((i6 ≤ 0 → K7 i4 i5 i6) ∧ (¬ i6 ≤ 0 → (qX3_volumeAt p1 i4 (fun r14 => (vp_in r14 4416 ∧ ((i6 ≤ ((mN x) (Int32.toNatClampNeg r14)) → (qX3_densityAt p1 i4 (fun r17 => (vp_in r17 4416 ∧ (∀ v19 : Int64, v19 = i5 + ((Int32.toInt64 i6) * (Int32.toInt64 ((mN x) (Int32.toNatClampNeg r17)))) → (∀ v20 : Int32, v20 = i6 - i6 → qX3_pressureOf_L17 p1 x K7 n9 (i4 + 1) v19 v20)))))) ∧ (¬ i6 ≤ ((mN x) (Int32.toNatClampNeg r14)) → (qX3_volumeAt p1 i4 (fun r21 => (vp_in r21 4416 ∧ (∀ v23 : Int32, v23 = (mN x) (Int32.toNatClampNeg r21) → (qX3_densityAt p1 i4 (fun r24 => (vp_in r24 4416 ∧ (∀ v26 : Int64, v26 = i5 + ((Int32.toInt64 v23) * (Int32.toInt64 ((mN x) (Int32.toNatClampNeg r24)))) → (∀ v27 : Int32, v27 = i6 - v23 → qX3_pressureOf_L17 p1 x K7 n9 (i4 + 1) v26 v27)))))))))))))))))))
def qX3_pressureOf (x : Mod) (p1 : Int32) (p2 : Int32) (Q : Int32 → Prop) : Prop := (vp_in (1 + p1) 4416 ∧ (∀ v2 : Int32, v2 = p2 * ((mN x) (Int32.toNatClampNeg (1 + p1))) → (∃ n3, qX3_pressureOf_L17 p1 x (fun i4 i5 i6 => (vp_in (1 + p1) 4416 ∧ (¬ (100000 * (Int32.toInt64 ((mN x) (Int32.toNatClampNeg (1 + p1))))) = 0 ∧ Q (Int64.toInt32 ((981 * i5) / (100000 * (Int32.toInt64 ((mN x) (Int32.toNatClampNeg (1 + p1)))))))))) n3 0 0 v2)))
set_option maxHeartbeats 4000000 in
set_option maxRecDepth 100000 in
theorem kX3_pressureOf (l : Launch) (D : va_G) (I O : ClassId) (a : MA) (sz : Nat) (x : Mod) (p1 : Int32) (p2 : Int32) (Q : Int32 → Prop) (hw : qX3_pressureOf x p1 p2 Q) : Met l yX3_pressureOf wsX3_pressureOf rX3_pressureOf (mPc D I O [.ref a.1, .int p1, .int p2] (mdlW I a x) sz) (va_Qi (fun r (_ : Unit) => Q r) (mB D (va_A (mdlW I a x) sz) (fun _ => mdlW I a x)) (va_A (mdlW I a x) sz)) 0 0 (va_A (mdlW I a x) sz) := by
  refine m_start (by decide) rfl (Nat.le_of_ble_eq_true rfl) (fun p e s m below meth c ls H locs hx hb hr hml hts hown hlocks hnm hK hP hD hA hS hl => ?_)
  have hown : s.vm.findClass RX3 = some m.cls := hown
  have hl : lv_has ls 8 [(0, .ref a.1), (1, .int p1), (2, .int p2)] := hl
  have hiX3 : ∀ w ∈ wsX30, w ∈ wsX3_pressureOf := by decide +kernel
  have f0 := hts (.fieldLink RX3 7 "WellControlModel" "now" "[I") (by decide +kernel)
  have f1 := hts (.constantLong RX3 58 (981)) (by decide +kernel)
  have f2 := hts (.constantLong RX3 60 (100000)) (by decide +kernel)
  unfold qX3_pressureOf at hw
  refine lv_iload_n hx hb dX3_pressureOf_0 rfl (lv_at hl 2 rfl) ?_
  refine lv_aload_n hx hb dX3_pressureOf_1 rfl (lv_at hl 0 rfl) ?_
  refine va_get (ci := 3) (v := .ref a.2.1) (C := RX3) (T := TX3) (N := 6) hx hb hts hiX3 hown hK.1 hP 0 rfl rfl 0 (by decide) f0 (fun _ h9 => h9) rfl dX3_pressureOf_2 ?_
  refine lv_iconst (v := 1) hx hb dX3_pressureOf_5 (by decide) ?_
  refine lv_iload_n hx hb dX3_pressureOf_6 rfl (lv_at hl 1 rfl) ?_
  refine lv_iadd hx hb dX3_pressureOf_7 ?_
  obtain ⟨h1, hw⟩ := hw
  refine va_iald hx hb hK.1 hP 3 0 rfl rfl h1 dX3_pressureOf_8 ?_
  refine lv_imul hx hb dX3_pressureOf_9 ?_
  refine lv_topi (fun v2 ev2 => ?_)
  have hw := hw v2 ev2
  refine lv_istore_n (lv' := [(3, .int v2), (0, .ref a.1), (1, .int p1), (2, .int p2)]) hx hb dX3_pressureOf_10 rfl hl (by decide) rfl (fun ls hl => ?_)
  refine lv_lconst (v := 0) hx hb dX3_pressureOf_11 (by decide) ?_
  refine lv_lstore (lv' := [(4, .long 0), (3, .int v2), (0, .ref a.1), (1, .int p1), (2, .int p2)]) hx hb dX3_pressureOf_12 hl (by decide) rfl (fun ls hl => ?_)
  refine lv_iconst (v := 0) hx hb dX3_pressureOf_14 (by decide) ?_
  refine lv_istore (lv' := [(6, .int 0), (4, .long 0), (3, .int v2), (0, .ref a.1), (1, .int p1), (2, .int p2)]) hx hb dX3_pressureOf_15 hl (by decide) rfl (fun ls hl => ?_)
  obtain ⟨n3, hw⟩ := hw
  have ky10 : ∀ (K7 : Int32 → Int64 → Int32 → Prop) (_ : ∀ (i4 : Int32) (i5 : Int64) (i6 : Int32) (H : Heap) (locs : List Loc) (ls : Array Slot), va_P D vwCl (mdlW I a x) H → va_D (va_A (mdlW I a x) sz) (mdlW I a x) → va_S (va_A (mdlW I a x) sz) s.heap H locs → lv_has ls 8 [(6, .int i4), (4, .long i5), (3, .int i6), (0, .ref a.1), (1, .int p1), (2, .int p2)] → K7 i4 i5 i6 → W p l e rX3_pressureOf s m ([.ref a.1, .int p1, .int p2] : List Value).toArray below meth c H locs 0 0 (MQ below (va_Qi (fun r (_ : Unit) => Q r) (mB D (va_A (mdlW I a x) sz) (fun _ => mdlW I a x)) (va_A (mdlW I a x) sz)) ([.ref a.1, .int p1, .int p2] : List Value).toArray s 0 0 (va_A (mdlW I a x) sz)) (F0 m 99 ls [])) (n9 : Nat) (i4 : Int32) (i5 : Int64) (i6 : Int32) (H : Heap) (locs : List Loc) (ls : Array Slot), va_P D vwCl (mdlW I a x) H → va_D (va_A (mdlW I a x) sz) (mdlW I a x) → va_S (va_A (mdlW I a x) sz) s.heap H locs → lv_has ls 8 [(6, .int i4), (4, .long i5), (3, .int i6), (0, .ref a.1), (1, .int p1), (2, .int p2)] → qX3_pressureOf_L17 p1 x K7 n9 i4 i5 i6 → W p l e rX3_pressureOf s m ([.ref a.1, .int p1, .int p2] : List Value).toArray below meth c H locs 0 0 (MQ below (va_Qi (fun r (_ : Unit) => Q r) (mB D (va_A (mdlW I a x) sz) (fun _ => mdlW I a x)) (va_A (mdlW I a x) sz)) ([.ref a.1, .int p1, .int p2] : List Value).toArray s 0 0 (va_A (mdlW I a x) sz)) (F0 m 17 ls []) := by
    intro K7 hx8 n9
    induction n9 with
    | zero =>
      intro i4 i5 i6 H locs ls hP hD hS hl hw
      exact hw.elim
    | succ n9 ihn9 =>
      intro i4 i5 i6 H locs ls hP hD hS hl hw
      unfold qX3_pressureOf_L17 at hw
      refine lv_iload hx hb dX3_pressureOf_17 (lv_at hl 0 rfl) ?_
      refine lv_aload_n hx hb dX3_pressureOf_19 rfl (lv_at hl 3 rfl) ?_
      refine va_get (ci := 3) (v := .ref a.2.1) (C := RX3) (T := TX3) (N := 6) hx hb hts hiX3 hown hK.1 hP 0 rfl rfl 0 (by decide) f0 (fun _ h9 => h9) rfl dX3_pressureOf_20 ?_
      refine lv_bipush (v := 11) hx hb dX3_pressureOf_23 (by decide) ?_
      refine lv_iload_n hx hb dX3_pressureOf_25 rfl (lv_at hl 4 rfl) ?_
      refine lv_iadd hx hb dX3_pressureOf_26 ?_
      obtain ⟨h11, hw⟩ := hw
      refine va_iald hx hb hK.1 hP 3 0 rfl rfl h11 dX3_pressureOf_27 ?_
      refine lv_icmp_ge (tgt := 99) hx hb dX3_pressureOf_28 (by decide) (fun c12 => ?_) (fun c12 => ?_)
      · have hw := hw.1 c12
        exact hx8 i4 i5 i6 H locs ls hP hD hS (lv_sub hl [0, 1, 2, 3, 4, 5] rfl) hw
      · have hw := hw.2 c12
        refine lv_iload_n hx hb dX3_pressureOf_31 rfl (lv_at hl 2 rfl) ?_
        refine lv_if_le (tgt := 99) hx hb dX3_pressureOf_32 (by decide) (fun c13 => ?_) (fun c13 => ?_)
        · have hw := hw.1 c13
          exact hx8 i4 i5 i6 H locs ls hP hD hS (lv_sub hl [0, 1, 2, 3, 4, 5] rfl) hw
        · have hw := hw.2 c13
          refine lv_aload_n hx hb dX3_pressureOf_35 rfl (lv_at hl 3 rfl) ?_
          refine va_get (ci := 3) (v := .ref a.2.1) (C := RX3) (T := TX3) (N := 6) hx hb hts hiX3 hown hK.1 hP 0 rfl rfl 0 (by decide) f0 (fun _ h9 => h9) rfl dX3_pressureOf_36 ?_
          refine lv_iload_n hx hb dX3_pressureOf_39 rfl (lv_at hl 4 rfl) ?_
          refine lv_iload hx hb dX3_pressureOf_40 (lv_at hl 0 rfl) ?_
          refine m0_i (mv_S (As := [.int p1, .int i4]) (rest := [.ref a.2.1]) ⟨hx, hb, hml, hown, hts⟩ (kX3_volumeAt l D I O H.size p1 i4 _ hw) (va_cwS 2 hts gX3_pressureOf_X3_volumeAt rfl rfl rfl hdSX3_volumeAt ⟨(Nat.le_of_ble_eq_true rfl), (Nat.le_of_ble_eq_true rfl)⟩) hK (nil_P (D := D) (H := H)) (nil_D (A := va_A (mdlW I a x) sz)) rfl hl.1 rfl (Nat.le_of_ble_eq_true rfl) dX3_pressureOf_42 ⟨(Nat.le_of_ble_eq_true rfl), (Nat.le_of_ble_eq_true rfl)⟩) hP hD hS hA (fun r14 _ H locs hw hP hD hS => ?_)
          obtain ⟨h15, hw⟩ := hw
          refine va_iald hx hb hK.1 hP 3 0 rfl rfl h15 dX3_pressureOf_45 ?_
          refine lv_iload_n hx hb dX3_pressureOf_46 rfl (lv_at hl 2 rfl) ?_
          refine lv_icmp_ge (tgt := 64) hx hb dX3_pressureOf_47 (by decide) (fun c16 => ?_) (fun c16 => ?_)
          · have hw := hw.1 c16
            refine lv_iload_n hx hb dX3_pressureOf_64 rfl (lv_at hl 2 rfl) ?_
            refine lv_istore (lv' := [(7, .int i6), (6, .int i4), (4, .long i5), (3, .int i6), (0, .ref a.1), (1, .int p1), (2, .int p2)]) hx hb dX3_pressureOf_65 hl (by decide) rfl (fun ls hl => ?_)
            refine lv_lload hx hb dX3_pressureOf_67 (lv_at hl 2 rfl) ?_
            refine lv_iload hx hb dX3_pressureOf_69 (lv_at hl 0 rfl) ?_
            refine lv_i2l (v := Int32.toInt64 i6) hx hb dX3_pressureOf_71 rfl ?_
            refine lv_aload_n hx hb dX3_pressureOf_72 rfl (lv_at hl 4 rfl) ?_
            refine va_get (ci := 3) (v := .ref a.2.1) (C := RX3) (T := TX3) (N := 6) hx hb hts hiX3 hown hK.1 hP 0 rfl rfl 0 (by decide) f0 (fun _ h9 => h9) rfl dX3_pressureOf_73 ?_
            refine lv_iload_n hx hb dX3_pressureOf_76 rfl (lv_at hl 5 rfl) ?_
            refine lv_iload hx hb dX3_pressureOf_77 (lv_at hl 1 rfl) ?_
            refine m0_i (mv_S (As := [.int p1, .int i4]) (rest := [.ref a.2.1, .long (Int32.toInt64 i6), .long i5]) ⟨hx, hb, hml, hown, hts⟩ (kX3_densityAt l D I O H.size p1 i4 _ hw) (va_cwS 2 hts gX3_pressureOf_X3_densityAt rfl rfl rfl hdSX3_densityAt ⟨(Nat.le_of_ble_eq_true rfl), (Nat.le_of_ble_eq_true rfl)⟩) hK (nil_P (D := D) (H := H)) (nil_D (A := va_A (mdlW I a x) sz)) rfl hl.1 rfl (Nat.le_of_ble_eq_true rfl) dX3_pressureOf_79 ⟨(Nat.le_of_ble_eq_true rfl), (Nat.le_of_ble_eq_true rfl)⟩) hP hD hS hA (fun r17 _ H locs hw hP hD hS => ?_)
            obtain ⟨h18, hw⟩ := hw
            refine va_iald hx hb hK.1 hP 3 0 rfl rfl h18 dX3_pressureOf_82 ?_
            refine lv_i2l (v := Int32.toInt64 ((mN x) (Int32.toNatClampNeg r17))) hx hb dX3_pressureOf_83 rfl ?_
            refine lv_lmul hx hb dX3_pressureOf_84 ?_
            refine lv_ladd hx hb dX3_pressureOf_85 ?_
            refine lv_topl (fun v19 ev19 => ?_)
            have hw := hw v19 ev19
            refine lv_lstore (lv' := [(4, .long v19), (7, .int i6), (6, .int i4), (3, .int i6), (0, .ref a.1), (1, .int p1), (2, .int p2)]) hx hb dX3_pressureOf_86 hl (by decide) rfl (fun ls hl => ?_)
            refine lv_iload_n hx hb dX3_pressureOf_88 rfl (lv_at hl 3 rfl) ?_
            refine lv_iload hx hb dX3_pressureOf_89 (lv_at hl 1 rfl) ?_
            refine lv_isub hx hb dX3_pressureOf_91 ?_
            refine lv_topi (fun v20 ev20 => ?_)
            have hw := hw v20 ev20
            refine lv_istore_n (lv' := [(3, .int v20), (4, .long v19), (7, .int i6), (6, .int i4), (0, .ref a.1), (1, .int p1), (2, .int p2)]) hx hb dX3_pressureOf_92 rfl hl (by decide) rfl (fun ls hl => ?_)
            refine lv_iinc (v := i4 + 1) (lv' := [(6, .int (i4 + 1)), (3, .int v20), (4, .long v19), (7, .int i6), (0, .ref a.1), (1, .int p1), (2, .int p2)]) hx hb dX3_pressureOf_93 hl (k := 3) rfl (congrArg (fun z => i4 + z) (show Int32.ofInt 1 = 1 from by decide)) (by decide) rfl (fun ls hl => ?_)
            refine lv_goto (tgt := 17) hx hb dX3_pressureOf_96 (by decide) ?_
            exact ihn9 (i4 + 1) v19 v20 H locs ls hP hD hS (lv_sub hl [0, 2, 1, 4, 5, 6] rfl) hw
          · have hw := hw.2 c16
            refine lv_aload_n hx hb dX3_pressureOf_50 rfl (lv_at hl 3 rfl) ?_
            refine va_get (ci := 3) (v := .ref a.2.1) (C := RX3) (T := TX3) (N := 6) hx hb hts hiX3 hown hK.1 hP 0 rfl rfl 0 (by decide) f0 (fun _ h9 => h9) rfl dX3_pressureOf_51 ?_
            refine lv_iload_n hx hb dX3_pressureOf_54 rfl (lv_at hl 4 rfl) ?_
            refine lv_iload hx hb dX3_pressureOf_55 (lv_at hl 0 rfl) ?_
            refine m0_i (mv_S (As := [.int p1, .int i4]) (rest := [.ref a.2.1]) ⟨hx, hb, hml, hown, hts⟩ (kX3_volumeAt l D I O H.size p1 i4 _ hw) (va_cwS 2 hts gX3_pressureOf_X3_volumeAt rfl rfl rfl hdSX3_volumeAt ⟨(Nat.le_of_ble_eq_true rfl), (Nat.le_of_ble_eq_true rfl)⟩) hK (nil_P (D := D) (H := H)) (nil_D (A := va_A (mdlW I a x) sz)) rfl hl.1 rfl (Nat.le_of_ble_eq_true rfl) dX3_pressureOf_57 ⟨(Nat.le_of_ble_eq_true rfl), (Nat.le_of_ble_eq_true rfl)⟩) hP hD hS hA (fun r21 _ H locs hw hP hD hS => ?_)
            obtain ⟨h22, hw⟩ := hw
            refine va_iald hx hb hK.1 hP 3 0 rfl rfl h22 dX3_pressureOf_60 ?_
            refine lv_goto (tgt := 65) hx hb dX3_pressureOf_61 (by decide) ?_
            refine lv_topi (fun v23 ev23 => ?_)
            have hw := hw v23 ev23
            refine lv_istore (lv' := [(7, .int v23), (6, .int i4), (4, .long i5), (3, .int i6), (0, .ref a.1), (1, .int p1), (2, .int p2)]) hx hb dX3_pressureOf_65 hl (by decide) rfl (fun ls hl => ?_)
            refine lv_lload hx hb dX3_pressureOf_67 (lv_at hl 2 rfl) ?_
            refine lv_iload hx hb dX3_pressureOf_69 (lv_at hl 0 rfl) ?_
            refine lv_i2l (v := Int32.toInt64 v23) hx hb dX3_pressureOf_71 rfl ?_
            refine lv_aload_n hx hb dX3_pressureOf_72 rfl (lv_at hl 4 rfl) ?_
            refine va_get (ci := 3) (v := .ref a.2.1) (C := RX3) (T := TX3) (N := 6) hx hb hts hiX3 hown hK.1 hP 0 rfl rfl 0 (by decide) f0 (fun _ h9 => h9) rfl dX3_pressureOf_73 ?_
            refine lv_iload_n hx hb dX3_pressureOf_76 rfl (lv_at hl 5 rfl) ?_
            refine lv_iload hx hb dX3_pressureOf_77 (lv_at hl 1 rfl) ?_
            refine m0_i (mv_S (As := [.int p1, .int i4]) (rest := [.ref a.2.1, .long (Int32.toInt64 v23), .long i5]) ⟨hx, hb, hml, hown, hts⟩ (kX3_densityAt l D I O H.size p1 i4 _ hw) (va_cwS 2 hts gX3_pressureOf_X3_densityAt rfl rfl rfl hdSX3_densityAt ⟨(Nat.le_of_ble_eq_true rfl), (Nat.le_of_ble_eq_true rfl)⟩) hK (nil_P (D := D) (H := H)) (nil_D (A := va_A (mdlW I a x) sz)) rfl hl.1 rfl (Nat.le_of_ble_eq_true rfl) dX3_pressureOf_79 ⟨(Nat.le_of_ble_eq_true rfl), (Nat.le_of_ble_eq_true rfl)⟩) hP hD hS hA (fun r24 _ H locs hw hP hD hS => ?_)
            obtain ⟨h25, hw⟩ := hw
            refine va_iald hx hb hK.1 hP 3 0 rfl rfl h25 dX3_pressureOf_82 ?_
            refine lv_i2l (v := Int32.toInt64 ((mN x) (Int32.toNatClampNeg r24))) hx hb dX3_pressureOf_83 rfl ?_
            refine lv_lmul hx hb dX3_pressureOf_84 ?_
            refine lv_ladd hx hb dX3_pressureOf_85 ?_
            refine lv_topl (fun v26 ev26 => ?_)
            have hw := hw v26 ev26
            refine lv_lstore (lv' := [(4, .long v26), (7, .int v23), (6, .int i4), (3, .int i6), (0, .ref a.1), (1, .int p1), (2, .int p2)]) hx hb dX3_pressureOf_86 hl (by decide) rfl (fun ls hl => ?_)
            refine lv_iload_n hx hb dX3_pressureOf_88 rfl (lv_at hl 3 rfl) ?_
            refine lv_iload hx hb dX3_pressureOf_89 (lv_at hl 1 rfl) ?_
            refine lv_isub hx hb dX3_pressureOf_91 ?_
            refine lv_topi (fun v27 ev27 => ?_)
            have hw := hw v27 ev27
            refine lv_istore_n (lv' := [(3, .int v27), (4, .long v26), (7, .int v23), (6, .int i4), (0, .ref a.1), (1, .int p1), (2, .int p2)]) hx hb dX3_pressureOf_92 rfl hl (by decide) rfl (fun ls hl => ?_)
            refine lv_iinc (v := i4 + 1) (lv' := [(6, .int (i4 + 1)), (3, .int v27), (4, .long v26), (7, .int v23), (0, .ref a.1), (1, .int p1), (2, .int p2)]) hx hb dX3_pressureOf_93 hl (k := 3) rfl (congrArg (fun z => i4 + z) (show Int32.ofInt 1 = 1 from by decide)) (by decide) rfl (fun ls hl => ?_)
            refine lv_goto (tgt := 17) hx hb dX3_pressureOf_96 (by decide) ?_
            exact ihn9 (i4 + 1) v26 v27 H locs ls hP hD hS (lv_sub hl [0, 2, 1, 4, 5, 6] rfl) hw
  refine ky10 _ (fun i4 i5 i6 H locs ls hP hD hS hl hw => ?_) n3 0 0 v2 H locs ls hP hD hS (lv_sub hl [0, 1, 2, 3, 4, 5] rfl) hw
  refine lv_ldc2 (v := 981) hx hb hown f1 dX3_pressureOf_99 ?_
  refine lv_lload hx hb dX3_pressureOf_102 (lv_at hl 1 rfl) ?_
  refine lv_lmul hx hb dX3_pressureOf_104 ?_
  refine lv_ldc2 (v := 100000) hx hb hown f2 dX3_pressureOf_105 ?_
  refine lv_aload_n hx hb dX3_pressureOf_108 rfl (lv_at hl 3 rfl) ?_
  refine va_get (ci := 3) (v := .ref a.2.1) (C := RX3) (T := TX3) (N := 6) hx hb hts hiX3 hown hK.1 hP 0 rfl rfl 0 (by decide) f0 (fun _ h9 => h9) rfl dX3_pressureOf_109 ?_
  refine lv_iconst (v := 1) hx hb dX3_pressureOf_112 (by decide) ?_
  refine lv_iload_n hx hb dX3_pressureOf_113 rfl (lv_at hl 4 rfl) ?_
  refine lv_iadd hx hb dX3_pressureOf_114 ?_
  obtain ⟨h28, hw⟩ := hw
  refine va_iald hx hb hK.1 hP 3 0 rfl rfl h28 dX3_pressureOf_115 ?_
  refine lv_i2l (v := Int32.toInt64 ((mN x) (Int32.toNatClampNeg (1 + p1)))) hx hb dX3_pressureOf_116 rfl ?_
  refine lv_lmul hx hb dX3_pressureOf_117 ?_
  obtain ⟨h29, hw⟩ := hw
  refine lv_ldiv hx hb dX3_pressureOf_118 h29 ?_
  refine lv_l2i (v := Int64.toInt32 ((981 * i5) / (100000 * (Int32.toInt64 ((mN x) (Int32.toNatClampNeg (1 + p1))))))) hx hb dX3_pressureOf_119 rfl ?_
  exact m_iret (u := ()) hx hb hr hlocks hS hP hD dX3_pressureOf_120 hw
def qX3_lacking (x : Mod) (p1 : Int32) (Q : Int32 → Prop) : Prop := (qX3_pressureOf x p1 ((mN x) (Int32.toNatClampNeg 0)) (fun r1 => (∀ v2 : Int32, v2 = ((mN x) (Int32.toNatClampNeg 5)) - r1 → ((v2 ≤ 0 → Q 0) ∧ (¬ v2 ≤ 0 → Q v2)))))
set_option maxHeartbeats 4000000 in
set_option maxRecDepth 100000 in
theorem kX3_lacking (l : Launch) (D : va_G) (I O : ClassId) (a : MA) (sz : Nat) (x : Mod) (p1 : Int32) (Q : Int32 → Prop) (hw : qX3_lacking x p1 Q) : Met l yX3_lacking wsX3_lacking rX3_lacking (mPc D I O [.ref a.1, .int p1] (mdlW I a x) sz) (va_Qi (fun r (_ : Unit) => Q r) (mB D (va_A (mdlW I a x) sz) (fun _ => mdlW I a x)) (va_A (mdlW I a x) sz)) 0 0 (va_A (mdlW I a x) sz) := by
  refine m_start (by decide) rfl (Nat.le_of_ble_eq_true rfl) (fun p e s m below meth c ls H locs hx hb hr hml hts hown hlocks hnm hK hP hD hA hS hl => ?_)
  have hown : s.vm.findClass RX3 = some m.cls := hown
  have hl : lv_has ls 3 [(0, .ref a.1), (1, .int p1)] := hl
  have hiX3 : ∀ w ∈ wsX30, w ∈ wsX3_lacking := by decide +kernel
  have f0 := hts (.fieldLink RX3 7 "WellControlModel" "now" "[I") (by decide +kernel)
  unfold qX3_lacking at hw
  refine lv_aload_n hx hb dX3_lacking_0 rfl (lv_at hl 0 rfl) ?_
  refine va_get (ci := 3) (v := .ref a.2.1) (C := RX3) (T := TX3) (N := 6) hx hb hts hiX3 hown hK.1 hP 0 rfl rfl 0 (by decide) f0 (fun _ h9 => h9) rfl dX3_lacking_1 ?_
  refine lv_iconst (v := 5) hx hb dX3_lacking_4 (by decide) ?_
  refine va_iald hx hb hK.1 hP 3 0 rfl rfl (vp_c 5 4416 (by decide)) dX3_lacking_5 ?_
  refine lv_aload_n hx hb dX3_lacking_6 rfl (lv_at hl 0 rfl) ?_
  refine lv_iload_n hx hb dX3_lacking_7 rfl (lv_at hl 1 rfl) ?_
  refine lv_aload_n hx hb dX3_lacking_8 rfl (lv_at hl 0 rfl) ?_
  refine va_get (ci := 3) (v := .ref a.2.1) (C := RX3) (T := TX3) (N := 6) hx hb hts hiX3 hown hK.1 hP 0 rfl rfl 0 (by decide) f0 (fun _ h9 => h9) rfl dX3_lacking_9 ?_
  refine lv_iconst (v := 0) hx hb dX3_lacking_12 (by decide) ?_
  refine va_iald hx hb hK.1 hP 3 0 rfl rfl (vp_c 0 4416 (by decide)) dX3_lacking_13 ?_
  refine mw_i (mv_V (As := [.int p1, .int ((mN x) (Int32.toNatClampNeg 0))]) (rest := [.int ((mN x) (Int32.toNatClampNeg 5))]) ⟨hx, hb, hml, hown, hts⟩ (kX3_pressureOf l D I O a H.size x p1 ((mN x) (Int32.toNatClampNeg 0)) _ hw) (cwV 2 hts gX3_lacking_X3_pressureOf rfl rfl rfl hdVX3_pressureOf ⟨(Nat.le_of_ble_eq_true rfl), (Nat.le_of_ble_eq_true rfl)⟩) hK hP hD 0 3 rfl rfl rfl rfl hl.1 rfl (Nat.le_of_ble_eq_true rfl) dX3_lacking_14 ⟨(Nat.le_of_ble_eq_true rfl), (Nat.le_of_ble_eq_true rfl)⟩) hP hD hS hA (fun r1 _ H locs hw hP hD hS => ?_)
  have hP : va_P D vwCl (mdlW I a x) H := hP
  have hD : va_D (va_A (mdlW I a x) sz) (mdlW I a x) := hD
  refine lv_isub hx hb dX3_lacking_17 ?_
  refine lv_topi (fun v2 ev2 => ?_)
  have hw := hw v2 ev2
  refine lv_istore_n (lv' := [(2, .int v2), (0, .ref a.1), (1, .int p1)]) hx hb dX3_lacking_18 rfl hl (by decide) rfl (fun ls hl => ?_)
  refine lv_iload_n hx hb dX3_lacking_19 rfl (lv_at hl 0 rfl) ?_
  refine lv_if_le (tgt := 27) hx hb dX3_lacking_20 (by decide) (fun c3 => ?_) (fun c3 => ?_)
  · have hw := hw.1 c3
    refine lv_iconst (v := 0) hx hb dX3_lacking_27 (by decide) ?_
    exact m_iret (u := ()) hx hb hr hlocks hS hP hD dX3_lacking_28 hw
  · have hw := hw.2 c3
    refine lv_iload_n hx hb dX3_lacking_23 rfl (lv_at hl 0 rfl) ?_
    refine lv_goto (tgt := 28) hx hb dX3_lacking_24 (by decide) ?_
    exact m_iret (u := ()) hx hb hr hlocks hS hP hD dX3_lacking_28 hw
def qX3_atShoe (x : Mod) (Q : Int32 → Prop) : Prop := (qX3_lacking x 1 (fun r1 => (qX3_pressureOf x 1 ((mN x) (Int32.toNatClampNeg 3)) (fun r2 => Q (r1 + r2)))))
set_option maxHeartbeats 4000000 in
set_option maxRecDepth 100000 in
theorem kX3_atShoe (l : Launch) (D : va_G) (I O : ClassId) (a : MA) (sz : Nat) (x : Mod) (Q : Int32 → Prop) (hw : qX3_atShoe x Q) : Met l yX3_atShoe wsX3_atShoe rX3_atShoe (mPc D I O [.ref a.1] (mdlW I a x) sz) (va_Qi (fun r (_ : Unit) => Q r) (mB D (va_A (mdlW I a x) sz) (fun _ => mdlW I a x)) (va_A (mdlW I a x) sz)) 0 0 (va_A (mdlW I a x) sz) := by
  refine m_start (by decide) rfl (Nat.le_of_ble_eq_true rfl) (fun p e s m below meth c ls H locs hx hb hr hml hts hown hlocks hnm hK hP hD hA hS hl => ?_)
  have hown : s.vm.findClass RX3 = some m.cls := hown
  have hl : lv_has ls 1 [(0, .ref a.1)] := hl
  have hiX3 : ∀ w ∈ wsX30, w ∈ wsX3_atShoe := by decide +kernel
  have f0 := hts (.fieldLink RX3 7 "WellControlModel" "now" "[I") (by decide +kernel)
  unfold qX3_atShoe at hw
  refine lv_aload_n hx hb dX3_atShoe_0 rfl (lv_at hl 0 rfl) ?_
  refine lv_iconst (v := 1) hx hb dX3_atShoe_1 (by decide) ?_
  refine mw_i (mv_V (As := [.int 1]) (rest := []) ⟨hx, hb, hml, hown, hts⟩ (kX3_lacking l D I O a H.size x 1 _ hw) (cwV 1 hts gX3_atShoe_X3_lacking rfl rfl rfl hdVX3_lacking ⟨(Nat.le_of_ble_eq_true rfl), (Nat.le_of_ble_eq_true rfl)⟩) hK hP hD 0 3 rfl rfl rfl rfl hl.1 rfl (Nat.le_of_ble_eq_true rfl) dX3_atShoe_2 ⟨(Nat.le_of_ble_eq_true rfl), (Nat.le_of_ble_eq_true rfl)⟩) hP hD hS hA (fun r1 _ H locs hw hP hD hS => ?_)
  have hP : va_P D vwCl (mdlW I a x) H := hP
  have hD : va_D (va_A (mdlW I a x) sz) (mdlW I a x) := hD
  refine lv_aload_n hx hb dX3_atShoe_5 rfl (lv_at hl 0 rfl) ?_
  refine lv_iconst (v := 1) hx hb dX3_atShoe_6 (by decide) ?_
  refine lv_aload_n hx hb dX3_atShoe_7 rfl (lv_at hl 0 rfl) ?_
  refine va_get (ci := 3) (v := .ref a.2.1) (C := RX3) (T := TX3) (N := 6) hx hb hts hiX3 hown hK.1 hP 0 rfl rfl 0 (by decide) f0 (fun _ h9 => h9) rfl dX3_atShoe_8 ?_
  refine lv_iconst (v := 3) hx hb dX3_atShoe_11 (by decide) ?_
  refine va_iald hx hb hK.1 hP 3 0 rfl rfl (vp_c 3 4416 (by decide)) dX3_atShoe_12 ?_
  refine mw_i (mv_V (As := [.int 1, .int ((mN x) (Int32.toNatClampNeg 3))]) (rest := [.int r1]) ⟨hx, hb, hml, hown, hts⟩ (kX3_pressureOf l D I O a H.size x 1 ((mN x) (Int32.toNatClampNeg 3)) _ hw) (cwV 2 hts gX3_atShoe_X3_pressureOf rfl rfl rfl hdVX3_pressureOf ⟨(Nat.le_of_ble_eq_true rfl), (Nat.le_of_ble_eq_true rfl)⟩) hK hP hD 0 3 rfl rfl rfl rfl hl.1 rfl (Nat.le_of_ble_eq_true rfl) dX3_atShoe_13 ⟨(Nat.le_of_ble_eq_true rfl), (Nat.le_of_ble_eq_true rfl)⟩) hP hD hS hA (fun r2 _ H locs hw hP hD hS => ?_)
  have hP : va_P D vwCl (mdlW I a x) H := hP
  have hD : va_D (va_A (mdlW I a x) sz) (mdlW I a x) := hD
  refine lv_iadd hx hb dX3_atShoe_16 ?_
  exact m_iret (u := ()) hx hb hr hlocks hS hP hD dX3_atShoe_17 hw
def qX3_check (x : Mod) (Q : Mod → Prop) : Prop := (qX3_atShoe x (fun r1 => ((r1 ≤ ((mN x) (Int32.toNatClampNeg 7)) → ((r1 ≤ ((upd (mN x) (Int32.toNatClampNeg 9) (((mN x) (Int32.toNatClampNeg 9)) + 0)) (Int32.toNatClampNeg 10)) → Q (upd (upd (mN x) (Int32.toNatClampNeg 9) (((mN x) (Int32.toNatClampNeg 9)) + 0)) (Int32.toNatClampNeg 10) ((upd (mN x) (Int32.toNatClampNeg 9) (((mN x) (Int32.toNatClampNeg 9)) + 0)) (Int32.toNatClampNeg 10)), mA x, mP x, mS x, mE x, mH x)) ∧ (¬ r1 ≤ ((upd (mN x) (Int32.toNatClampNeg 9) (((mN x) (Int32.toNatClampNeg 9)) + 0)) (Int32.toNatClampNeg 10)) → Q (upd (upd (mN x) (Int32.toNatClampNeg 9) (((mN x) (Int32.toNatClampNeg 9)) + 0)) (Int32.toNatClampNeg 10) r1, mA x, mP x, mS x, mE x, mH x)))) ∧ (¬ r1 ≤ ((mN x) (Int32.toNatClampNeg 7)) → ((r1 ≤ ((upd (mN x) (Int32.toNatClampNeg 9) (((mN x) (Int32.toNatClampNeg 9)) + 1)) (Int32.toNatClampNeg 10)) → Q (upd (upd (mN x) (Int32.toNatClampNeg 9) (((mN x) (Int32.toNatClampNeg 9)) + 1)) (Int32.toNatClampNeg 10) ((upd (mN x) (Int32.toNatClampNeg 9) (((mN x) (Int32.toNatClampNeg 9)) + 1)) (Int32.toNatClampNeg 10)), mA x, mP x, mS x, mE x, mH x)) ∧ (¬ r1 ≤ ((upd (mN x) (Int32.toNatClampNeg 9) (((mN x) (Int32.toNatClampNeg 9)) + 1)) (Int32.toNatClampNeg 10)) → Q (upd (upd (mN x) (Int32.toNatClampNeg 9) (((mN x) (Int32.toNatClampNeg 9)) + 1)) (Int32.toNatClampNeg 10) r1, mA x, mP x, mS x, mE x, mH x)))))))
set_option maxHeartbeats 4000000 in
set_option maxRecDepth 100000 in
theorem kX3_check (l : Launch) (D : va_G) (I O : ClassId) (a : MA) (sz : Nat) (x : Mod) (Q : Mod → Prop) (hw : qX3_check x Q) : Met l yX3_check wsX3_check rX3_check (mPc D I O [.ref a.1] (mdlW I a x) sz) (va_Qv (fun (u : Mod) => Q u) (mB D (va_A (mdlW I a x) sz) (fun u => mdlW I a u)) (va_A (mdlW I a x) sz)) 0 0 (va_A (mdlW I a x) sz) := by
  refine m_start (by decide) rfl (Nat.le_of_ble_eq_true rfl) (fun p e s m below meth c ls H locs hx hb hr hml hts hown hlocks hnm hK hP hD hA hS hl => ?_)
  have hown : s.vm.findClass RX3 = some m.cls := hown
  have hl : lv_has ls 2 [(0, .ref a.1)] := hl
  have hiX3 : ∀ w ∈ wsX30, w ∈ wsX3_check := by decide +kernel
  have f0 := hts (.fieldLink RX3 7 "WellControlModel" "now" "[I") (by decide +kernel)
  unfold qX3_check at hw
  refine lv_aload_n hx hb dX3_check_0 rfl (lv_at hl 0 rfl) ?_
  refine mw_i (mv_V (As := []) (rest := []) ⟨hx, hb, hml, hown, hts⟩ (kX3_atShoe l D I O a H.size x _ hw) (cwV 0 hts gX3_check_X3_atShoe rfl rfl rfl hdVX3_atShoe ⟨(Nat.le_of_ble_eq_true rfl), (Nat.le_of_ble_eq_true rfl)⟩) hK hP hD 0 3 rfl rfl rfl rfl hl.1 rfl (Nat.le_of_ble_eq_true rfl) dX3_check_1 ⟨(Nat.le_of_ble_eq_true rfl), (Nat.le_of_ble_eq_true rfl)⟩) hP hD hS hA (fun r1 _ H locs hw hP hD hS => ?_)
  have hP : va_P D vwCl (mdlW I a x) H := hP
  have hD : va_D (va_A (mdlW I a x) sz) (mdlW I a x) := hD
  refine lv_istore_n (lv' := [(1, .int r1), (0, .ref a.1)]) hx hb dX3_check_4 rfl hl (by decide) rfl (fun ls hl => ?_)
  refine lv_aload_n hx hb dX3_check_5 rfl (lv_at hl 1 rfl) ?_
  refine va_get (ci := 3) (v := .ref a.2.1) (C := RX3) (T := TX3) (N := 6) hx hb hts hiX3 hown hK.1 hP 0 rfl rfl 0 (by decide) f0 (fun _ h9 => h9) rfl dX3_check_6 ?_
  refine lv_bipush (v := 9) hx hb dX3_check_9 (by decide) ?_
  refine lv_dup2_11 hx hb dX3_check_11 rfl rfl ?_
  refine va_iald hx hb hK.1 hP 3 0 rfl rfl (vp_c 9 4416 (by decide)) dX3_check_12 ?_
  refine lv_iload_n hx hb dX3_check_13 rfl (lv_at hl 0 rfl) ?_
  refine lv_aload_n hx hb dX3_check_14 rfl (lv_at hl 1 rfl) ?_
  refine va_get (ci := 3) (v := .ref a.2.1) (C := RX3) (T := TX3) (N := 6) hx hb hts hiX3 hown hK.1 hP 0 rfl rfl 0 (by decide) f0 (fun _ h9 => h9) rfl dX3_check_15 ?_
  refine lv_bipush (v := 7) hx hb dX3_check_18 (by decide) ?_
  refine va_iald hx hb hK.1 hP 3 0 rfl rfl (vp_c 7 4416 (by decide)) dX3_check_20 ?_
  refine lv_icmp_le (tgt := 28) hx hb dX3_check_21 (by decide) (fun c2 => ?_) (fun c2 => ?_)
  · have hw := hw.1 c2
    refine lv_iconst (v := 0) hx hb dX3_check_28 (by decide) ?_
    refine lv_iadd hx hb dX3_check_29 ?_
    refine va_iast hx hb hK.1 hP hD hS 3 0 rfl rfl (vp_c 9 4416 (by decide)) dX3_check_30 (fun H locs hP hD hS => ?_)
    have hP : va_P D vwCl (mdlW I a (upd (mN x) (Int32.toNatClampNeg 9) (((mN x) (Int32.toNatClampNeg 9)) + 0), mA x, mP x, mS x, mE x, mH x)) H := hP
    have hD : va_D (va_A (mdlW I a x) sz) (mdlW I a (upd (mN x) (Int32.toNatClampNeg 9) (((mN x) (Int32.toNatClampNeg 9)) + 0), mA x, mP x, mS x, mE x, mH x)) := hD
    refine lv_aload_n hx hb dX3_check_31 rfl (lv_at hl 1 rfl) ?_
    refine va_get (ci := 3) (v := .ref a.2.1) (C := RX3) (T := TX3) (N := 6) hx hb hts hiX3 hown hK.1 hP 0 rfl rfl 0 (by decide) f0 (fun _ h9 => h9) rfl dX3_check_32 ?_
    refine lv_bipush (v := 10) hx hb dX3_check_35 (by decide) ?_
    refine lv_iload_n hx hb dX3_check_37 rfl (lv_at hl 0 rfl) ?_
    refine lv_aload_n hx hb dX3_check_38 rfl (lv_at hl 1 rfl) ?_
    refine va_get (ci := 3) (v := .ref a.2.1) (C := RX3) (T := TX3) (N := 6) hx hb hts hiX3 hown hK.1 hP 0 rfl rfl 0 (by decide) f0 (fun _ h9 => h9) rfl dX3_check_39 ?_
    refine lv_bipush (v := 10) hx hb dX3_check_42 (by decide) ?_
    refine va_iald hx hb hK.1 hP 3 0 rfl rfl (vp_c 10 4416 (by decide)) dX3_check_44 ?_
    refine lv_icmp_le (tgt := 52) hx hb dX3_check_45 (by decide) (fun c3 => ?_) (fun c3 => ?_)
    · have hw := hw.1 c3
      refine lv_aload_n hx hb dX3_check_52 rfl (lv_at hl 1 rfl) ?_
      refine va_get (ci := 3) (v := .ref a.2.1) (C := RX3) (T := TX3) (N := 6) hx hb hts hiX3 hown hK.1 hP 0 rfl rfl 0 (by decide) f0 (fun _ h9 => h9) rfl dX3_check_53 ?_
      refine lv_bipush (v := 10) hx hb dX3_check_56 (by decide) ?_
      refine va_iald hx hb hK.1 hP 3 0 rfl rfl (vp_c 10 4416 (by decide)) dX3_check_58 ?_
      refine va_iast hx hb hK.1 hP hD hS 3 0 rfl rfl (vp_c 10 4416 (by decide)) dX3_check_59 (fun H locs hP hD hS => ?_)
      have hP : va_P D vwCl (mdlW I a (upd (upd (mN x) (Int32.toNatClampNeg 9) (((mN x) (Int32.toNatClampNeg 9)) + 0)) (Int32.toNatClampNeg 10) ((upd (mN x) (Int32.toNatClampNeg 9) (((mN x) (Int32.toNatClampNeg 9)) + 0)) (Int32.toNatClampNeg 10)), mA x, mP x, mS x, mE x, mH x)) H := hP
      have hD : va_D (va_A (mdlW I a x) sz) (mdlW I a (upd (upd (mN x) (Int32.toNatClampNeg 9) (((mN x) (Int32.toNatClampNeg 9)) + 0)) (Int32.toNatClampNeg 10) ((upd (mN x) (Int32.toNatClampNeg 9) (((mN x) (Int32.toNatClampNeg 9)) + 0)) (Int32.toNatClampNeg 10)), mA x, mP x, mS x, mE x, mH x)) := hD
      exact m_vret (u := (upd (upd (mN x) (Int32.toNatClampNeg 9) (((mN x) (Int32.toNatClampNeg 9)) + 0)) (Int32.toNatClampNeg 10) ((upd (mN x) (Int32.toNatClampNeg 9) (((mN x) (Int32.toNatClampNeg 9)) + 0)) (Int32.toNatClampNeg 10)), mA x, mP x, mS x, mE x, mH x)) hx hb hr hlocks hS hP hD dX3_check_60 hw
    · have hw := hw.2 c3
      refine lv_iload_n hx hb dX3_check_48 rfl (lv_at hl 0 rfl) ?_
      refine lv_goto (tgt := 59) hx hb dX3_check_49 (by decide) ?_
      refine va_iast hx hb hK.1 hP hD hS 3 0 rfl rfl (vp_c 10 4416 (by decide)) dX3_check_59 (fun H locs hP hD hS => ?_)
      have hP : va_P D vwCl (mdlW I a (upd (upd (mN x) (Int32.toNatClampNeg 9) (((mN x) (Int32.toNatClampNeg 9)) + 0)) (Int32.toNatClampNeg 10) r1, mA x, mP x, mS x, mE x, mH x)) H := hP
      have hD : va_D (va_A (mdlW I a x) sz) (mdlW I a (upd (upd (mN x) (Int32.toNatClampNeg 9) (((mN x) (Int32.toNatClampNeg 9)) + 0)) (Int32.toNatClampNeg 10) r1, mA x, mP x, mS x, mE x, mH x)) := hD
      exact m_vret (u := (upd (upd (mN x) (Int32.toNatClampNeg 9) (((mN x) (Int32.toNatClampNeg 9)) + 0)) (Int32.toNatClampNeg 10) r1, mA x, mP x, mS x, mE x, mH x)) hx hb hr hlocks hS hP hD dX3_check_60 hw
  · have hw := hw.2 c2
    refine lv_iconst (v := 1) hx hb dX3_check_24 (by decide) ?_
    refine lv_goto (tgt := 29) hx hb dX3_check_25 (by decide) ?_
    refine lv_iadd hx hb dX3_check_29 ?_
    refine va_iast hx hb hK.1 hP hD hS 3 0 rfl rfl (vp_c 9 4416 (by decide)) dX3_check_30 (fun H locs hP hD hS => ?_)
    have hP : va_P D vwCl (mdlW I a (upd (mN x) (Int32.toNatClampNeg 9) (((mN x) (Int32.toNatClampNeg 9)) + 1), mA x, mP x, mS x, mE x, mH x)) H := hP
    have hD : va_D (va_A (mdlW I a x) sz) (mdlW I a (upd (mN x) (Int32.toNatClampNeg 9) (((mN x) (Int32.toNatClampNeg 9)) + 1), mA x, mP x, mS x, mE x, mH x)) := hD
    refine lv_aload_n hx hb dX3_check_31 rfl (lv_at hl 1 rfl) ?_
    refine va_get (ci := 3) (v := .ref a.2.1) (C := RX3) (T := TX3) (N := 6) hx hb hts hiX3 hown hK.1 hP 0 rfl rfl 0 (by decide) f0 (fun _ h9 => h9) rfl dX3_check_32 ?_
    refine lv_bipush (v := 10) hx hb dX3_check_35 (by decide) ?_
    refine lv_iload_n hx hb dX3_check_37 rfl (lv_at hl 0 rfl) ?_
    refine lv_aload_n hx hb dX3_check_38 rfl (lv_at hl 1 rfl) ?_
    refine va_get (ci := 3) (v := .ref a.2.1) (C := RX3) (T := TX3) (N := 6) hx hb hts hiX3 hown hK.1 hP 0 rfl rfl 0 (by decide) f0 (fun _ h9 => h9) rfl dX3_check_39 ?_
    refine lv_bipush (v := 10) hx hb dX3_check_42 (by decide) ?_
    refine va_iald hx hb hK.1 hP 3 0 rfl rfl (vp_c 10 4416 (by decide)) dX3_check_44 ?_
    refine lv_icmp_le (tgt := 52) hx hb dX3_check_45 (by decide) (fun c4 => ?_) (fun c4 => ?_)
    · have hw := hw.1 c4
      refine lv_aload_n hx hb dX3_check_52 rfl (lv_at hl 1 rfl) ?_
      refine va_get (ci := 3) (v := .ref a.2.1) (C := RX3) (T := TX3) (N := 6) hx hb hts hiX3 hown hK.1 hP 0 rfl rfl 0 (by decide) f0 (fun _ h9 => h9) rfl dX3_check_53 ?_
      refine lv_bipush (v := 10) hx hb dX3_check_56 (by decide) ?_
      refine va_iald hx hb hK.1 hP 3 0 rfl rfl (vp_c 10 4416 (by decide)) dX3_check_58 ?_
      refine va_iast hx hb hK.1 hP hD hS 3 0 rfl rfl (vp_c 10 4416 (by decide)) dX3_check_59 (fun H locs hP hD hS => ?_)
      have hP : va_P D vwCl (mdlW I a (upd (upd (mN x) (Int32.toNatClampNeg 9) (((mN x) (Int32.toNatClampNeg 9)) + 1)) (Int32.toNatClampNeg 10) ((upd (mN x) (Int32.toNatClampNeg 9) (((mN x) (Int32.toNatClampNeg 9)) + 1)) (Int32.toNatClampNeg 10)), mA x, mP x, mS x, mE x, mH x)) H := hP
      have hD : va_D (va_A (mdlW I a x) sz) (mdlW I a (upd (upd (mN x) (Int32.toNatClampNeg 9) (((mN x) (Int32.toNatClampNeg 9)) + 1)) (Int32.toNatClampNeg 10) ((upd (mN x) (Int32.toNatClampNeg 9) (((mN x) (Int32.toNatClampNeg 9)) + 1)) (Int32.toNatClampNeg 10)), mA x, mP x, mS x, mE x, mH x)) := hD
      exact m_vret (u := (upd (upd (mN x) (Int32.toNatClampNeg 9) (((mN x) (Int32.toNatClampNeg 9)) + 1)) (Int32.toNatClampNeg 10) ((upd (mN x) (Int32.toNatClampNeg 9) (((mN x) (Int32.toNatClampNeg 9)) + 1)) (Int32.toNatClampNeg 10)), mA x, mP x, mS x, mE x, mH x)) hx hb hr hlocks hS hP hD dX3_check_60 hw
    · have hw := hw.2 c4
      refine lv_iload_n hx hb dX3_check_48 rfl (lv_at hl 0 rfl) ?_
      refine lv_goto (tgt := 59) hx hb dX3_check_49 (by decide) ?_
      refine va_iast hx hb hK.1 hP hD hS 3 0 rfl rfl (vp_c 10 4416 (by decide)) dX3_check_59 (fun H locs hP hD hS => ?_)
      have hP : va_P D vwCl (mdlW I a (upd (upd (mN x) (Int32.toNatClampNeg 9) (((mN x) (Int32.toNatClampNeg 9)) + 1)) (Int32.toNatClampNeg 10) r1, mA x, mP x, mS x, mE x, mH x)) H := hP
      have hD : va_D (va_A (mdlW I a x) sz) (mdlW I a (upd (upd (mN x) (Int32.toNatClampNeg 9) (((mN x) (Int32.toNatClampNeg 9)) + 1)) (Int32.toNatClampNeg 10) r1, mA x, mP x, mS x, mE x, mH x)) := hD
      exact m_vret (u := (upd (upd (mN x) (Int32.toNatClampNeg 9) (((mN x) (Int32.toNatClampNeg 9)) + 1)) (Int32.toNatClampNeg 10) r1, mA x, mP x, mS x, mE x, mH x)) hx hb hr hlocks hS hP hD dX3_check_60 hw
def qX3_setGeometry (x : Mod) (p1 : Int32) (p2 : Int32) (p3 : Int32) (p4 : Int32) (Q : Int32 → Mod → Prop) : Prop := (qX3_in p1 100 3000 (fun r1 => ((r1 = 0 → (qX3_error x (-2) (fun r3 u4 => Q r3 u4))) ∧ (¬ r1 = 0 → (qX3_in p2 1 20 (fun r5 => ((r5 = 0 → (qX3_error x (-2) (fun r7 u8 => Q r7 u8))) ∧ (¬ r5 = 0 → (qX3_in p3 5 60 (fun r9 => ((r9 = 0 → (qX3_error x (-2) (fun r11 u12 => Q r11 u12))) ∧ (¬ r9 = 0 → (qX3_in p4 1 p1 (fun r13 => ((¬ r13 = 0 → (qX3_save x (fun u15 => (qX3_fill (upd (upd (upd (upd (mN u15) (Int32.toNatClampNeg 0) p1) (Int32.toNatClampNeg 1) p2) (Int32.toNatClampNeg 2) p3) (Int32.toNatClampNeg 3) p4, mA u15, mP u15, mS u15, mE u15, mH u15) (fun u16 => (qX3_volumeOf u16 0 (fun r17 => (qX3_volumeOf u16 1 (fun r18 => Q (r17 + r18) u16))))))))) ∧ (r13 = 0 → (qX3_error x (-2) (fun r19 u20 => Q r19 u20))))))))))))))))))
set_option maxHeartbeats 4000000 in
set_option maxRecDepth 100000 in
theorem kX3_setGeometry (l : Launch) (D : va_G) (I O : ClassId) (a : MA) (sz : Nat) (x : Mod) (p1 : Int32) (p2 : Int32) (p3 : Int32) (p4 : Int32) (Q : Int32 → Mod → Prop) (hw : qX3_setGeometry x p1 p2 p3 p4 Q) : Met l yX3_setGeometry wsX3_setGeometry rX3_setGeometry (mPc D I O [.ref a.1, .int p1, .int p2, .int p3, .int p4] (mdlW I a x) sz) (va_Qi (fun r (u : Mod) => Q r u) (mB D (va_A (mdlW I a x) sz) (fun u => mdlW I a u)) (va_A (mdlW I a x) sz)) 0 0 (va_A (mdlW I a x) sz) := by
  refine m_start (by decide) rfl (Nat.le_of_ble_eq_true rfl) (fun p e s m below meth c ls H locs hx hb hr hml hts hown hlocks hnm hK hP hD hA hS hl => ?_)
  have hown : s.vm.findClass RX3 = some m.cls := hown
  have hl : lv_has ls 5 [(0, .ref a.1), (1, .int p1), (2, .int p2), (3, .int p3), (4, .int p4)] := hl
  have hiX3 : ∀ w ∈ wsX30, w ∈ wsX3_setGeometry := by decide +kernel
  have f0 := hts (.fieldLink RX3 7 "WellControlModel" "now" "[I") (by decide +kernel)
  unfold qX3_setGeometry at hw
  refine lv_iload_n hx hb dX3_setGeometry_0 rfl (lv_at hl 1 rfl) ?_
  refine lv_bipush (v := 100) hx hb dX3_setGeometry_1 (by decide) ?_
  refine lv_sipush (v := 3000) hx hb dX3_setGeometry_3 (by decide) ?_
  refine m0_i (mv_S (As := [.int p1, .int 100, .int 3000]) (rest := []) ⟨hx, hb, hml, hown, hts⟩ (kX3_in l D I O H.size p1 100 3000 _ hw) (va_cwS 3 hts gX3_setGeometry_X3_in rfl rfl rfl hdSX3_in ⟨(Nat.le_of_ble_eq_true rfl), (Nat.le_of_ble_eq_true rfl)⟩) hK (nil_P (D := D) (H := H)) (nil_D (A := va_A (mdlW I a x) sz)) rfl hl.1 rfl (Nat.le_of_ble_eq_true rfl) dX3_setGeometry_6 ⟨(Nat.le_of_ble_eq_true rfl), (Nat.le_of_ble_eq_true rfl)⟩) hP hD hS hA (fun r1 _ H locs hw hP hD hS => ?_)
  refine lv_if_eq (tgt := 42) hx hb dX3_setGeometry_9 (by decide) (fun c2 => ?_) (fun c2 => ?_)
  · have hw := hw.1 c2
    refine lv_aload_n hx hb dX3_setGeometry_42 rfl (lv_at hl 0 rfl) ?_
    refine lv_bipush (v := (-2)) hx hb dX3_setGeometry_43 (by decide) ?_
    refine mw_i (mv_V (As := [.int (-2)]) (rest := []) ⟨hx, hb, hml, hown, hts⟩ (kX3_error l D I O a H.size x (-2) _ hw) (cwV 1 hts gX3_setGeometry_X3_error rfl rfl rfl hdVX3_error ⟨(Nat.le_of_ble_eq_true rfl), (Nat.le_of_ble_eq_true rfl)⟩) hK hP hD 0 3 rfl rfl rfl rfl hl.1 rfl (Nat.le_of_ble_eq_true rfl) dX3_setGeometry_45 ⟨(Nat.le_of_ble_eq_true rfl), (Nat.le_of_ble_eq_true rfl)⟩) hP hD hS hA (fun r3 u4 H locs hw hP hD hS => ?_)
    have hP : va_P D vwCl (mdlW I a u4) H := hP
    have hD : va_D (va_A (mdlW I a x) sz) (mdlW I a u4) := hD
    exact m_iret (u := u4) hx hb hr hlocks hS hP hD dX3_setGeometry_48 hw
  · have hw := hw.2 c2
    refine lv_iload_n hx hb dX3_setGeometry_12 rfl (lv_at hl 2 rfl) ?_
    refine lv_iconst (v := 1) hx hb dX3_setGeometry_13 (by decide) ?_
    refine lv_bipush (v := 20) hx hb dX3_setGeometry_14 (by decide) ?_
    refine m0_i (mv_S (As := [.int p2, .int 1, .int 20]) (rest := []) ⟨hx, hb, hml, hown, hts⟩ (kX3_in l D I O H.size p2 1 20 _ hw) (va_cwS 3 hts gX3_setGeometry_X3_in rfl rfl rfl hdSX3_in ⟨(Nat.le_of_ble_eq_true rfl), (Nat.le_of_ble_eq_true rfl)⟩) hK (nil_P (D := D) (H := H)) (nil_D (A := va_A (mdlW I a x) sz)) rfl hl.1 rfl (Nat.le_of_ble_eq_true rfl) dX3_setGeometry_16 ⟨(Nat.le_of_ble_eq_true rfl), (Nat.le_of_ble_eq_true rfl)⟩) hP hD hS hA (fun r5 _ H locs hw hP hD hS => ?_)
    refine lv_if_eq (tgt := 42) hx hb dX3_setGeometry_19 (by decide) (fun c6 => ?_) (fun c6 => ?_)
    · have hw := hw.1 c6
      refine lv_aload_n hx hb dX3_setGeometry_42 rfl (lv_at hl 0 rfl) ?_
      refine lv_bipush (v := (-2)) hx hb dX3_setGeometry_43 (by decide) ?_
      refine mw_i (mv_V (As := [.int (-2)]) (rest := []) ⟨hx, hb, hml, hown, hts⟩ (kX3_error l D I O a H.size x (-2) _ hw) (cwV 1 hts gX3_setGeometry_X3_error rfl rfl rfl hdVX3_error ⟨(Nat.le_of_ble_eq_true rfl), (Nat.le_of_ble_eq_true rfl)⟩) hK hP hD 0 3 rfl rfl rfl rfl hl.1 rfl (Nat.le_of_ble_eq_true rfl) dX3_setGeometry_45 ⟨(Nat.le_of_ble_eq_true rfl), (Nat.le_of_ble_eq_true rfl)⟩) hP hD hS hA (fun r7 u8 H locs hw hP hD hS => ?_)
      have hP : va_P D vwCl (mdlW I a u8) H := hP
      have hD : va_D (va_A (mdlW I a x) sz) (mdlW I a u8) := hD
      exact m_iret (u := u8) hx hb hr hlocks hS hP hD dX3_setGeometry_48 hw
    · have hw := hw.2 c6
      refine lv_iload_n hx hb dX3_setGeometry_22 rfl (lv_at hl 3 rfl) ?_
      refine lv_iconst (v := 5) hx hb dX3_setGeometry_23 (by decide) ?_
      refine lv_bipush (v := 60) hx hb dX3_setGeometry_24 (by decide) ?_
      refine m0_i (mv_S (As := [.int p3, .int 5, .int 60]) (rest := []) ⟨hx, hb, hml, hown, hts⟩ (kX3_in l D I O H.size p3 5 60 _ hw) (va_cwS 3 hts gX3_setGeometry_X3_in rfl rfl rfl hdSX3_in ⟨(Nat.le_of_ble_eq_true rfl), (Nat.le_of_ble_eq_true rfl)⟩) hK (nil_P (D := D) (H := H)) (nil_D (A := va_A (mdlW I a x) sz)) rfl hl.1 rfl (Nat.le_of_ble_eq_true rfl) dX3_setGeometry_26 ⟨(Nat.le_of_ble_eq_true rfl), (Nat.le_of_ble_eq_true rfl)⟩) hP hD hS hA (fun r9 _ H locs hw hP hD hS => ?_)
      refine lv_if_eq (tgt := 42) hx hb dX3_setGeometry_29 (by decide) (fun c10 => ?_) (fun c10 => ?_)
      · have hw := hw.1 c10
        refine lv_aload_n hx hb dX3_setGeometry_42 rfl (lv_at hl 0 rfl) ?_
        refine lv_bipush (v := (-2)) hx hb dX3_setGeometry_43 (by decide) ?_
        refine mw_i (mv_V (As := [.int (-2)]) (rest := []) ⟨hx, hb, hml, hown, hts⟩ (kX3_error l D I O a H.size x (-2) _ hw) (cwV 1 hts gX3_setGeometry_X3_error rfl rfl rfl hdVX3_error ⟨(Nat.le_of_ble_eq_true rfl), (Nat.le_of_ble_eq_true rfl)⟩) hK hP hD 0 3 rfl rfl rfl rfl hl.1 rfl (Nat.le_of_ble_eq_true rfl) dX3_setGeometry_45 ⟨(Nat.le_of_ble_eq_true rfl), (Nat.le_of_ble_eq_true rfl)⟩) hP hD hS hA (fun r11 u12 H locs hw hP hD hS => ?_)
        have hP : va_P D vwCl (mdlW I a u12) H := hP
        have hD : va_D (va_A (mdlW I a x) sz) (mdlW I a u12) := hD
        exact m_iret (u := u12) hx hb hr hlocks hS hP hD dX3_setGeometry_48 hw
      · have hw := hw.2 c10
        refine lv_iload hx hb dX3_setGeometry_32 (lv_at hl 4 rfl) ?_
        refine lv_iconst (v := 1) hx hb dX3_setGeometry_34 (by decide) ?_
        refine lv_iload_n hx hb dX3_setGeometry_35 rfl (lv_at hl 1 rfl) ?_
        refine m0_i (mv_S (As := [.int p4, .int 1, .int p1]) (rest := []) ⟨hx, hb, hml, hown, hts⟩ (kX3_in l D I O H.size p4 1 p1 _ hw) (va_cwS 3 hts gX3_setGeometry_X3_in rfl rfl rfl hdSX3_in ⟨(Nat.le_of_ble_eq_true rfl), (Nat.le_of_ble_eq_true rfl)⟩) hK (nil_P (D := D) (H := H)) (nil_D (A := va_A (mdlW I a x) sz)) rfl hl.1 rfl (Nat.le_of_ble_eq_true rfl) dX3_setGeometry_36 ⟨(Nat.le_of_ble_eq_true rfl), (Nat.le_of_ble_eq_true rfl)⟩) hP hD hS hA (fun r13 _ H locs hw hP hD hS => ?_)
        refine lv_if_ne (tgt := 49) hx hb dX3_setGeometry_39 (by decide) (fun c14 => ?_) (fun c14 => ?_)
        · have hw := hw.1 c14
          refine lv_aload_n hx hb dX3_setGeometry_49 rfl (lv_at hl 0 rfl) ?_
          refine mw_v (mv_V (As := []) (rest := []) ⟨hx, hb, hml, hown, hts⟩ (kX3_save l D I O a H.size x _ hw) (cwV 0 hts gX3_setGeometry_X3_save rfl rfl rfl hdVX3_save ⟨(Nat.le_of_ble_eq_true rfl), (Nat.le_of_ble_eq_true rfl)⟩) hK hP hD 0 3 rfl rfl rfl rfl hl.1 rfl (Nat.le_of_ble_eq_true rfl) dX3_setGeometry_50 ⟨(Nat.le_of_ble_eq_true rfl), (Nat.le_of_ble_eq_true rfl)⟩) hP hD hS hA (fun u15 H locs hw hP hD hS => ?_)
          have hP : va_P D vwCl (mdlW I a u15) H := hP
          have hD : va_D (va_A (mdlW I a x) sz) (mdlW I a u15) := hD
          refine lv_aload_n hx hb dX3_setGeometry_53 rfl (lv_at hl 0 rfl) ?_
          refine va_get (ci := 3) (v := .ref a.2.1) (C := RX3) (T := TX3) (N := 6) hx hb hts hiX3 hown hK.1 hP 0 rfl rfl 0 (by decide) f0 (fun _ h9 => h9) rfl dX3_setGeometry_54 ?_
          refine lv_iconst (v := 0) hx hb dX3_setGeometry_57 (by decide) ?_
          refine lv_iload_n hx hb dX3_setGeometry_58 rfl (lv_at hl 1 rfl) ?_
          refine va_iast hx hb hK.1 hP hD hS 3 0 rfl rfl (vp_c 0 4416 (by decide)) dX3_setGeometry_59 (fun H locs hP hD hS => ?_)
          have hP : va_P D vwCl (mdlW I a (upd (mN u15) (Int32.toNatClampNeg 0) p1, mA u15, mP u15, mS u15, mE u15, mH u15)) H := hP
          have hD : va_D (va_A (mdlW I a x) sz) (mdlW I a (upd (mN u15) (Int32.toNatClampNeg 0) p1, mA u15, mP u15, mS u15, mE u15, mH u15)) := hD
          refine lv_aload_n hx hb dX3_setGeometry_60 rfl (lv_at hl 0 rfl) ?_
          refine va_get (ci := 3) (v := .ref a.2.1) (C := RX3) (T := TX3) (N := 6) hx hb hts hiX3 hown hK.1 hP 0 rfl rfl 0 (by decide) f0 (fun _ h9 => h9) rfl dX3_setGeometry_61 ?_
          refine lv_iconst (v := 1) hx hb dX3_setGeometry_64 (by decide) ?_
          refine lv_iload_n hx hb dX3_setGeometry_65 rfl (lv_at hl 2 rfl) ?_
          refine va_iast hx hb hK.1 hP hD hS 3 0 rfl rfl (vp_c 1 4416 (by decide)) dX3_setGeometry_66 (fun H locs hP hD hS => ?_)
          have hP : va_P D vwCl (mdlW I a (upd (upd (mN u15) (Int32.toNatClampNeg 0) p1) (Int32.toNatClampNeg 1) p2, mA u15, mP u15, mS u15, mE u15, mH u15)) H := hP
          have hD : va_D (va_A (mdlW I a x) sz) (mdlW I a (upd (upd (mN u15) (Int32.toNatClampNeg 0) p1) (Int32.toNatClampNeg 1) p2, mA u15, mP u15, mS u15, mE u15, mH u15)) := hD
          refine lv_aload_n hx hb dX3_setGeometry_67 rfl (lv_at hl 0 rfl) ?_
          refine va_get (ci := 3) (v := .ref a.2.1) (C := RX3) (T := TX3) (N := 6) hx hb hts hiX3 hown hK.1 hP 0 rfl rfl 0 (by decide) f0 (fun _ h9 => h9) rfl dX3_setGeometry_68 ?_
          refine lv_iconst (v := 2) hx hb dX3_setGeometry_71 (by decide) ?_
          refine lv_iload_n hx hb dX3_setGeometry_72 rfl (lv_at hl 3 rfl) ?_
          refine va_iast hx hb hK.1 hP hD hS 3 0 rfl rfl (vp_c 2 4416 (by decide)) dX3_setGeometry_73 (fun H locs hP hD hS => ?_)
          have hP : va_P D vwCl (mdlW I a (upd (upd (upd (mN u15) (Int32.toNatClampNeg 0) p1) (Int32.toNatClampNeg 1) p2) (Int32.toNatClampNeg 2) p3, mA u15, mP u15, mS u15, mE u15, mH u15)) H := hP
          have hD : va_D (va_A (mdlW I a x) sz) (mdlW I a (upd (upd (upd (mN u15) (Int32.toNatClampNeg 0) p1) (Int32.toNatClampNeg 1) p2) (Int32.toNatClampNeg 2) p3, mA u15, mP u15, mS u15, mE u15, mH u15)) := hD
          refine lv_aload_n hx hb dX3_setGeometry_74 rfl (lv_at hl 0 rfl) ?_
          refine va_get (ci := 3) (v := .ref a.2.1) (C := RX3) (T := TX3) (N := 6) hx hb hts hiX3 hown hK.1 hP 0 rfl rfl 0 (by decide) f0 (fun _ h9 => h9) rfl dX3_setGeometry_75 ?_
          refine lv_iconst (v := 3) hx hb dX3_setGeometry_78 (by decide) ?_
          refine lv_iload hx hb dX3_setGeometry_79 (lv_at hl 4 rfl) ?_
          refine va_iast hx hb hK.1 hP hD hS 3 0 rfl rfl (vp_c 3 4416 (by decide)) dX3_setGeometry_81 (fun H locs hP hD hS => ?_)
          have hP : va_P D vwCl (mdlW I a (upd (upd (upd (upd (mN u15) (Int32.toNatClampNeg 0) p1) (Int32.toNatClampNeg 1) p2) (Int32.toNatClampNeg 2) p3) (Int32.toNatClampNeg 3) p4, mA u15, mP u15, mS u15, mE u15, mH u15)) H := hP
          have hD : va_D (va_A (mdlW I a x) sz) (mdlW I a (upd (upd (upd (upd (mN u15) (Int32.toNatClampNeg 0) p1) (Int32.toNatClampNeg 1) p2) (Int32.toNatClampNeg 2) p3) (Int32.toNatClampNeg 3) p4, mA u15, mP u15, mS u15, mE u15, mH u15)) := hD
          refine lv_aload_n hx hb dX3_setGeometry_82 rfl (lv_at hl 0 rfl) ?_
          refine mw_v (mv_V (As := []) (rest := []) ⟨hx, hb, hml, hown, hts⟩ (kX3_fill l D I O a H.size (upd (upd (upd (upd (mN u15) (Int32.toNatClampNeg 0) p1) (Int32.toNatClampNeg 1) p2) (Int32.toNatClampNeg 2) p3) (Int32.toNatClampNeg 3) p4, mA u15, mP u15, mS u15, mE u15, mH u15) _ hw) (cwV 0 hts gX3_setGeometry_X3_fill rfl rfl rfl hdVX3_fill ⟨(Nat.le_of_ble_eq_true rfl), (Nat.le_of_ble_eq_true rfl)⟩) hK hP hD 0 3 rfl rfl rfl rfl hl.1 rfl (Nat.le_of_ble_eq_true rfl) dX3_setGeometry_83 ⟨(Nat.le_of_ble_eq_true rfl), (Nat.le_of_ble_eq_true rfl)⟩) hP hD hS hA (fun u16 H locs hw hP hD hS => ?_)
          have hP : va_P D vwCl (mdlW I a u16) H := hP
          have hD : va_D (va_A (mdlW I a x) sz) (mdlW I a u16) := hD
          refine lv_aload_n hx hb dX3_setGeometry_86 rfl (lv_at hl 0 rfl) ?_
          refine lv_iconst (v := 0) hx hb dX3_setGeometry_87 (by decide) ?_
          refine mw_i (mv_V (As := [.int 0]) (rest := []) ⟨hx, hb, hml, hown, hts⟩ (kX3_volumeOf l D I O a H.size u16 0 _ hw) (cwV 1 hts gX3_setGeometry_X3_volumeOf rfl rfl rfl hdVX3_volumeOf ⟨(Nat.le_of_ble_eq_true rfl), (Nat.le_of_ble_eq_true rfl)⟩) hK hP hD 0 3 rfl rfl rfl rfl hl.1 rfl (Nat.le_of_ble_eq_true rfl) dX3_setGeometry_88 ⟨(Nat.le_of_ble_eq_true rfl), (Nat.le_of_ble_eq_true rfl)⟩) hP hD hS hA (fun r17 _ H locs hw hP hD hS => ?_)
          have hP : va_P D vwCl (mdlW I a u16) H := hP
          have hD : va_D (va_A (mdlW I a x) sz) (mdlW I a u16) := hD
          refine lv_aload_n hx hb dX3_setGeometry_91 rfl (lv_at hl 0 rfl) ?_
          refine lv_iconst (v := 1) hx hb dX3_setGeometry_92 (by decide) ?_
          refine mw_i (mv_V (As := [.int 1]) (rest := [.int r17]) ⟨hx, hb, hml, hown, hts⟩ (kX3_volumeOf l D I O a H.size u16 1 _ hw) (cwV 1 hts gX3_setGeometry_X3_volumeOf rfl rfl rfl hdVX3_volumeOf ⟨(Nat.le_of_ble_eq_true rfl), (Nat.le_of_ble_eq_true rfl)⟩) hK hP hD 0 3 rfl rfl rfl rfl hl.1 rfl (Nat.le_of_ble_eq_true rfl) dX3_setGeometry_93 ⟨(Nat.le_of_ble_eq_true rfl), (Nat.le_of_ble_eq_true rfl)⟩) hP hD hS hA (fun r18 _ H locs hw hP hD hS => ?_)
          have hP : va_P D vwCl (mdlW I a u16) H := hP
          have hD : va_D (va_A (mdlW I a x) sz) (mdlW I a u16) := hD
          refine lv_iadd hx hb dX3_setGeometry_96 ?_
          exact m_iret (u := u16) hx hb hr hlocks hS hP hD dX3_setGeometry_97 hw
        · have hw := hw.2 c14
          refine lv_aload_n hx hb dX3_setGeometry_42 rfl (lv_at hl 0 rfl) ?_
          refine lv_bipush (v := (-2)) hx hb dX3_setGeometry_43 (by decide) ?_
          refine mw_i (mv_V (As := [.int (-2)]) (rest := []) ⟨hx, hb, hml, hown, hts⟩ (kX3_error l D I O a H.size x (-2) _ hw) (cwV 1 hts gX3_setGeometry_X3_error rfl rfl rfl hdVX3_error ⟨(Nat.le_of_ble_eq_true rfl), (Nat.le_of_ble_eq_true rfl)⟩) hK hP hD 0 3 rfl rfl rfl rfl hl.1 rfl (Nat.le_of_ble_eq_true rfl) dX3_setGeometry_45 ⟨(Nat.le_of_ble_eq_true rfl), (Nat.le_of_ble_eq_true rfl)⟩) hP hD hS hA (fun r19 u20 H locs hw hP hD hS => ?_)
          have hP : va_P D vwCl (mdlW I a u20) H := hP
          have hD : va_D (va_A (mdlW I a x) sz) (mdlW I a u20) := hD
          exact m_iret (u := u20) hx hb hr hlocks hS hP hD dX3_setGeometry_48 hw
def qX3_set (x : Mod) (p1 : Int32) (p2 : Int32) (p3 : Int32) (p4 : Int32) (Q : Int32 → Mod → Prop) : Prop := (qX3_in p2 p3 p4 (fun r1 => ((¬ r1 = 0 → (qX3_save x (fun u3 => (vp_in p1 4416 ∧ (∀ v5 : Int32, v5 = (mN u3) (Int32.toNatClampNeg p1) → (vp_in p1 4416 ∧ Q v5 (upd (mN u3) (Int32.toNatClampNeg p1) p2, mA u3, mP u3, mS u3, mE u3, mH u3))))))) ∧ (r1 = 0 → (qX3_error x (-2) (fun r7 u8 => Q r7 u8))))))
set_option maxHeartbeats 4000000 in
set_option maxRecDepth 100000 in
theorem kX3_set (l : Launch) (D : va_G) (I O : ClassId) (a : MA) (sz : Nat) (x : Mod) (p1 : Int32) (p2 : Int32) (p3 : Int32) (p4 : Int32) (Q : Int32 → Mod → Prop) (hw : qX3_set x p1 p2 p3 p4 Q) : Met l yX3_set wsX3_set rX3_set (mPc D I O [.ref a.1, .int p1, .int p2, .int p3, .int p4] (mdlW I a x) sz) (va_Qi (fun r (u : Mod) => Q r u) (mB D (va_A (mdlW I a x) sz) (fun u => mdlW I a u)) (va_A (mdlW I a x) sz)) 0 0 (va_A (mdlW I a x) sz) := by
  refine m_start (by decide) rfl (Nat.le_of_ble_eq_true rfl) (fun p e s m below meth c ls H locs hx hb hr hml hts hown hlocks hnm hK hP hD hA hS hl => ?_)
  have hown : s.vm.findClass RX3 = some m.cls := hown
  have hl : lv_has ls 6 [(0, .ref a.1), (1, .int p1), (2, .int p2), (3, .int p3), (4, .int p4)] := hl
  have hiX3 : ∀ w ∈ wsX30, w ∈ wsX3_set := by decide +kernel
  have f0 := hts (.fieldLink RX3 7 "WellControlModel" "now" "[I") (by decide +kernel)
  unfold qX3_set at hw
  refine lv_iload_n hx hb dX3_set_0 rfl (lv_at hl 2 rfl) ?_
  refine lv_iload_n hx hb dX3_set_1 rfl (lv_at hl 3 rfl) ?_
  refine lv_iload hx hb dX3_set_2 (lv_at hl 4 rfl) ?_
  refine m0_i (mv_S (As := [.int p2, .int p3, .int p4]) (rest := []) ⟨hx, hb, hml, hown, hts⟩ (kX3_in l D I O H.size p2 p3 p4 _ hw) (va_cwS 3 hts gX3_set_X3_in rfl rfl rfl hdSX3_in ⟨(Nat.le_of_ble_eq_true rfl), (Nat.le_of_ble_eq_true rfl)⟩) hK (nil_P (D := D) (H := H)) (nil_D (A := va_A (mdlW I a x) sz)) rfl hl.1 rfl (Nat.le_of_ble_eq_true rfl) dX3_set_4 ⟨(Nat.le_of_ble_eq_true rfl), (Nat.le_of_ble_eq_true rfl)⟩) hP hD hS hA (fun r1 _ H locs hw hP hD hS => ?_)
  refine lv_if_ne (tgt := 17) hx hb dX3_set_7 (by decide) (fun c2 => ?_) (fun c2 => ?_)
  · have hw := hw.1 c2
    refine lv_aload_n hx hb dX3_set_17 rfl (lv_at hl 0 rfl) ?_
    refine mw_v (mv_V (As := []) (rest := []) ⟨hx, hb, hml, hown, hts⟩ (kX3_save l D I O a H.size x _ hw) (cwV 0 hts gX3_set_X3_save rfl rfl rfl hdVX3_save ⟨(Nat.le_of_ble_eq_true rfl), (Nat.le_of_ble_eq_true rfl)⟩) hK hP hD 0 3 rfl rfl rfl rfl hl.1 rfl (Nat.le_of_ble_eq_true rfl) dX3_set_18 ⟨(Nat.le_of_ble_eq_true rfl), (Nat.le_of_ble_eq_true rfl)⟩) hP hD hS hA (fun u3 H locs hw hP hD hS => ?_)
    have hP : va_P D vwCl (mdlW I a u3) H := hP
    have hD : va_D (va_A (mdlW I a x) sz) (mdlW I a u3) := hD
    refine lv_aload_n hx hb dX3_set_21 rfl (lv_at hl 0 rfl) ?_
    refine va_get (ci := 3) (v := .ref a.2.1) (C := RX3) (T := TX3) (N := 6) hx hb hts hiX3 hown hK.1 hP 0 rfl rfl 0 (by decide) f0 (fun _ h9 => h9) rfl dX3_set_22 ?_
    refine lv_iload_n hx hb dX3_set_25 rfl (lv_at hl 1 rfl) ?_
    obtain ⟨h4, hw⟩ := hw
    refine va_iald hx hb hK.1 hP 3 0 rfl rfl h4 dX3_set_26 ?_
    refine lv_topi (fun v5 ev5 => ?_)
    have hw := hw v5 ev5
    refine lv_istore (lv' := [(5, .int v5), (0, .ref a.1), (1, .int p1), (2, .int p2), (3, .int p3), (4, .int p4)]) hx hb dX3_set_27 hl (by decide) rfl (fun ls hl => ?_)
    refine lv_aload_n hx hb dX3_set_29 rfl (lv_at hl 1 rfl) ?_
    refine va_get (ci := 3) (v := .ref a.2.1) (C := RX3) (T := TX3) (N := 6) hx hb hts hiX3 hown hK.1 hP 0 rfl rfl 0 (by decide) f0 (fun _ h9 => h9) rfl dX3_set_30 ?_
    refine lv_iload_n hx hb dX3_set_33 rfl (lv_at hl 2 rfl) ?_
    refine lv_iload_n hx hb dX3_set_34 rfl (lv_at hl 3 rfl) ?_
    obtain ⟨h6, hw⟩ := hw
    refine va_iast hx hb hK.1 hP hD hS 3 0 rfl rfl h6 dX3_set_35 (fun H locs hP hD hS => ?_)
    have hP : va_P D vwCl (mdlW I a (upd (mN u3) (Int32.toNatClampNeg p1) p2, mA u3, mP u3, mS u3, mE u3, mH u3)) H := hP
    have hD : va_D (va_A (mdlW I a x) sz) (mdlW I a (upd (mN u3) (Int32.toNatClampNeg p1) p2, mA u3, mP u3, mS u3, mE u3, mH u3)) := hD
    refine lv_iload hx hb dX3_set_36 (lv_at hl 0 rfl) ?_
    exact m_iret (u := (upd (mN u3) (Int32.toNatClampNeg p1) p2, mA u3, mP u3, mS u3, mE u3, mH u3)) hx hb hr hlocks hS hP hD dX3_set_38 hw
  · have hw := hw.2 c2
    refine lv_aload_n hx hb dX3_set_10 rfl (lv_at hl 0 rfl) ?_
    refine lv_bipush (v := (-2)) hx hb dX3_set_11 (by decide) ?_
    refine mw_i (mv_V (As := [.int (-2)]) (rest := []) ⟨hx, hb, hml, hown, hts⟩ (kX3_error l D I O a H.size x (-2) _ hw) (cwV 1 hts gX3_set_X3_error rfl rfl rfl hdVX3_error ⟨(Nat.le_of_ble_eq_true rfl), (Nat.le_of_ble_eq_true rfl)⟩) hK hP hD 0 3 rfl rfl rfl rfl hl.1 rfl (Nat.le_of_ble_eq_true rfl) dX3_set_13 ⟨(Nat.le_of_ble_eq_true rfl), (Nat.le_of_ble_eq_true rfl)⟩) hP hD hS hA (fun r7 u8 H locs hw hP hD hS => ?_)
    have hP : va_P D vwCl (mdlW I a u8) H := hP
    have hD : va_D (va_A (mdlW I a x) sz) (mdlW I a u8) := hD
    exact m_iret (u := u8) hx hb hr hlocks hS hP hD dX3_set_16 hw
def qX3_setMud (x : Mod) (p1 : Int32) (Q : Int32 → Mod → Prop) : Prop := (qX3_set x 4 p1 1 2500 (fun r1 u2 => Q r1 u2))
set_option maxHeartbeats 4000000 in
set_option maxRecDepth 100000 in
theorem kX3_setMud (l : Launch) (D : va_G) (I O : ClassId) (a : MA) (sz : Nat) (x : Mod) (p1 : Int32) (Q : Int32 → Mod → Prop) (hw : qX3_setMud x p1 Q) : Met l yX3_setMud wsX3_setMud rX3_setMud (mPc D I O [.ref a.1, .int p1] (mdlW I a x) sz) (va_Qi (fun r (u : Mod) => Q r u) (mB D (va_A (mdlW I a x) sz) (fun u => mdlW I a u)) (va_A (mdlW I a x) sz)) 0 0 (va_A (mdlW I a x) sz) := by
  refine m_start (by decide) rfl (Nat.le_of_ble_eq_true rfl) (fun p e s m below meth c ls H locs hx hb hr hml hts hown hlocks hnm hK hP hD hA hS hl => ?_)
  have hown : s.vm.findClass RX3 = some m.cls := hown
  have hl : lv_has ls 2 [(0, .ref a.1), (1, .int p1)] := hl
  unfold qX3_setMud at hw
  refine lv_aload_n hx hb dX3_setMud_0 rfl (lv_at hl 0 rfl) ?_
  refine lv_iconst (v := 4) hx hb dX3_setMud_1 (by decide) ?_
  refine lv_iload_n hx hb dX3_setMud_2 rfl (lv_at hl 1 rfl) ?_
  refine lv_iconst (v := 1) hx hb dX3_setMud_3 (by decide) ?_
  refine lv_sipush (v := 2500) hx hb dX3_setMud_4 (by decide) ?_
  refine mw_i (mv_V (As := [.int 4, .int p1, .int 1, .int 2500]) (rest := []) ⟨hx, hb, hml, hown, hts⟩ (kX3_set l D I O a H.size x 4 p1 1 2500 _ hw) (cwV 4 hts gX3_setMud_X3_set rfl rfl rfl hdVX3_set ⟨(Nat.le_of_ble_eq_true rfl), (Nat.le_of_ble_eq_true rfl)⟩) hK hP hD 0 3 rfl rfl rfl rfl hl.1 rfl (Nat.le_of_ble_eq_true rfl) dX3_setMud_7 ⟨(Nat.le_of_ble_eq_true rfl), (Nat.le_of_ble_eq_true rfl)⟩) hP hD hS hA (fun r1 u2 H locs hw hP hD hS => ?_)
  have hP : va_P D vwCl (mdlW I a u2) H := hP
  have hD : va_D (va_A (mdlW I a x) sz) (mdlW I a u2) := hD
  exact m_iret (u := u2) hx hb hr hlocks hS hP hD dX3_setMud_10 hw
def qX3_setFormation (x : Mod) (p1 : Int32) (Q : Int32 → Mod → Prop) : Prop := (qX3_set x 5 p1 0 60000 (fun r1 u2 => Q r1 u2))
set_option maxHeartbeats 4000000 in
set_option maxRecDepth 100000 in
theorem kX3_setFormation (l : Launch) (D : va_G) (I O : ClassId) (a : MA) (sz : Nat) (x : Mod) (p1 : Int32) (Q : Int32 → Mod → Prop) (hw : qX3_setFormation x p1 Q) : Met l yX3_setFormation wsX3_setFormation rX3_setFormation (mPc D I O [.ref a.1, .int p1] (mdlW I a x) sz) (va_Qi (fun r (u : Mod) => Q r u) (mB D (va_A (mdlW I a x) sz) (fun u => mdlW I a u)) (va_A (mdlW I a x) sz)) 0 0 (va_A (mdlW I a x) sz) := by
  refine m_start (by decide) rfl (Nat.le_of_ble_eq_true rfl) (fun p e s m below meth c ls H locs hx hb hr hml hts hown hlocks hnm hK hP hD hA hS hl => ?_)
  have hown : s.vm.findClass RX3 = some m.cls := hown
  have hl : lv_has ls 2 [(0, .ref a.1), (1, .int p1)] := hl
  have f0 := hts (.constant RX3 86 (60000)) (by decide +kernel)
  unfold qX3_setFormation at hw
  refine lv_aload_n hx hb dX3_setFormation_0 rfl (lv_at hl 0 rfl) ?_
  refine lv_iconst (v := 5) hx hb dX3_setFormation_1 (by decide) ?_
  refine lv_iload_n hx hb dX3_setFormation_2 rfl (lv_at hl 1 rfl) ?_
  refine lv_iconst (v := 0) hx hb dX3_setFormation_3 (by decide) ?_
  refine lv_ldc (v := 60000) hx hb hown f0 dX3_setFormation_4 ?_
  refine mw_i (mv_V (As := [.int 5, .int p1, .int 0, .int 60000]) (rest := []) ⟨hx, hb, hml, hown, hts⟩ (kX3_set l D I O a H.size x 5 p1 0 60000 _ hw) (cwV 4 hts gX3_setFormation_X3_set rfl rfl rfl hdVX3_set ⟨(Nat.le_of_ble_eq_true rfl), (Nat.le_of_ble_eq_true rfl)⟩) hK hP hD 0 3 rfl rfl rfl rfl hl.1 rfl (Nat.le_of_ble_eq_true rfl) dX3_setFormation_6 ⟨(Nat.le_of_ble_eq_true rfl), (Nat.le_of_ble_eq_true rfl)⟩) hP hD hS hA (fun r1 u2 H locs hw hP hD hS => ?_)
  have hP : va_P D vwCl (mdlW I a u2) H := hP
  have hD : va_D (va_A (mdlW I a x) sz) (mdlW I a u2) := hD
  exact m_iret (u := u2) hx hb hr hlocks hS hP hD dX3_setFormation_9 hw
def qX3_setSlowPump (x : Mod) (p1 : Int32) (Q : Int32 → Mod → Prop) : Prop := (qX3_set x 6 p1 0 9999 (fun r1 u2 => Q r1 u2))
set_option maxHeartbeats 4000000 in
set_option maxRecDepth 100000 in
theorem kX3_setSlowPump (l : Launch) (D : va_G) (I O : ClassId) (a : MA) (sz : Nat) (x : Mod) (p1 : Int32) (Q : Int32 → Mod → Prop) (hw : qX3_setSlowPump x p1 Q) : Met l yX3_setSlowPump wsX3_setSlowPump rX3_setSlowPump (mPc D I O [.ref a.1, .int p1] (mdlW I a x) sz) (va_Qi (fun r (u : Mod) => Q r u) (mB D (va_A (mdlW I a x) sz) (fun u => mdlW I a u)) (va_A (mdlW I a x) sz)) 0 0 (va_A (mdlW I a x) sz) := by
  refine m_start (by decide) rfl (Nat.le_of_ble_eq_true rfl) (fun p e s m below meth c ls H locs hx hb hr hml hts hown hlocks hnm hK hP hD hA hS hl => ?_)
  have hown : s.vm.findClass RX3 = some m.cls := hown
  have hl : lv_has ls 2 [(0, .ref a.1), (1, .int p1)] := hl
  unfold qX3_setSlowPump at hw
  refine lv_aload_n hx hb dX3_setSlowPump_0 rfl (lv_at hl 0 rfl) ?_
  refine lv_bipush (v := 6) hx hb dX3_setSlowPump_1 (by decide) ?_
  refine lv_iload_n hx hb dX3_setSlowPump_3 rfl (lv_at hl 1 rfl) ?_
  refine lv_iconst (v := 0) hx hb dX3_setSlowPump_4 (by decide) ?_
  refine lv_sipush (v := 9999) hx hb dX3_setSlowPump_5 (by decide) ?_
  refine mw_i (mv_V (As := [.int 6, .int p1, .int 0, .int 9999]) (rest := []) ⟨hx, hb, hml, hown, hts⟩ (kX3_set l D I O a H.size x 6 p1 0 9999 _ hw) (cwV 4 hts gX3_setSlowPump_X3_set rfl rfl rfl hdVX3_set ⟨(Nat.le_of_ble_eq_true rfl), (Nat.le_of_ble_eq_true rfl)⟩) hK hP hD 0 3 rfl rfl rfl rfl hl.1 rfl (Nat.le_of_ble_eq_true rfl) dX3_setSlowPump_8 ⟨(Nat.le_of_ble_eq_true rfl), (Nat.le_of_ble_eq_true rfl)⟩) hP hD hS hA (fun r1 u2 H locs hw hP hD hS => ?_)
  have hP : va_P D vwCl (mdlW I a u2) H := hP
  have hD : va_D (va_A (mdlW I a x) sz) (mdlW I a u2) := hD
  exact m_iret (u := u2) hx hb hr hlocks hS hP hD dX3_setSlowPump_11 hw
def qX3_setFracture (x : Mod) (p1 : Int32) (Q : Int32 → Mod → Prop) : Prop := (qX3_set x 7 p1 0 60000 (fun r1 u2 => Q r1 u2))
set_option maxHeartbeats 4000000 in
set_option maxRecDepth 100000 in
theorem kX3_setFracture (l : Launch) (D : va_G) (I O : ClassId) (a : MA) (sz : Nat) (x : Mod) (p1 : Int32) (Q : Int32 → Mod → Prop) (hw : qX3_setFracture x p1 Q) : Met l yX3_setFracture wsX3_setFracture rX3_setFracture (mPc D I O [.ref a.1, .int p1] (mdlW I a x) sz) (va_Qi (fun r (u : Mod) => Q r u) (mB D (va_A (mdlW I a x) sz) (fun u => mdlW I a u)) (va_A (mdlW I a x) sz)) 0 0 (va_A (mdlW I a x) sz) := by
  refine m_start (by decide) rfl (Nat.le_of_ble_eq_true rfl) (fun p e s m below meth c ls H locs hx hb hr hml hts hown hlocks hnm hK hP hD hA hS hl => ?_)
  have hown : s.vm.findClass RX3 = some m.cls := hown
  have hl : lv_has ls 2 [(0, .ref a.1), (1, .int p1)] := hl
  have f0 := hts (.constant RX3 86 (60000)) (by decide +kernel)
  unfold qX3_setFracture at hw
  refine lv_aload_n hx hb dX3_setFracture_0 rfl (lv_at hl 0 rfl) ?_
  refine lv_bipush (v := 7) hx hb dX3_setFracture_1 (by decide) ?_
  refine lv_iload_n hx hb dX3_setFracture_3 rfl (lv_at hl 1 rfl) ?_
  refine lv_iconst (v := 0) hx hb dX3_setFracture_4 (by decide) ?_
  refine lv_ldc (v := 60000) hx hb hown f0 dX3_setFracture_5 ?_
  refine mw_i (mv_V (As := [.int 7, .int p1, .int 0, .int 60000]) (rest := []) ⟨hx, hb, hml, hown, hts⟩ (kX3_set l D I O a H.size x 7 p1 0 60000 _ hw) (cwV 4 hts gX3_setFracture_X3_set rfl rfl rfl hdVX3_set ⟨(Nat.le_of_ble_eq_true rfl), (Nat.le_of_ble_eq_true rfl)⟩) hK hP hD 0 3 rfl rfl rfl rfl hl.1 rfl (Nat.le_of_ble_eq_true rfl) dX3_setFracture_7 ⟨(Nat.le_of_ble_eq_true rfl), (Nat.le_of_ble_eq_true rfl)⟩) hP hD hS hA (fun r1 u2 H locs hw hP hD hS => ?_)
  have hP : va_P D vwCl (mdlW I a u2) H := hP
  have hD : va_D (va_A (mdlW I a x) sz) (mdlW I a u2) := hD
  exact m_iret (u := u2) hx hb hr hlocks hS hP hD dX3_setFracture_10 hw
def qX3_pump (x : Mod) (p1 : Int32) (Q : Int32 → Mod → Prop) : Prop := ((1 ≤ p1 → (qX3_volumeOf x 0 (fun r2 => ((r2 < p1 → (qX3_error x (-3) (fun r4 u5 => Q r4 u5))) ∧ (¬ r2 < p1 → (qX3_volumeOf x 1 (fun r6 => ((p1 ≤ r6 → (qX3_save x (fun u8 => (qX3_pumpMud u8 p1 ((mN u8) (Int32.toNatClampNeg 4)) (fun u9 => (qX3_check u9 (fun u10 => (qX3_lacking u10 1 (fun r11 => Q r11 u10))))))))) ∧ (¬ p1 ≤ r6 → (qX3_error x (-3) (fun r12 u13 => Q r12 u13))))))))))) ∧ (¬ 1 ≤ p1 → (qX3_error x (-2) (fun r14 u15 => Q r14 u15))))
set_option maxHeartbeats 4000000 in
set_option maxRecDepth 100000 in
theorem kX3_pump (l : Launch) (D : va_G) (I O : ClassId) (a : MA) (sz : Nat) (x : Mod) (p1 : Int32) (Q : Int32 → Mod → Prop) (hw : qX3_pump x p1 Q) : Met l yX3_pump wsX3_pump rX3_pump (mPc D I O [.ref a.1, .int p1] (mdlW I a x) sz) (va_Qi (fun r (u : Mod) => Q r u) (mB D (va_A (mdlW I a x) sz) (fun u => mdlW I a u)) (va_A (mdlW I a x) sz)) 0 0 (va_A (mdlW I a x) sz) := by
  refine m_start (by decide) rfl (Nat.le_of_ble_eq_true rfl) (fun p e s m below meth c ls H locs hx hb hr hml hts hown hlocks hnm hK hP hD hA hS hl => ?_)
  have hown : s.vm.findClass RX3 = some m.cls := hown
  have hl : lv_has ls 2 [(0, .ref a.1), (1, .int p1)] := hl
  have hiX3 : ∀ w ∈ wsX30, w ∈ wsX3_pump := by decide +kernel
  have f0 := hts (.fieldLink RX3 7 "WellControlModel" "now" "[I") (by decide +kernel)
  unfold qX3_pump at hw
  refine lv_iload_n hx hb dX3_pump_0 rfl (lv_at hl 1 rfl) ?_
  refine lv_iconst (v := 1) hx hb dX3_pump_1 (by decide) ?_
  refine lv_icmp_ge (tgt := 12) hx hb dX3_pump_2 (by decide) (fun c1 => ?_) (fun c1 => ?_)
  · have hw := hw.1 c1
    refine lv_iload_n hx hb dX3_pump_12 rfl (lv_at hl 1 rfl) ?_
    refine lv_aload_n hx hb dX3_pump_13 rfl (lv_at hl 0 rfl) ?_
    refine lv_iconst (v := 0) hx hb dX3_pump_14 (by decide) ?_
    refine mw_i (mv_V (As := [.int 0]) (rest := [.int p1]) ⟨hx, hb, hml, hown, hts⟩ (kX3_volumeOf l D I O a H.size x 0 _ hw) (cwV 1 hts gX3_pump_X3_volumeOf rfl rfl rfl hdVX3_volumeOf ⟨(Nat.le_of_ble_eq_true rfl), (Nat.le_of_ble_eq_true rfl)⟩) hK hP hD 0 3 rfl rfl rfl rfl hl.1 rfl (Nat.le_of_ble_eq_true rfl) dX3_pump_15 ⟨(Nat.le_of_ble_eq_true rfl), (Nat.le_of_ble_eq_true rfl)⟩) hP hD hS hA (fun r2 _ H locs hw hP hD hS => ?_)
    have hP : va_P D vwCl (mdlW I a x) H := hP
    have hD : va_D (va_A (mdlW I a x) sz) (mdlW I a x) := hD
    refine lv_icmp_gt (tgt := 30) hx hb dX3_pump_18 (by decide) (fun c3 => ?_) (fun c3 => ?_)
    · have hw := hw.1 c3
      refine lv_aload_n hx hb dX3_pump_30 rfl (lv_at hl 0 rfl) ?_
      refine lv_bipush (v := (-3)) hx hb dX3_pump_31 (by decide) ?_
      refine mw_i (mv_V (As := [.int (-3)]) (rest := []) ⟨hx, hb, hml, hown, hts⟩ (kX3_error l D I O a H.size x (-3) _ hw) (cwV 1 hts gX3_pump_X3_error rfl rfl rfl hdVX3_error ⟨(Nat.le_of_ble_eq_true rfl), (Nat.le_of_ble_eq_true rfl)⟩) hK hP hD 0 3 rfl rfl rfl rfl hl.1 rfl (Nat.le_of_ble_eq_true rfl) dX3_pump_33 ⟨(Nat.le_of_ble_eq_true rfl), (Nat.le_of_ble_eq_true rfl)⟩) hP hD hS hA (fun r4 u5 H locs hw hP hD hS => ?_)
      have hP : va_P D vwCl (mdlW I a u5) H := hP
      have hD : va_D (va_A (mdlW I a x) sz) (mdlW I a u5) := hD
      exact m_iret (u := u5) hx hb hr hlocks hS hP hD dX3_pump_36 hw
    · have hw := hw.2 c3
      refine lv_iload_n hx hb dX3_pump_21 rfl (lv_at hl 1 rfl) ?_
      refine lv_aload_n hx hb dX3_pump_22 rfl (lv_at hl 0 rfl) ?_
      refine lv_iconst (v := 1) hx hb dX3_pump_23 (by decide) ?_
      refine mw_i (mv_V (As := [.int 1]) (rest := [.int p1]) ⟨hx, hb, hml, hown, hts⟩ (kX3_volumeOf l D I O a H.size x 1 _ hw) (cwV 1 hts gX3_pump_X3_volumeOf rfl rfl rfl hdVX3_volumeOf ⟨(Nat.le_of_ble_eq_true rfl), (Nat.le_of_ble_eq_true rfl)⟩) hK hP hD 0 3 rfl rfl rfl rfl hl.1 rfl (Nat.le_of_ble_eq_true rfl) dX3_pump_24 ⟨(Nat.le_of_ble_eq_true rfl), (Nat.le_of_ble_eq_true rfl)⟩) hP hD hS hA (fun r6 _ H locs hw hP hD hS => ?_)
      have hP : va_P D vwCl (mdlW I a x) H := hP
      have hD : va_D (va_A (mdlW I a x) sz) (mdlW I a x) := hD
      refine lv_icmp_le (tgt := 37) hx hb dX3_pump_27 (by decide) (fun c7 => ?_) (fun c7 => ?_)
      · have hw := hw.1 c7
        refine lv_aload_n hx hb dX3_pump_37 rfl (lv_at hl 0 rfl) ?_
        refine mw_v (mv_V (As := []) (rest := []) ⟨hx, hb, hml, hown, hts⟩ (kX3_save l D I O a H.size x _ hw) (cwV 0 hts gX3_pump_X3_save rfl rfl rfl hdVX3_save ⟨(Nat.le_of_ble_eq_true rfl), (Nat.le_of_ble_eq_true rfl)⟩) hK hP hD 0 3 rfl rfl rfl rfl hl.1 rfl (Nat.le_of_ble_eq_true rfl) dX3_pump_38 ⟨(Nat.le_of_ble_eq_true rfl), (Nat.le_of_ble_eq_true rfl)⟩) hP hD hS hA (fun u8 H locs hw hP hD hS => ?_)
        have hP : va_P D vwCl (mdlW I a u8) H := hP
        have hD : va_D (va_A (mdlW I a x) sz) (mdlW I a u8) := hD
        refine lv_aload_n hx hb dX3_pump_41 rfl (lv_at hl 0 rfl) ?_
        refine lv_iload_n hx hb dX3_pump_42 rfl (lv_at hl 1 rfl) ?_
        refine lv_aload_n hx hb dX3_pump_43 rfl (lv_at hl 0 rfl) ?_
        refine va_get (ci := 3) (v := .ref a.2.1) (C := RX3) (T := TX3) (N := 6) hx hb hts hiX3 hown hK.1 hP 0 rfl rfl 0 (by decide) f0 (fun _ h9 => h9) rfl dX3_pump_44 ?_
        refine lv_iconst (v := 4) hx hb dX3_pump_47 (by decide) ?_
        refine va_iald hx hb hK.1 hP 3 0 rfl rfl (vp_c 4 4416 (by decide)) dX3_pump_48 ?_
        refine mw_v (mv_V (As := [.int p1, .int ((mN u8) (Int32.toNatClampNeg 4))]) (rest := []) ⟨hx, hb, hml, hown, hts⟩ (kX3_pumpMud l D I O a H.size u8 p1 ((mN u8) (Int32.toNatClampNeg 4)) _ hw) (cwV 2 hts gX3_pump_X3_pumpMud rfl rfl rfl hdVX3_pumpMud ⟨(Nat.le_of_ble_eq_true rfl), (Nat.le_of_ble_eq_true rfl)⟩) hK hP hD 0 3 rfl rfl rfl rfl hl.1 rfl (Nat.le_of_ble_eq_true rfl) dX3_pump_49 ⟨(Nat.le_of_ble_eq_true rfl), (Nat.le_of_ble_eq_true rfl)⟩) hP hD hS hA (fun u9 H locs hw hP hD hS => ?_)
        have hP : va_P D vwCl (mdlW I a u9) H := hP
        have hD : va_D (va_A (mdlW I a x) sz) (mdlW I a u9) := hD
        refine lv_aload_n hx hb dX3_pump_52 rfl (lv_at hl 0 rfl) ?_
        refine mw_v (mv_V (As := []) (rest := []) ⟨hx, hb, hml, hown, hts⟩ (kX3_check l D I O a H.size u9 _ hw) (cwV 0 hts gX3_pump_X3_check rfl rfl rfl hdVX3_check ⟨(Nat.le_of_ble_eq_true rfl), (Nat.le_of_ble_eq_true rfl)⟩) hK hP hD 0 3 rfl rfl rfl rfl hl.1 rfl (Nat.le_of_ble_eq_true rfl) dX3_pump_53 ⟨(Nat.le_of_ble_eq_true rfl), (Nat.le_of_ble_eq_true rfl)⟩) hP hD hS hA (fun u10 H locs hw hP hD hS => ?_)
        have hP : va_P D vwCl (mdlW I a u10) H := hP
        have hD : va_D (va_A (mdlW I a x) sz) (mdlW I a u10) := hD
        refine lv_aload_n hx hb dX3_pump_56 rfl (lv_at hl 0 rfl) ?_
        refine lv_iconst (v := 1) hx hb dX3_pump_57 (by decide) ?_
        refine mw_i (mv_V (As := [.int 1]) (rest := []) ⟨hx, hb, hml, hown, hts⟩ (kX3_lacking l D I O a H.size u10 1 _ hw) (cwV 1 hts gX3_pump_X3_lacking rfl rfl rfl hdVX3_lacking ⟨(Nat.le_of_ble_eq_true rfl), (Nat.le_of_ble_eq_true rfl)⟩) hK hP hD 0 3 rfl rfl rfl rfl hl.1 rfl (Nat.le_of_ble_eq_true rfl) dX3_pump_58 ⟨(Nat.le_of_ble_eq_true rfl), (Nat.le_of_ble_eq_true rfl)⟩) hP hD hS hA (fun r11 _ H locs hw hP hD hS => ?_)
        have hP : va_P D vwCl (mdlW I a u10) H := hP
        have hD : va_D (va_A (mdlW I a x) sz) (mdlW I a u10) := hD
        exact m_iret (u := u10) hx hb hr hlocks hS hP hD dX3_pump_61 hw
      · have hw := hw.2 c7
        refine lv_aload_n hx hb dX3_pump_30 rfl (lv_at hl 0 rfl) ?_
        refine lv_bipush (v := (-3)) hx hb dX3_pump_31 (by decide) ?_
        refine mw_i (mv_V (As := [.int (-3)]) (rest := []) ⟨hx, hb, hml, hown, hts⟩ (kX3_error l D I O a H.size x (-3) _ hw) (cwV 1 hts gX3_pump_X3_error rfl rfl rfl hdVX3_error ⟨(Nat.le_of_ble_eq_true rfl), (Nat.le_of_ble_eq_true rfl)⟩) hK hP hD 0 3 rfl rfl rfl rfl hl.1 rfl (Nat.le_of_ble_eq_true rfl) dX3_pump_33 ⟨(Nat.le_of_ble_eq_true rfl), (Nat.le_of_ble_eq_true rfl)⟩) hP hD hS hA (fun r12 u13 H locs hw hP hD hS => ?_)
        have hP : va_P D vwCl (mdlW I a u13) H := hP
        have hD : va_D (va_A (mdlW I a x) sz) (mdlW I a u13) := hD
        exact m_iret (u := u13) hx hb hr hlocks hS hP hD dX3_pump_36 hw
  · have hw := hw.2 c1
    refine lv_aload_n hx hb dX3_pump_5 rfl (lv_at hl 0 rfl) ?_
    refine lv_bipush (v := (-2)) hx hb dX3_pump_6 (by decide) ?_
    refine mw_i (mv_V (As := [.int (-2)]) (rest := []) ⟨hx, hb, hml, hown, hts⟩ (kX3_error l D I O a H.size x (-2) _ hw) (cwV 1 hts gX3_pump_X3_error rfl rfl rfl hdVX3_error ⟨(Nat.le_of_ble_eq_true rfl), (Nat.le_of_ble_eq_true rfl)⟩) hK hP hD 0 3 rfl rfl rfl rfl hl.1 rfl (Nat.le_of_ble_eq_true rfl) dX3_pump_8 ⟨(Nat.le_of_ble_eq_true rfl), (Nat.le_of_ble_eq_true rfl)⟩) hP hD hS hA (fun r14 u15 H locs hw hP hD hS => ?_)
    have hP : va_P D vwCl (mdlW I a u15) H := hP
    have hD : va_D (va_A (mdlW I a x) sz) (mdlW I a u15) := hD
    exact m_iret (u := u15) hx hb hr hlocks hS hP hD dX3_pump_11 hw
def qX3_influx (x : Mod) (p1 : Int32) (p2 : Int32) (Q : Int32 → Mod → Prop) : Prop := ((p1 < 1 → (qX3_error x (-2) (fun r2 u3 => Q r2 u3))) ∧ (¬ p1 < 1 → (qX3_in p2 1 2500 (fun r4 => ((¬ r4 = 0 → (qX3_volumeOf x 1 (fun r6 => ((p1 ≤ r6 → (qX3_save x (fun u8 => (qX3_enter u8 p1 p2 (fun u9 => (qX3_leave u9 p1 (fun u10 => (qX3_check (upd (mN u10) (Int32.toNatClampNeg 8) (((mN u10) (Int32.toNatClampNeg 8)) + p1), mA u10, mP u10, mS u10, mE u10, mH u10) (fun u11 => (qX3_lacking u11 1 (fun r12 => Q r12 u11))))))))))) ∧ (¬ p1 ≤ r6 → (qX3_error x (-3) (fun r13 u14 => Q r13 u14))))))) ∧ (r4 = 0 → (qX3_error x (-2) (fun r15 u16 => Q r15 u16))))))))
set_option maxHeartbeats 4000000 in
set_option maxRecDepth 100000 in
theorem kX3_influx (l : Launch) (D : va_G) (I O : ClassId) (a : MA) (sz : Nat) (x : Mod) (p1 : Int32) (p2 : Int32) (Q : Int32 → Mod → Prop) (hw : qX3_influx x p1 p2 Q) : Met l yX3_influx wsX3_influx rX3_influx (mPc D I O [.ref a.1, .int p1, .int p2] (mdlW I a x) sz) (va_Qi (fun r (u : Mod) => Q r u) (mB D (va_A (mdlW I a x) sz) (fun u => mdlW I a u)) (va_A (mdlW I a x) sz)) 0 0 (va_A (mdlW I a x) sz) := by
  refine m_start (by decide) rfl (Nat.le_of_ble_eq_true rfl) (fun p e s m below meth c ls H locs hx hb hr hml hts hown hlocks hnm hK hP hD hA hS hl => ?_)
  have hown : s.vm.findClass RX3 = some m.cls := hown
  have hl : lv_has ls 3 [(0, .ref a.1), (1, .int p1), (2, .int p2)] := hl
  have hiX3 : ∀ w ∈ wsX30, w ∈ wsX3_influx := by decide +kernel
  have f0 := hts (.fieldLink RX3 7 "WellControlModel" "now" "[I") (by decide +kernel)
  unfold qX3_influx at hw
  refine lv_iload_n hx hb dX3_influx_0 rfl (lv_at hl 1 rfl) ?_
  refine lv_iconst (v := 1) hx hb dX3_influx_1 (by decide) ?_
  refine lv_icmp_lt (tgt := 16) hx hb dX3_influx_2 (by decide) (fun c1 => ?_) (fun c1 => ?_)
  · have hw := hw.1 c1
    refine lv_aload_n hx hb dX3_influx_16 rfl (lv_at hl 0 rfl) ?_
    refine lv_bipush (v := (-2)) hx hb dX3_influx_17 (by decide) ?_
    refine mw_i (mv_V (As := [.int (-2)]) (rest := []) ⟨hx, hb, hml, hown, hts⟩ (kX3_error l D I O a H.size x (-2) _ hw) (cwV 1 hts gX3_influx_X3_error rfl rfl rfl hdVX3_error ⟨(Nat.le_of_ble_eq_true rfl), (Nat.le_of_ble_eq_true rfl)⟩) hK hP hD 0 3 rfl rfl rfl rfl hl.1 rfl (Nat.le_of_ble_eq_true rfl) dX3_influx_19 ⟨(Nat.le_of_ble_eq_true rfl), (Nat.le_of_ble_eq_true rfl)⟩) hP hD hS hA (fun r2 u3 H locs hw hP hD hS => ?_)
    have hP : va_P D vwCl (mdlW I a u3) H := hP
    have hD : va_D (va_A (mdlW I a x) sz) (mdlW I a u3) := hD
    exact m_iret (u := u3) hx hb hr hlocks hS hP hD dX3_influx_22 hw
  · have hw := hw.2 c1
    refine lv_iload_n hx hb dX3_influx_5 rfl (lv_at hl 2 rfl) ?_
    refine lv_iconst (v := 1) hx hb dX3_influx_6 (by decide) ?_
    refine lv_sipush (v := 2500) hx hb dX3_influx_7 (by decide) ?_
    refine m0_i (mv_S (As := [.int p2, .int 1, .int 2500]) (rest := []) ⟨hx, hb, hml, hown, hts⟩ (kX3_in l D I O H.size p2 1 2500 _ hw) (va_cwS 3 hts gX3_influx_X3_in rfl rfl rfl hdSX3_in ⟨(Nat.le_of_ble_eq_true rfl), (Nat.le_of_ble_eq_true rfl)⟩) hK (nil_P (D := D) (H := H)) (nil_D (A := va_A (mdlW I a x) sz)) rfl hl.1 rfl (Nat.le_of_ble_eq_true rfl) dX3_influx_10 ⟨(Nat.le_of_ble_eq_true rfl), (Nat.le_of_ble_eq_true rfl)⟩) hP hD hS hA (fun r4 _ H locs hw hP hD hS => ?_)
    refine lv_if_ne (tgt := 23) hx hb dX3_influx_13 (by decide) (fun c5 => ?_) (fun c5 => ?_)
    · have hw := hw.1 c5
      refine lv_iload_n hx hb dX3_influx_23 rfl (lv_at hl 1 rfl) ?_
      refine lv_aload_n hx hb dX3_influx_24 rfl (lv_at hl 0 rfl) ?_
      refine lv_iconst (v := 1) hx hb dX3_influx_25 (by decide) ?_
      refine mw_i (mv_V (As := [.int 1]) (rest := [.int p1]) ⟨hx, hb, hml, hown, hts⟩ (kX3_volumeOf l D I O a H.size x 1 _ hw) (cwV 1 hts gX3_influx_X3_volumeOf rfl rfl rfl hdVX3_volumeOf ⟨(Nat.le_of_ble_eq_true rfl), (Nat.le_of_ble_eq_true rfl)⟩) hK hP hD 0 3 rfl rfl rfl rfl hl.1 rfl (Nat.le_of_ble_eq_true rfl) dX3_influx_26 ⟨(Nat.le_of_ble_eq_true rfl), (Nat.le_of_ble_eq_true rfl)⟩) hP hD hS hA (fun r6 _ H locs hw hP hD hS => ?_)
      have hP : va_P D vwCl (mdlW I a x) H := hP
      have hD : va_D (va_A (mdlW I a x) sz) (mdlW I a x) := hD
      refine lv_icmp_le (tgt := 39) hx hb dX3_influx_29 (by decide) (fun c7 => ?_) (fun c7 => ?_)
      · have hw := hw.1 c7
        refine lv_aload_n hx hb dX3_influx_39 rfl (lv_at hl 0 rfl) ?_
        refine mw_v (mv_V (As := []) (rest := []) ⟨hx, hb, hml, hown, hts⟩ (kX3_save l D I O a H.size x _ hw) (cwV 0 hts gX3_influx_X3_save rfl rfl rfl hdVX3_save ⟨(Nat.le_of_ble_eq_true rfl), (Nat.le_of_ble_eq_true rfl)⟩) hK hP hD 0 3 rfl rfl rfl rfl hl.1 rfl (Nat.le_of_ble_eq_true rfl) dX3_influx_40 ⟨(Nat.le_of_ble_eq_true rfl), (Nat.le_of_ble_eq_true rfl)⟩) hP hD hS hA (fun u8 H locs hw hP hD hS => ?_)
        have hP : va_P D vwCl (mdlW I a u8) H := hP
        have hD : va_D (va_A (mdlW I a x) sz) (mdlW I a u8) := hD
        refine lv_aload_n hx hb dX3_influx_43 rfl (lv_at hl 0 rfl) ?_
        refine lv_iload_n hx hb dX3_influx_44 rfl (lv_at hl 1 rfl) ?_
        refine lv_iload_n hx hb dX3_influx_45 rfl (lv_at hl 2 rfl) ?_
        refine mw_v (mv_V (As := [.int p1, .int p2]) (rest := []) ⟨hx, hb, hml, hown, hts⟩ (kX3_enter l D I O a H.size u8 p1 p2 _ hw) (cwV 2 hts gX3_influx_X3_enter rfl rfl rfl hdVX3_enter ⟨(Nat.le_of_ble_eq_true rfl), (Nat.le_of_ble_eq_true rfl)⟩) hK hP hD 0 3 rfl rfl rfl rfl hl.1 rfl (Nat.le_of_ble_eq_true rfl) dX3_influx_46 ⟨(Nat.le_of_ble_eq_true rfl), (Nat.le_of_ble_eq_true rfl)⟩) hP hD hS hA (fun u9 H locs hw hP hD hS => ?_)
        have hP : va_P D vwCl (mdlW I a u9) H := hP
        have hD : va_D (va_A (mdlW I a x) sz) (mdlW I a u9) := hD
        refine lv_aload_n hx hb dX3_influx_49 rfl (lv_at hl 0 rfl) ?_
        refine lv_iload_n hx hb dX3_influx_50 rfl (lv_at hl 1 rfl) ?_
        refine mw_v (mv_V (As := [.int p1]) (rest := []) ⟨hx, hb, hml, hown, hts⟩ (kX3_leave l D I O a H.size u9 p1 _ hw) (cwV 1 hts gX3_influx_X3_leave rfl rfl rfl hdVX3_leave ⟨(Nat.le_of_ble_eq_true rfl), (Nat.le_of_ble_eq_true rfl)⟩) hK hP hD 0 3 rfl rfl rfl rfl hl.1 rfl (Nat.le_of_ble_eq_true rfl) dX3_influx_51 ⟨(Nat.le_of_ble_eq_true rfl), (Nat.le_of_ble_eq_true rfl)⟩) hP hD hS hA (fun u10 H locs hw hP hD hS => ?_)
        have hP : va_P D vwCl (mdlW I a u10) H := hP
        have hD : va_D (va_A (mdlW I a x) sz) (mdlW I a u10) := hD
        refine lv_aload_n hx hb dX3_influx_54 rfl (lv_at hl 0 rfl) ?_
        refine va_get (ci := 3) (v := .ref a.2.1) (C := RX3) (T := TX3) (N := 6) hx hb hts hiX3 hown hK.1 hP 0 rfl rfl 0 (by decide) f0 (fun _ h9 => h9) rfl dX3_influx_55 ?_
        refine lv_bipush (v := 8) hx hb dX3_influx_58 (by decide) ?_
        refine lv_dup2_11 hx hb dX3_influx_60 rfl rfl ?_
        refine va_iald hx hb hK.1 hP 3 0 rfl rfl (vp_c 8 4416 (by decide)) dX3_influx_61 ?_
        refine lv_iload_n hx hb dX3_influx_62 rfl (lv_at hl 1 rfl) ?_
        refine lv_iadd hx hb dX3_influx_63 ?_
        refine va_iast hx hb hK.1 hP hD hS 3 0 rfl rfl (vp_c 8 4416 (by decide)) dX3_influx_64 (fun H locs hP hD hS => ?_)
        have hP : va_P D vwCl (mdlW I a (upd (mN u10) (Int32.toNatClampNeg 8) (((mN u10) (Int32.toNatClampNeg 8)) + p1), mA u10, mP u10, mS u10, mE u10, mH u10)) H := hP
        have hD : va_D (va_A (mdlW I a x) sz) (mdlW I a (upd (mN u10) (Int32.toNatClampNeg 8) (((mN u10) (Int32.toNatClampNeg 8)) + p1), mA u10, mP u10, mS u10, mE u10, mH u10)) := hD
        refine lv_aload_n hx hb dX3_influx_65 rfl (lv_at hl 0 rfl) ?_
        refine mw_v (mv_V (As := []) (rest := []) ⟨hx, hb, hml, hown, hts⟩ (kX3_check l D I O a H.size (upd (mN u10) (Int32.toNatClampNeg 8) (((mN u10) (Int32.toNatClampNeg 8)) + p1), mA u10, mP u10, mS u10, mE u10, mH u10) _ hw) (cwV 0 hts gX3_influx_X3_check rfl rfl rfl hdVX3_check ⟨(Nat.le_of_ble_eq_true rfl), (Nat.le_of_ble_eq_true rfl)⟩) hK hP hD 0 3 rfl rfl rfl rfl hl.1 rfl (Nat.le_of_ble_eq_true rfl) dX3_influx_66 ⟨(Nat.le_of_ble_eq_true rfl), (Nat.le_of_ble_eq_true rfl)⟩) hP hD hS hA (fun u11 H locs hw hP hD hS => ?_)
        have hP : va_P D vwCl (mdlW I a u11) H := hP
        have hD : va_D (va_A (mdlW I a x) sz) (mdlW I a u11) := hD
        refine lv_aload_n hx hb dX3_influx_69 rfl (lv_at hl 0 rfl) ?_
        refine lv_iconst (v := 1) hx hb dX3_influx_70 (by decide) ?_
        refine mw_i (mv_V (As := [.int 1]) (rest := []) ⟨hx, hb, hml, hown, hts⟩ (kX3_lacking l D I O a H.size u11 1 _ hw) (cwV 1 hts gX3_influx_X3_lacking rfl rfl rfl hdVX3_lacking ⟨(Nat.le_of_ble_eq_true rfl), (Nat.le_of_ble_eq_true rfl)⟩) hK hP hD 0 3 rfl rfl rfl rfl hl.1 rfl (Nat.le_of_ble_eq_true rfl) dX3_influx_71 ⟨(Nat.le_of_ble_eq_true rfl), (Nat.le_of_ble_eq_true rfl)⟩) hP hD hS hA (fun r12 _ H locs hw hP hD hS => ?_)
        have hP : va_P D vwCl (mdlW I a u11) H := hP
        have hD : va_D (va_A (mdlW I a x) sz) (mdlW I a u11) := hD
        exact m_iret (u := u11) hx hb hr hlocks hS hP hD dX3_influx_74 hw
      · have hw := hw.2 c7
        refine lv_aload_n hx hb dX3_influx_32 rfl (lv_at hl 0 rfl) ?_
        refine lv_bipush (v := (-3)) hx hb dX3_influx_33 (by decide) ?_
        refine mw_i (mv_V (As := [.int (-3)]) (rest := []) ⟨hx, hb, hml, hown, hts⟩ (kX3_error l D I O a H.size x (-3) _ hw) (cwV 1 hts gX3_influx_X3_error rfl rfl rfl hdVX3_error ⟨(Nat.le_of_ble_eq_true rfl), (Nat.le_of_ble_eq_true rfl)⟩) hK hP hD 0 3 rfl rfl rfl rfl hl.1 rfl (Nat.le_of_ble_eq_true rfl) dX3_influx_35 ⟨(Nat.le_of_ble_eq_true rfl), (Nat.le_of_ble_eq_true rfl)⟩) hP hD hS hA (fun r13 u14 H locs hw hP hD hS => ?_)
        have hP : va_P D vwCl (mdlW I a u14) H := hP
        have hD : va_D (va_A (mdlW I a x) sz) (mdlW I a u14) := hD
        exact m_iret (u := u14) hx hb hr hlocks hS hP hD dX3_influx_38 hw
    · have hw := hw.2 c5
      refine lv_aload_n hx hb dX3_influx_16 rfl (lv_at hl 0 rfl) ?_
      refine lv_bipush (v := (-2)) hx hb dX3_influx_17 (by decide) ?_
      refine mw_i (mv_V (As := [.int (-2)]) (rest := []) ⟨hx, hb, hml, hown, hts⟩ (kX3_error l D I O a H.size x (-2) _ hw) (cwV 1 hts gX3_influx_X3_error rfl rfl rfl hdVX3_error ⟨(Nat.le_of_ble_eq_true rfl), (Nat.le_of_ble_eq_true rfl)⟩) hK hP hD 0 3 rfl rfl rfl rfl hl.1 rfl (Nat.le_of_ble_eq_true rfl) dX3_influx_19 ⟨(Nat.le_of_ble_eq_true rfl), (Nat.le_of_ble_eq_true rfl)⟩) hP hD hS hA (fun r15 u16 H locs hw hP hD hS => ?_)
      have hP : va_P D vwCl (mdlW I a u16) H := hP
      have hD : va_D (va_A (mdlW I a x) sz) (mdlW I a u16) := hD
      exact m_iret (u := u16) hx hb hr hlocks hS hP hD dX3_influx_22 hw
def qX3_hydrostatic (x : Mod) (p1 : Int32) (Q : Int32 → Mod → Prop) : Prop := (qX3_isColumn p1 (fun r1 => ((r1 = 0 → (qX3_error x (-2) (fun r3 u4 => Q r3 u4))) ∧ (¬ r1 = 0 → (qX3_pressureOf x p1 ((mN x) (Int32.toNatClampNeg 0)) (fun r5 => Q r5 x))))))
set_option maxHeartbeats 4000000 in
set_option maxRecDepth 100000 in
theorem kX3_hydrostatic (l : Launch) (D : va_G) (I O : ClassId) (a : MA) (sz : Nat) (x : Mod) (p1 : Int32) (Q : Int32 → Mod → Prop) (hw : qX3_hydrostatic x p1 Q) : Met l yX3_hydrostatic wsX3_hydrostatic rX3_hydrostatic (mPc D I O [.ref a.1, .int p1] (mdlW I a x) sz) (va_Qi (fun r (u : Mod) => Q r u) (mB D (va_A (mdlW I a x) sz) (fun u => mdlW I a u)) (va_A (mdlW I a x) sz)) 0 0 (va_A (mdlW I a x) sz) := by
  refine m_start (by decide) rfl (Nat.le_of_ble_eq_true rfl) (fun p e s m below meth c ls H locs hx hb hr hml hts hown hlocks hnm hK hP hD hA hS hl => ?_)
  have hown : s.vm.findClass RX3 = some m.cls := hown
  have hl : lv_has ls 2 [(0, .ref a.1), (1, .int p1)] := hl
  have hiX3 : ∀ w ∈ wsX30, w ∈ wsX3_hydrostatic := by decide +kernel
  have f0 := hts (.fieldLink RX3 7 "WellControlModel" "now" "[I") (by decide +kernel)
  unfold qX3_hydrostatic at hw
  refine lv_iload_n hx hb dX3_hydrostatic_0 rfl (lv_at hl 1 rfl) ?_
  refine m0_i (mv_S (As := [.int p1]) (rest := []) ⟨hx, hb, hml, hown, hts⟩ (kX3_isColumn l D I O H.size p1 _ hw) (va_cwS 1 hts gX3_hydrostatic_X3_isColumn rfl rfl rfl hdSX3_isColumn ⟨(Nat.le_of_ble_eq_true rfl), (Nat.le_of_ble_eq_true rfl)⟩) hK (nil_P (D := D) (H := H)) (nil_D (A := va_A (mdlW I a x) sz)) rfl hl.1 rfl (Nat.le_of_ble_eq_true rfl) dX3_hydrostatic_1 ⟨(Nat.le_of_ble_eq_true rfl), (Nat.le_of_ble_eq_true rfl)⟩) hP hD hS hA (fun r1 _ H locs hw hP hD hS => ?_)
  refine lv_if_eq (tgt := 21) hx hb dX3_hydrostatic_4 (by decide) (fun c2 => ?_) (fun c2 => ?_)
  · have hw := hw.1 c2
    refine lv_aload_n hx hb dX3_hydrostatic_21 rfl (lv_at hl 0 rfl) ?_
    refine lv_bipush (v := (-2)) hx hb dX3_hydrostatic_22 (by decide) ?_
    refine mw_i (mv_V (As := [.int (-2)]) (rest := []) ⟨hx, hb, hml, hown, hts⟩ (kX3_error l D I O a H.size x (-2) _ hw) (cwV 1 hts gX3_hydrostatic_X3_error rfl rfl rfl hdVX3_error ⟨(Nat.le_of_ble_eq_true rfl), (Nat.le_of_ble_eq_true rfl)⟩) hK hP hD 0 3 rfl rfl rfl rfl hl.1 rfl (Nat.le_of_ble_eq_true rfl) dX3_hydrostatic_24 ⟨(Nat.le_of_ble_eq_true rfl), (Nat.le_of_ble_eq_true rfl)⟩) hP hD hS hA (fun r3 u4 H locs hw hP hD hS => ?_)
    have hP : va_P D vwCl (mdlW I a u4) H := hP
    have hD : va_D (va_A (mdlW I a x) sz) (mdlW I a u4) := hD
    exact m_iret (u := u4) hx hb hr hlocks hS hP hD dX3_hydrostatic_27 hw
  · have hw := hw.2 c2
    refine lv_aload_n hx hb dX3_hydrostatic_7 rfl (lv_at hl 0 rfl) ?_
    refine lv_iload_n hx hb dX3_hydrostatic_8 rfl (lv_at hl 1 rfl) ?_
    refine lv_aload_n hx hb dX3_hydrostatic_9 rfl (lv_at hl 0 rfl) ?_
    refine va_get (ci := 3) (v := .ref a.2.1) (C := RX3) (T := TX3) (N := 6) hx hb hts hiX3 hown hK.1 hP 0 rfl rfl 0 (by decide) f0 (fun _ h9 => h9) rfl dX3_hydrostatic_10 ?_
    refine lv_iconst (v := 0) hx hb dX3_hydrostatic_13 (by decide) ?_
    refine va_iald hx hb hK.1 hP 3 0 rfl rfl (vp_c 0 4416 (by decide)) dX3_hydrostatic_14 ?_
    refine mw_i (mv_V (As := [.int p1, .int ((mN x) (Int32.toNatClampNeg 0))]) (rest := []) ⟨hx, hb, hml, hown, hts⟩ (kX3_pressureOf l D I O a H.size x p1 ((mN x) (Int32.toNatClampNeg 0)) _ hw) (cwV 2 hts gX3_hydrostatic_X3_pressureOf rfl rfl rfl hdVX3_pressureOf ⟨(Nat.le_of_ble_eq_true rfl), (Nat.le_of_ble_eq_true rfl)⟩) hK hP hD 0 3 rfl rfl rfl rfl hl.1 rfl (Nat.le_of_ble_eq_true rfl) dX3_hydrostatic_15 ⟨(Nat.le_of_ble_eq_true rfl), (Nat.le_of_ble_eq_true rfl)⟩) hP hD hS hA (fun r5 _ H locs hw hP hD hS => ?_)
    have hP : va_P D vwCl (mdlW I a x) H := hP
    have hD : va_D (va_A (mdlW I a x) sz) (mdlW I a x) := hD
    refine lv_goto (tgt := 27) hx hb dX3_hydrostatic_18 (by decide) ?_
    exact m_iret (u := x) hx hb hr hlocks hS hP hD dX3_hydrostatic_27 hw
def qX3_hydrostaticAbove (x : Mod) (p1 : Int32) (p2 : Int32) (Q : Int32 → Mod → Prop) : Prop := (qX3_isColumn p1 (fun r1 => ((r1 = 0 → (qX3_error x (-2) (fun r3 u4 => Q r3 u4))) ∧ (¬ r1 = 0 → (qX3_in p2 0 ((mN x) (Int32.toNatClampNeg 0)) (fun r5 => ((r5 = 0 → (qX3_error x (-2) (fun r7 u8 => Q r7 u8))) ∧ (¬ r5 = 0 → (qX3_pressureOf x p1 p2 (fun r9 => Q r9 x))))))))))
set_option maxHeartbeats 4000000 in
set_option maxRecDepth 100000 in
theorem kX3_hydrostaticAbove (l : Launch) (D : va_G) (I O : ClassId) (a : MA) (sz : Nat) (x : Mod) (p1 : Int32) (p2 : Int32) (Q : Int32 → Mod → Prop) (hw : qX3_hydrostaticAbove x p1 p2 Q) : Met l yX3_hydrostaticAbove wsX3_hydrostaticAbove rX3_hydrostaticAbove (mPc D I O [.ref a.1, .int p1, .int p2] (mdlW I a x) sz) (va_Qi (fun r (u : Mod) => Q r u) (mB D (va_A (mdlW I a x) sz) (fun u => mdlW I a u)) (va_A (mdlW I a x) sz)) 0 0 (va_A (mdlW I a x) sz) := by
  refine m_start (by decide) rfl (Nat.le_of_ble_eq_true rfl) (fun p e s m below meth c ls H locs hx hb hr hml hts hown hlocks hnm hK hP hD hA hS hl => ?_)
  have hown : s.vm.findClass RX3 = some m.cls := hown
  have hl : lv_has ls 3 [(0, .ref a.1), (1, .int p1), (2, .int p2)] := hl
  have hiX3 : ∀ w ∈ wsX30, w ∈ wsX3_hydrostaticAbove := by decide +kernel
  have f0 := hts (.fieldLink RX3 7 "WellControlModel" "now" "[I") (by decide +kernel)
  unfold qX3_hydrostaticAbove at hw
  refine lv_iload_n hx hb dX3_hydrostaticAbove_0 rfl (lv_at hl 1 rfl) ?_
  refine m0_i (mv_S (As := [.int p1]) (rest := []) ⟨hx, hb, hml, hown, hts⟩ (kX3_isColumn l D I O H.size p1 _ hw) (va_cwS 1 hts gX3_hydrostaticAbove_X3_isColumn rfl rfl rfl hdSX3_isColumn ⟨(Nat.le_of_ble_eq_true rfl), (Nat.le_of_ble_eq_true rfl)⟩) hK (nil_P (D := D) (H := H)) (nil_D (A := va_A (mdlW I a x) sz)) rfl hl.1 rfl (Nat.le_of_ble_eq_true rfl) dX3_hydrostaticAbove_1 ⟨(Nat.le_of_ble_eq_true rfl), (Nat.le_of_ble_eq_true rfl)⟩) hP hD hS hA (fun r1 _ H locs hw hP hD hS => ?_)
  refine lv_if_eq (tgt := 30) hx hb dX3_hydrostaticAbove_4 (by decide) (fun c2 => ?_) (fun c2 => ?_)
  · have hw := hw.1 c2
    refine lv_aload_n hx hb dX3_hydrostaticAbove_30 rfl (lv_at hl 0 rfl) ?_
    refine lv_bipush (v := (-2)) hx hb dX3_hydrostaticAbove_31 (by decide) ?_
    refine mw_i (mv_V (As := [.int (-2)]) (rest := []) ⟨hx, hb, hml, hown, hts⟩ (kX3_error l D I O a H.size x (-2) _ hw) (cwV 1 hts gX3_hydrostaticAbove_X3_error rfl rfl rfl hdVX3_error ⟨(Nat.le_of_ble_eq_true rfl), (Nat.le_of_ble_eq_true rfl)⟩) hK hP hD 0 3 rfl rfl rfl rfl hl.1 rfl (Nat.le_of_ble_eq_true rfl) dX3_hydrostaticAbove_33 ⟨(Nat.le_of_ble_eq_true rfl), (Nat.le_of_ble_eq_true rfl)⟩) hP hD hS hA (fun r3 u4 H locs hw hP hD hS => ?_)
    have hP : va_P D vwCl (mdlW I a u4) H := hP
    have hD : va_D (va_A (mdlW I a x) sz) (mdlW I a u4) := hD
    exact m_iret (u := u4) hx hb hr hlocks hS hP hD dX3_hydrostaticAbove_36 hw
  · have hw := hw.2 c2
    refine lv_iload_n hx hb dX3_hydrostaticAbove_7 rfl (lv_at hl 2 rfl) ?_
    refine lv_iconst (v := 0) hx hb dX3_hydrostaticAbove_8 (by decide) ?_
    refine lv_aload_n hx hb dX3_hydrostaticAbove_9 rfl (lv_at hl 0 rfl) ?_
    refine va_get (ci := 3) (v := .ref a.2.1) (C := RX3) (T := TX3) (N := 6) hx hb hts hiX3 hown hK.1 hP 0 rfl rfl 0 (by decide) f0 (fun _ h9 => h9) rfl dX3_hydrostaticAbove_10 ?_
    refine lv_iconst (v := 0) hx hb dX3_hydrostaticAbove_13 (by decide) ?_
    refine va_iald hx hb hK.1 hP 3 0 rfl rfl (vp_c 0 4416 (by decide)) dX3_hydrostaticAbove_14 ?_
    refine m0_i (mv_S (As := [.int p2, .int 0, .int ((mN x) (Int32.toNatClampNeg 0))]) (rest := []) ⟨hx, hb, hml, hown, hts⟩ (kX3_in l D I O H.size p2 0 ((mN x) (Int32.toNatClampNeg 0)) _ hw) (va_cwS 3 hts gX3_hydrostaticAbove_X3_in rfl rfl rfl hdSX3_in ⟨(Nat.le_of_ble_eq_true rfl), (Nat.le_of_ble_eq_true rfl)⟩) hK (nil_P (D := D) (H := H)) (nil_D (A := va_A (mdlW I a x) sz)) rfl hl.1 rfl (Nat.le_of_ble_eq_true rfl) dX3_hydrostaticAbove_15 ⟨(Nat.le_of_ble_eq_true rfl), (Nat.le_of_ble_eq_true rfl)⟩) hP hD hS hA (fun r5 _ H locs hw hP hD hS => ?_)
    refine lv_if_eq (tgt := 30) hx hb dX3_hydrostaticAbove_18 (by decide) (fun c6 => ?_) (fun c6 => ?_)
    · have hw := hw.1 c6
      refine lv_aload_n hx hb dX3_hydrostaticAbove_30 rfl (lv_at hl 0 rfl) ?_
      refine lv_bipush (v := (-2)) hx hb dX3_hydrostaticAbove_31 (by decide) ?_
      refine mw_i (mv_V (As := [.int (-2)]) (rest := []) ⟨hx, hb, hml, hown, hts⟩ (kX3_error l D I O a H.size x (-2) _ hw) (cwV 1 hts gX3_hydrostaticAbove_X3_error rfl rfl rfl hdVX3_error ⟨(Nat.le_of_ble_eq_true rfl), (Nat.le_of_ble_eq_true rfl)⟩) hK hP hD 0 3 rfl rfl rfl rfl hl.1 rfl (Nat.le_of_ble_eq_true rfl) dX3_hydrostaticAbove_33 ⟨(Nat.le_of_ble_eq_true rfl), (Nat.le_of_ble_eq_true rfl)⟩) hP hD hS hA (fun r7 u8 H locs hw hP hD hS => ?_)
      have hP : va_P D vwCl (mdlW I a u8) H := hP
      have hD : va_D (va_A (mdlW I a x) sz) (mdlW I a u8) := hD
      exact m_iret (u := u8) hx hb hr hlocks hS hP hD dX3_hydrostaticAbove_36 hw
    · have hw := hw.2 c6
      refine lv_aload_n hx hb dX3_hydrostaticAbove_21 rfl (lv_at hl 0 rfl) ?_
      refine lv_iload_n hx hb dX3_hydrostaticAbove_22 rfl (lv_at hl 1 rfl) ?_
      refine lv_iload_n hx hb dX3_hydrostaticAbove_23 rfl (lv_at hl 2 rfl) ?_
      refine mw_i (mv_V (As := [.int p1, .int p2]) (rest := []) ⟨hx, hb, hml, hown, hts⟩ (kX3_pressureOf l D I O a H.size x p1 p2 _ hw) (cwV 2 hts gX3_hydrostaticAbove_X3_pressureOf rfl rfl rfl hdVX3_pressureOf ⟨(Nat.le_of_ble_eq_true rfl), (Nat.le_of_ble_eq_true rfl)⟩) hK hP hD 0 3 rfl rfl rfl rfl hl.1 rfl (Nat.le_of_ble_eq_true rfl) dX3_hydrostaticAbove_24 ⟨(Nat.le_of_ble_eq_true rfl), (Nat.le_of_ble_eq_true rfl)⟩) hP hD hS hA (fun r9 _ H locs hw hP hD hS => ?_)
      have hP : va_P D vwCl (mdlW I a x) H := hP
      have hD : va_D (va_A (mdlW I a x) sz) (mdlW I a x) := hD
      refine lv_goto (tgt := 36) hx hb dX3_hydrostaticAbove_27 (by decide) ?_
      exact m_iret (u := x) hx hb hr hlocks hS hP hD dX3_hydrostaticAbove_36 hw
def qX3_drillPipePressure (x : Mod) (Q : Int32 → Prop) : Prop := (qX3_lacking x 0 (fun r1 => Q r1))
set_option maxHeartbeats 4000000 in
set_option maxRecDepth 100000 in
theorem kX3_drillPipePressure (l : Launch) (D : va_G) (I O : ClassId) (a : MA) (sz : Nat) (x : Mod) (Q : Int32 → Prop) (hw : qX3_drillPipePressure x Q) : Met l yX3_drillPipePressure wsX3_drillPipePressure rX3_drillPipePressure (mPc D I O [.ref a.1] (mdlW I a x) sz) (va_Qi (fun r (_ : Unit) => Q r) (mB D (va_A (mdlW I a x) sz) (fun _ => mdlW I a x)) (va_A (mdlW I a x) sz)) 0 0 (va_A (mdlW I a x) sz) := by
  refine m_start (by decide) rfl (Nat.le_of_ble_eq_true rfl) (fun p e s m below meth c ls H locs hx hb hr hml hts hown hlocks hnm hK hP hD hA hS hl => ?_)
  have hown : s.vm.findClass RX3 = some m.cls := hown
  have hl : lv_has ls 1 [(0, .ref a.1)] := hl
  unfold qX3_drillPipePressure at hw
  refine lv_aload_n hx hb dX3_drillPipePressure_0 rfl (lv_at hl 0 rfl) ?_
  refine lv_iconst (v := 0) hx hb dX3_drillPipePressure_1 (by decide) ?_
  refine mw_i (mv_V (As := [.int 0]) (rest := []) ⟨hx, hb, hml, hown, hts⟩ (kX3_lacking l D I O a H.size x 0 _ hw) (cwV 1 hts gX3_drillPipePressure_X3_lacking rfl rfl rfl hdVX3_lacking ⟨(Nat.le_of_ble_eq_true rfl), (Nat.le_of_ble_eq_true rfl)⟩) hK hP hD 0 3 rfl rfl rfl rfl hl.1 rfl (Nat.le_of_ble_eq_true rfl) dX3_drillPipePressure_2 ⟨(Nat.le_of_ble_eq_true rfl), (Nat.le_of_ble_eq_true rfl)⟩) hP hD hS hA (fun r1 _ H locs hw hP hD hS => ?_)
  have hP : va_P D vwCl (mdlW I a x) H := hP
  have hD : va_D (va_A (mdlW I a x) sz) (mdlW I a x) := hD
  exact m_iret (u := ()) hx hb hr hlocks hS hP hD dX3_drillPipePressure_5 hw
def qX3_casingPressure (x : Mod) (Q : Int32 → Prop) : Prop := (qX3_lacking x 1 (fun r1 => Q r1))
set_option maxHeartbeats 4000000 in
set_option maxRecDepth 100000 in
theorem kX3_casingPressure (l : Launch) (D : va_G) (I O : ClassId) (a : MA) (sz : Nat) (x : Mod) (Q : Int32 → Prop) (hw : qX3_casingPressure x Q) : Met l yX3_casingPressure wsX3_casingPressure rX3_casingPressure (mPc D I O [.ref a.1] (mdlW I a x) sz) (va_Qi (fun r (_ : Unit) => Q r) (mB D (va_A (mdlW I a x) sz) (fun _ => mdlW I a x)) (va_A (mdlW I a x) sz)) 0 0 (va_A (mdlW I a x) sz) := by
  refine m_start (by decide) rfl (Nat.le_of_ble_eq_true rfl) (fun p e s m below meth c ls H locs hx hb hr hml hts hown hlocks hnm hK hP hD hA hS hl => ?_)
  have hown : s.vm.findClass RX3 = some m.cls := hown
  have hl : lv_has ls 1 [(0, .ref a.1)] := hl
  unfold qX3_casingPressure at hw
  refine lv_aload_n hx hb dX3_casingPressure_0 rfl (lv_at hl 0 rfl) ?_
  refine lv_iconst (v := 1) hx hb dX3_casingPressure_1 (by decide) ?_
  refine mw_i (mv_V (As := [.int 1]) (rest := []) ⟨hx, hb, hml, hown, hts⟩ (kX3_lacking l D I O a H.size x 1 _ hw) (cwV 1 hts gX3_casingPressure_X3_lacking rfl rfl rfl hdVX3_lacking ⟨(Nat.le_of_ble_eq_true rfl), (Nat.le_of_ble_eq_true rfl)⟩) hK hP hD 0 3 rfl rfl rfl rfl hl.1 rfl (Nat.le_of_ble_eq_true rfl) dX3_casingPressure_2 ⟨(Nat.le_of_ble_eq_true rfl), (Nat.le_of_ble_eq_true rfl)⟩) hP hD hS hA (fun r1 _ H locs hw hP hD hS => ?_)
  have hP : va_P D vwCl (mdlW I a x) H := hP
  have hD : va_D (va_A (mdlW I a x) sz) (mdlW I a x) := hD
  exact m_iret (u := ()) hx hb hr hlocks hS hP hD dX3_casingPressure_5 hw
def qX3_standpipePressure (x : Mod) (Q : Int32 → Prop) : Prop := (qX3_lacking x 0 (fun r1 => Q (((mN x) (Int32.toNatClampNeg 6)) + r1)))
set_option maxHeartbeats 4000000 in
set_option maxRecDepth 100000 in
theorem kX3_standpipePressure (l : Launch) (D : va_G) (I O : ClassId) (a : MA) (sz : Nat) (x : Mod) (Q : Int32 → Prop) (hw : qX3_standpipePressure x Q) : Met l yX3_standpipePressure wsX3_standpipePressure rX3_standpipePressure (mPc D I O [.ref a.1] (mdlW I a x) sz) (va_Qi (fun r (_ : Unit) => Q r) (mB D (va_A (mdlW I a x) sz) (fun _ => mdlW I a x)) (va_A (mdlW I a x) sz)) 0 0 (va_A (mdlW I a x) sz) := by
  refine m_start (by decide) rfl (Nat.le_of_ble_eq_true rfl) (fun p e s m below meth c ls H locs hx hb hr hml hts hown hlocks hnm hK hP hD hA hS hl => ?_)
  have hown : s.vm.findClass RX3 = some m.cls := hown
  have hl : lv_has ls 1 [(0, .ref a.1)] := hl
  have hiX3 : ∀ w ∈ wsX30, w ∈ wsX3_standpipePressure := by decide +kernel
  have f0 := hts (.fieldLink RX3 7 "WellControlModel" "now" "[I") (by decide +kernel)
  unfold qX3_standpipePressure at hw
  refine lv_aload_n hx hb dX3_standpipePressure_0 rfl (lv_at hl 0 rfl) ?_
  refine va_get (ci := 3) (v := .ref a.2.1) (C := RX3) (T := TX3) (N := 6) hx hb hts hiX3 hown hK.1 hP 0 rfl rfl 0 (by decide) f0 (fun _ h9 => h9) rfl dX3_standpipePressure_1 ?_
  refine lv_bipush (v := 6) hx hb dX3_standpipePressure_4 (by decide) ?_
  refine va_iald hx hb hK.1 hP 3 0 rfl rfl (vp_c 6 4416 (by decide)) dX3_standpipePressure_6 ?_
  refine lv_aload_n hx hb dX3_standpipePressure_7 rfl (lv_at hl 0 rfl) ?_
  refine lv_iconst (v := 0) hx hb dX3_standpipePressure_8 (by decide) ?_
  refine mw_i (mv_V (As := [.int 0]) (rest := [.int ((mN x) (Int32.toNatClampNeg 6))]) ⟨hx, hb, hml, hown, hts⟩ (kX3_lacking l D I O a H.size x 0 _ hw) (cwV 1 hts gX3_standpipePressure_X3_lacking rfl rfl rfl hdVX3_lacking ⟨(Nat.le_of_ble_eq_true rfl), (Nat.le_of_ble_eq_true rfl)⟩) hK hP hD 0 3 rfl rfl rfl rfl hl.1 rfl (Nat.le_of_ble_eq_true rfl) dX3_standpipePressure_9 ⟨(Nat.le_of_ble_eq_true rfl), (Nat.le_of_ble_eq_true rfl)⟩) hP hD hS hA (fun r1 _ H locs hw hP hD hS => ?_)
  have hP : va_P D vwCl (mdlW I a x) H := hP
  have hD : va_D (va_A (mdlW I a x) sz) (mdlW I a x) := hD
  refine lv_iadd hx hb dX3_standpipePressure_12 ?_
  exact m_iret (u := ()) hx hb hr hlocks hS hP hD dX3_standpipePressure_13 hw
def qX3_shoePressure (x : Mod) (Q : Int32 → Prop) : Prop := (qX3_atShoe x (fun r1 => Q r1))
set_option maxHeartbeats 4000000 in
set_option maxRecDepth 100000 in
theorem kX3_shoePressure (l : Launch) (D : va_G) (I O : ClassId) (a : MA) (sz : Nat) (x : Mod) (Q : Int32 → Prop) (hw : qX3_shoePressure x Q) : Met l yX3_shoePressure wsX3_shoePressure rX3_shoePressure (mPc D I O [.ref a.1] (mdlW I a x) sz) (va_Qi (fun r (_ : Unit) => Q r) (mB D (va_A (mdlW I a x) sz) (fun _ => mdlW I a x)) (va_A (mdlW I a x) sz)) 0 0 (va_A (mdlW I a x) sz) := by
  refine m_start (by decide) rfl (Nat.le_of_ble_eq_true rfl) (fun p e s m below meth c ls H locs hx hb hr hml hts hown hlocks hnm hK hP hD hA hS hl => ?_)
  have hown : s.vm.findClass RX3 = some m.cls := hown
  have hl : lv_has ls 1 [(0, .ref a.1)] := hl
  unfold qX3_shoePressure at hw
  refine lv_aload_n hx hb dX3_shoePressure_0 rfl (lv_at hl 0 rfl) ?_
  refine mw_i (mv_V (As := []) (rest := []) ⟨hx, hb, hml, hown, hts⟩ (kX3_atShoe l D I O a H.size x _ hw) (cwV 0 hts gX3_shoePressure_X3_atShoe rfl rfl rfl hdVX3_atShoe ⟨(Nat.le_of_ble_eq_true rfl), (Nat.le_of_ble_eq_true rfl)⟩) hK hP hD 0 3 rfl rfl rfl rfl hl.1 rfl (Nat.le_of_ble_eq_true rfl) dX3_shoePressure_1 ⟨(Nat.le_of_ble_eq_true rfl), (Nat.le_of_ble_eq_true rfl)⟩) hP hD hS hA (fun r1 _ H locs hw hP hD hS => ?_)
  have hP : va_P D vwCl (mdlW I a x) H := hP
  have hD : va_D (va_A (mdlW I a x) sz) (mdlW I a x) := hD
  exact m_iret (u := ()) hx hb hr hlocks hS hP hD dX3_shoePressure_4 hw
def qX3_allowedCasingPressure (x : Mod) (Q : Int32 → Prop) : Prop := (qX3_pressureOf x 1 ((mN x) (Int32.toNatClampNeg 3)) (fun r1 => Q (((mN x) (Int32.toNatClampNeg 7)) - r1)))
set_option maxHeartbeats 4000000 in
set_option maxRecDepth 100000 in
theorem kX3_allowedCasingPressure (l : Launch) (D : va_G) (I O : ClassId) (a : MA) (sz : Nat) (x : Mod) (Q : Int32 → Prop) (hw : qX3_allowedCasingPressure x Q) : Met l yX3_allowedCasingPressure wsX3_allowedCasingPressure rX3_allowedCasingPressure (mPc D I O [.ref a.1] (mdlW I a x) sz) (va_Qi (fun r (_ : Unit) => Q r) (mB D (va_A (mdlW I a x) sz) (fun _ => mdlW I a x)) (va_A (mdlW I a x) sz)) 0 0 (va_A (mdlW I a x) sz) := by
  refine m_start (by decide) rfl (Nat.le_of_ble_eq_true rfl) (fun p e s m below meth c ls H locs hx hb hr hml hts hown hlocks hnm hK hP hD hA hS hl => ?_)
  have hown : s.vm.findClass RX3 = some m.cls := hown
  have hl : lv_has ls 1 [(0, .ref a.1)] := hl
  have hiX3 : ∀ w ∈ wsX30, w ∈ wsX3_allowedCasingPressure := by decide +kernel
  have f0 := hts (.fieldLink RX3 7 "WellControlModel" "now" "[I") (by decide +kernel)
  unfold qX3_allowedCasingPressure at hw
  refine lv_aload_n hx hb dX3_allowedCasingPressure_0 rfl (lv_at hl 0 rfl) ?_
  refine va_get (ci := 3) (v := .ref a.2.1) (C := RX3) (T := TX3) (N := 6) hx hb hts hiX3 hown hK.1 hP 0 rfl rfl 0 (by decide) f0 (fun _ h9 => h9) rfl dX3_allowedCasingPressure_1 ?_
  refine lv_bipush (v := 7) hx hb dX3_allowedCasingPressure_4 (by decide) ?_
  refine va_iald hx hb hK.1 hP 3 0 rfl rfl (vp_c 7 4416 (by decide)) dX3_allowedCasingPressure_6 ?_
  refine lv_aload_n hx hb dX3_allowedCasingPressure_7 rfl (lv_at hl 0 rfl) ?_
  refine lv_iconst (v := 1) hx hb dX3_allowedCasingPressure_8 (by decide) ?_
  refine lv_aload_n hx hb dX3_allowedCasingPressure_9 rfl (lv_at hl 0 rfl) ?_
  refine va_get (ci := 3) (v := .ref a.2.1) (C := RX3) (T := TX3) (N := 6) hx hb hts hiX3 hown hK.1 hP 0 rfl rfl 0 (by decide) f0 (fun _ h9 => h9) rfl dX3_allowedCasingPressure_10 ?_
  refine lv_iconst (v := 3) hx hb dX3_allowedCasingPressure_13 (by decide) ?_
  refine va_iald hx hb hK.1 hP 3 0 rfl rfl (vp_c 3 4416 (by decide)) dX3_allowedCasingPressure_14 ?_
  refine mw_i (mv_V (As := [.int 1, .int ((mN x) (Int32.toNatClampNeg 3))]) (rest := [.int ((mN x) (Int32.toNatClampNeg 7))]) ⟨hx, hb, hml, hown, hts⟩ (kX3_pressureOf l D I O a H.size x 1 ((mN x) (Int32.toNatClampNeg 3)) _ hw) (cwV 2 hts gX3_allowedCasingPressure_X3_pressureOf rfl rfl rfl hdVX3_pressureOf ⟨(Nat.le_of_ble_eq_true rfl), (Nat.le_of_ble_eq_true rfl)⟩) hK hP hD 0 3 rfl rfl rfl rfl hl.1 rfl (Nat.le_of_ble_eq_true rfl) dX3_allowedCasingPressure_15 ⟨(Nat.le_of_ble_eq_true rfl), (Nat.le_of_ble_eq_true rfl)⟩) hP hD hS hA (fun r1 _ H locs hw hP hD hS => ?_)
  have hP : va_P D vwCl (mdlW I a x) H := hP
  have hD : va_D (va_A (mdlW I a x) sz) (mdlW I a x) := hD
  refine lv_isub hx hb dX3_allowedCasingPressure_18 ?_
  exact m_iret (u := ()) hx hb hr hlocks hS hP hD dX3_allowedCasingPressure_19 hw
