def qX2_portionsFor (p1 : Int32) (p2 : Int32) (Q : Int32 → Prop) : Prop := (∀ v1 : Int32, v1 = (if (1 : Int32) < p2 then p2 else 1) → (¬ v1 = 0 ∧ Q (((p1 + v1) - 1) / v1)))
set_option maxHeartbeats 4000000 in
set_option maxRecDepth 100000 in
theorem kX2_portionsFor (l : Launch) (D : va_G) (I O : ClassId) (sz : Nat) (p1 : Int32) (p2 : Int32) (Q : Int32 → Prop) (hw : qX2_portionsFor p1 p2 Q) : Met l yX2_portionsFor wsX2_portionsFor rX2_portionsFor (mPc D I O [.int p1, .int p2] ([]) sz) (va_Qi (fun r (_ : Unit) => Q r) (mB D (va_A ([]) sz) (fun _ => [])) (va_A ([]) sz)) 0 0 (va_A ([]) sz) := by
  refine m_start (by decide) rfl (Nat.le_of_ble_eq_true rfl) (fun p e s m below meth c ls H locs hx hb hr hml hts hown hlocks hnm hK hP hD hA hS hl => ?_)
  have hown : s.vm.findClass RX2 = some m.cls := hown
  have hl : lv_has ls 3 [(0, .int p1), (1, .int p2)] := hl
  have f0 := hts (.methodLink RX2 124 Lib.Math.max.name) (by decide +kernel)
  have f1 := hts (.static Lib.Math.max.name) (by decide +kernel)
  have f2 := hts (.initialized "java/lang/Math") (by decide +kernel)
  have f3 := hts (.code Lib.Math.max.name Lib.Math.max.code 2 (some .int)) (by decide +kernel)
  unfold qX2_portionsFor at hw
  refine lv_iconst (v := 1) hx hb dX2_portionsFor_0 (by decide) ?_
  refine lv_iload_n hx hb dX2_portionsFor_1 rfl (lv_at hl 1 rfl) ?_
  refine va_mmax hx hb (hml.trans hl.1.symm) hown f0 f1 f2 f3 (Nat.le_of_ble_eq_true rfl) (Nat.le_of_ble_eq_true rfl) (Nat.le_of_ble_eq_true rfl) (Nat.le_of_ble_eq_true rfl) dX2_portionsFor_2 ?_
  refine lv_topi (fun v1 ev1 => ?_)
  have hw := hw v1 ev1
  refine lv_istore_n (lv' := [(2, .int v1), (0, .int p1), (1, .int p2)]) hx hb dX2_portionsFor_5 rfl hl (by decide) rfl (fun ls hl => ?_)
  refine lv_iload_n hx hb dX2_portionsFor_6 rfl (lv_at hl 1 rfl) ?_
  refine lv_iload_n hx hb dX2_portionsFor_7 rfl (lv_at hl 0 rfl) ?_
  refine lv_iadd hx hb dX2_portionsFor_8 ?_
  refine lv_iconst (v := 1) hx hb dX2_portionsFor_9 (by decide) ?_
  refine lv_isub hx hb dX2_portionsFor_10 ?_
  refine lv_iload_n hx hb dX2_portionsFor_11 rfl (lv_at hl 0 rfl) ?_
  obtain ⟨h2, hw⟩ := hw
  refine lv_idiv hx hb dX2_portionsFor_12 h2 ?_
  exact m_iret (u := ()) hx hb hr hlocks hS hP hD dX2_portionsFor_13 hw
def qX1_circulateInSteps_L10 (p2 : Int32) (p3 : Int32) (r1 : Int32) (K5 : Int32 → Wel → Prop) : Nat → Int32 → Wel → Prop
  | 0, _, _ => False
  | n7 + 1, i3, w4 => ((r1 ≤ i3 → K5 i3 w4) ∧ (¬ r1 ≤ i3 → (qX1_circulate w4 p2 p3 (fun u10 => (qX1_checkShoe u10 (fun u11 => qX1_circulateInSteps_L10 p2 p3 r1 K5 n7 (i3 + 1) u11))))))
def qX1_circulateInSteps (x : Wel) (p1 : Int32) (p2 : Int32) (p3 : Int32) (Q : Wel → Prop) : Prop := (qX2_portionsFor p1 p2 (fun r1 => (∃ n2, qX1_circulateInSteps_L10 p2 p3 r1 (fun i3 w4 => Q w4) n2 0 x)))
set_option maxHeartbeats 4000000 in
set_option maxRecDepth 100000 in
theorem kX1_circulateInSteps (l : Launch) (D : va_G) (I O : ClassId) (a : WA) (sz : Nat) (x : Wel) (p1 : Int32) (p2 : Int32) (p3 : Int32) (Q : Wel → Prop) (hw : qX1_circulateInSteps x p1 p2 p3 Q) : Met l yX1_circulateInSteps wsX1_circulateInSteps rX1_circulateInSteps (mPc D I O [.ref a.1, .int p1, .int p2, .int p3] (welB I a x) sz) (va_Qv (fun (u : Wel) => Q u) (mB D (va_A (welB I a x) sz) (fun u => welB I a u)) (va_A (welB I a x) sz)) 0 0 (va_A (welB I a x) sz) := by
  refine m_start (by decide) rfl (Nat.le_of_ble_eq_true rfl) (fun p e s m below meth c ls H locs hx hb hr hml hts hown hlocks hnm hK hP hD hA hS hl => ?_)
  have hown : s.vm.findClass RX1 = some m.cls := hown
  have hl : lv_has ls 6 [(0, .ref a.1), (1, .int p1), (2, .int p2), (3, .int p3)] := hl
  have f0 := hts (.initialized RX2) (by decide +kernel)
  have f1 := hts (.static yX2_portionsFor) (by decide +kernel)
  unfold qX1_circulateInSteps at hw
  refine lv_iload_n hx hb dX1_circulateInSteps_0 rfl (lv_at hl 1 rfl) ?_
  refine lv_iload_n hx hb dX1_circulateInSteps_1 rfl (lv_at hl 2 rfl) ?_
  refine m0_i (mv_SN (As := [.int p1, .int p2]) (rest := []) ⟨hx, hb, hml, hown, hts⟩ (kX2_portionsFor l D I O H.size p1 p2 _ hw) (va_cnB 2 hts gX1_circulateInSteps_X2_portionsFor_n86 rfl rfl rfl hK.2.2.1 f0 hdSX2_portionsFor ⟨(Nat.le_of_ble_eq_true rfl), (Nat.le_of_ble_eq_true rfl)⟩) f1 hK (nil_P (D := D) (H := H)) (nil_D (A := va_A (welB I a x) sz)) rfl hl.1 rfl (Nat.le_of_ble_eq_true rfl) dX1_circulateInSteps_2 ⟨(Nat.le_of_ble_eq_true rfl), (Nat.le_of_ble_eq_true rfl)⟩) hP hD hS hA (fun r1 _ H locs hw hP hD hS => ?_)
  refine lv_istore (lv' := [(4, .int r1), (0, .ref a.1), (1, .int p1), (2, .int p2), (3, .int p3)]) hx hb dX1_circulateInSteps_5 hl (by decide) rfl (fun ls hl => ?_)
  refine lv_iconst (v := 0) hx hb dX1_circulateInSteps_7 (by decide) ?_
  refine lv_istore (lv' := [(5, .int 0), (4, .int r1), (0, .ref a.1), (1, .int p1), (2, .int p2), (3, .int p3)]) hx hb dX1_circulateInSteps_8 hl (by decide) rfl (fun ls hl => ?_)
  obtain ⟨n2, hw⟩ := hw
  have ky8 : ∀ (K5 : Int32 → Wel → Prop) (_ : ∀ (i3 : Int32) (w4 : Wel) (H : Heap) (locs : List Loc) (ls : Array Slot), va_P D vwCl (welB I a w4) H → va_D (va_A (welB I a x) sz) (welB I a w4) → va_S (va_A (welB I a x) sz) s.heap H locs → lv_has ls 6 [(5, .int i3), (4, .int r1), (0, .ref a.1), (1, .int p1), (2, .int p2), (3, .int p3)] → K5 i3 w4 → W p l e rX1_circulateInSteps s m ([.ref a.1, .int p1, .int p2, .int p3] : List Value).toArray below meth c H locs 0 0 (MQ below (va_Qv (fun (u : Wel) => Q u) (mB D (va_A (welB I a x) sz) (fun u => welB I a u)) (va_A (welB I a x) sz)) ([.ref a.1, .int p1, .int p2, .int p3] : List Value).toArray s 0 0 (va_A (welB I a x) sz)) (F0 m 33 ls [])) (n7 : Nat) (i3 : Int32) (w4 : Wel) (H : Heap) (locs : List Loc) (ls : Array Slot), va_P D vwCl (welB I a w4) H → va_D (va_A (welB I a x) sz) (welB I a w4) → va_S (va_A (welB I a x) sz) s.heap H locs → lv_has ls 6 [(5, .int i3), (4, .int r1), (0, .ref a.1), (1, .int p1), (2, .int p2), (3, .int p3)] → qX1_circulateInSteps_L10 p2 p3 r1 K5 n7 i3 w4 → W p l e rX1_circulateInSteps s m ([.ref a.1, .int p1, .int p2, .int p3] : List Value).toArray below meth c H locs 0 0 (MQ below (va_Qv (fun (u : Wel) => Q u) (mB D (va_A (welB I a x) sz) (fun u => welB I a u)) (va_A (welB I a x) sz)) ([.ref a.1, .int p1, .int p2, .int p3] : List Value).toArray s 0 0 (va_A (welB I a x) sz)) (F0 m 10 ls []) := by
    intro K5 hx6 n7
    induction n7 with
    | zero =>
      intro i3 w4 H locs ls hP hD hS hl hw
      exact hw.elim
    | succ n7 ihn7 =>
      intro i3 w4 H locs ls hP hD hS hl hw
      unfold qX1_circulateInSteps_L10 at hw
      refine lv_iload hx hb dX1_circulateInSteps_10 (lv_at hl 0 rfl) ?_
      refine lv_iload hx hb dX1_circulateInSteps_12 (lv_at hl 1 rfl) ?_
      refine lv_icmp_ge (tgt := 33) hx hb dX1_circulateInSteps_14 (by decide) (fun c9 => ?_) (fun c9 => ?_)
      · have hw := hw.1 c9
        exact hx6 i3 w4 H locs ls hP hD hS (lv_sub hl [0, 1, 2, 3, 4, 5] rfl) hw
      · have hw := hw.2 c9
        refine lv_aload_n hx hb dX1_circulateInSteps_17 rfl (lv_at hl 2 rfl) ?_
        refine lv_iload_n hx hb dX1_circulateInSteps_18 rfl (lv_at hl 4 rfl) ?_
        refine lv_iload_n hx hb dX1_circulateInSteps_19 rfl (lv_at hl 5 rfl) ?_
        refine mw_v (mv_V (As := [.int p2, .int p3]) (rest := []) ⟨hx, hb, hml, hown, hts⟩ (kX1_circulate l D I O a H.size w4 p2 p3 _ hw) (cwV 2 hts gX1_circulateInSteps_X1_circulate rfl rfl rfl hdVX1_circulate ⟨(Nat.le_of_ble_eq_true rfl), (Nat.le_of_ble_eq_true rfl)⟩) hK hP hD 0 1 rfl rfl rfl rfl hl.1 rfl (Nat.le_of_ble_eq_true rfl) dX1_circulateInSteps_20 ⟨(Nat.le_of_ble_eq_true rfl), (Nat.le_of_ble_eq_true rfl)⟩) hP hD hS hA (fun u10 H locs hw hP hD hS => ?_)
        have hP : va_P D vwCl (welB I a u10) H := hP
        have hD : va_D (va_A (welB I a x) sz) (welB I a u10) := hD
        refine lv_aload_n hx hb dX1_circulateInSteps_23 rfl (lv_at hl 2 rfl) ?_
        refine mw_v (mv_V (As := []) (rest := []) ⟨hx, hb, hml, hown, hts⟩ (kX1_checkShoe l D I O a H.size u10 _ hw) (cwV 0 hts gX1_circulateInSteps_X1_checkShoe rfl rfl rfl hdVX1_checkShoe ⟨(Nat.le_of_ble_eq_true rfl), (Nat.le_of_ble_eq_true rfl)⟩) hK hP hD 0 1 rfl rfl rfl rfl hl.1 rfl (Nat.le_of_ble_eq_true rfl) dX1_circulateInSteps_24 ⟨(Nat.le_of_ble_eq_true rfl), (Nat.le_of_ble_eq_true rfl)⟩) hP hD hS hA (fun u11 H locs hw hP hD hS => ?_)
        have hP : va_P D vwCl (welB I a u11) H := hP
        have hD : va_D (va_A (welB I a x) sz) (welB I a u11) := hD
        refine lv_iinc (v := i3 + 1) (lv' := [(5, .int (i3 + 1)), (4, .int r1), (0, .ref a.1), (1, .int p1), (2, .int p2), (3, .int p3)]) hx hb dX1_circulateInSteps_27 hl (k := 0) rfl (congrArg (fun z => i3 + z) (show Int32.ofInt 1 = 1 from by decide)) (by decide) rfl (fun ls hl => ?_)
        refine lv_goto (tgt := 10) hx hb dX1_circulateInSteps_30 (by decide) ?_
        exact ihn7 (i3 + 1) u11 H locs ls hP hD hS (lv_sub hl [0, 1, 2, 3, 4, 5] rfl) hw
  refine ky8 _ (fun i3 w4 H locs ls hP hD hS hl hw => ?_) n2 0 x H locs ls hP hD hS (lv_sub hl [0, 1, 2, 3, 4, 5] rfl) hw
  exact m_vret (u := w4) hx hb hr hlocks hS hP hD dX1_circulateInSteps_33 hw
def qX1_letIn (x : Wel) (p1 : Int32) (p2 : Int32) (Q : Wel → Prop) : Prop := (qX0_release (yA x) p1 (fun u1 => (qX0_enter u1 p1 p2 (fun u2 => Q (y0 x, y1 x, y2 x, y3 x, y4 x, y5 x, y6 x, y7 x, (y8 x) + p1, y9 x, y10 x, yP x, u2)))))
set_option maxHeartbeats 4000000 in
set_option maxRecDepth 100000 in
theorem kX1_letIn (l : Launch) (D : va_G) (I O : ClassId) (a : WA) (sz : Nat) (x : Wel) (p1 : Int32) (p2 : Int32) (Q : Wel → Prop) (hw : qX1_letIn x p1 p2 Q) : Met l yX1_letIn wsX1_letIn rX1_letIn (mPc D I O [.ref a.1, .int p1, .int p2] (welB I a x) sz) (va_Qv (fun (u : Wel) => Q u) (mB D (va_A (welB I a x) sz) (fun u => welB I a u)) (va_A (welB I a x) sz)) 0 0 (va_A (welB I a x) sz) := by
  refine m_start (by decide) rfl (Nat.le_of_ble_eq_true rfl) (fun p e s m below meth c ls H locs hx hb hr hml hts hown hlocks hnm hK hP hD hA hS hl => ?_)
  have hown : s.vm.findClass RX1 = some m.cls := hown
  have hl : lv_has ls 3 [(0, .ref a.1), (1, .int p1), (2, .int p2)] := hl
  have hiX1 : ∀ w ∈ wsX10, w ∈ wsX1_letIn := by decide +kernel
  have f0 := hts (.fieldLink RX1 45 "WellControl$Well" "annulus" "LWellControl$Column;") (by decide +kernel)
  have f1 := hts (.fieldLink RX1 65 "WellControl$Well" "gained" "I") (by decide +kernel)
  unfold qX1_letIn at hw
  refine lv_aload_n hx hb dX1_letIn_0 rfl (lv_at hl 0 rfl) ?_
  refine va_get (ci := 1) (v := .ref a.2.2.1) (C := RX1) (T := TX1) (N := 13) hx hb hts hiX1 hown hK.1 hP 0 rfl rfl 12 (by decide) f0 (fun _ h9 => h9) rfl dX1_letIn_1 ?_
  refine lv_iload_n hx hb dX1_letIn_4 rfl (lv_at hl 1 rfl) ?_
  have hPc := va_P.mid (X := welO a x :: colB I a.2.1 (yP x)) (wc := colB I a.2.2 (yA x)) (Y := []) hP
  have hDc := va_D.mid (X := welO a x :: colB I a.2.1 (yP x)) (wc := colB I a.2.2 (yA x)) (Y := []) hD
  refine mc_v (welO a x :: colB I a.2.1 (yP x)) ([]) (mv_V (As := [.int p1]) (rest := []) ⟨hx, hb, hml, hown, hts⟩ (kX0_release l D I O a.2.2 H.size (yA x) p1 _ hw) (cwV 1 hts gX1_letIn_X0_release rfl rfl rfl hdVX0_release ⟨(Nat.le_of_ble_eq_true rfl), (Nat.le_of_ble_eq_true rfl)⟩) hK hPc hDc 0 0 rfl rfl rfl rfl hl.1 rfl (Nat.le_of_ble_eq_true rfl) dX1_letIn_5 ⟨(Nat.le_of_ble_eq_true rfl), (Nat.le_of_ble_eq_true rfl)⟩) hP hD hS hA (fun u1 H locs hw hP hD hS => ?_)
  have hP : va_P D vwCl (welB I a (y0 x, y1 x, y2 x, y3 x, y4 x, y5 x, y6 x, y7 x, y8 x, y9 x, y10 x, yP x, u1)) H := hP
  have hD : va_D (va_A (welB I a x) sz) (welB I a (y0 x, y1 x, y2 x, y3 x, y4 x, y5 x, y6 x, y7 x, y8 x, y9 x, y10 x, yP x, u1)) := hD
  refine lv_aload_n hx hb dX1_letIn_8 rfl (lv_at hl 0 rfl) ?_
  refine va_get (ci := 1) (v := .ref a.2.2.1) (C := RX1) (T := TX1) (N := 13) hx hb hts hiX1 hown hK.1 hP 0 rfl rfl 12 (by decide) f0 (fun _ h9 => h9) rfl dX1_letIn_9 ?_
  refine lv_iload_n hx hb dX1_letIn_12 rfl (lv_at hl 1 rfl) ?_
  refine lv_iload_n hx hb dX1_letIn_13 rfl (lv_at hl 2 rfl) ?_
  have hPc := va_P.mid (X := welO a (y0 x, y1 x, y2 x, y3 x, y4 x, y5 x, y6 x, y7 x, y8 x, y9 x, y10 x, yP x, u1) :: colB I a.2.1 (yP x)) (wc := colB I a.2.2 u1) (Y := []) hP
  have hDc := va_D.mid (X := welO a (y0 x, y1 x, y2 x, y3 x, y4 x, y5 x, y6 x, y7 x, y8 x, y9 x, y10 x, yP x, u1) :: colB I a.2.1 (yP x)) (wc := colB I a.2.2 u1) (Y := []) hD
  refine mc_v (welO a (y0 x, y1 x, y2 x, y3 x, y4 x, y5 x, y6 x, y7 x, y8 x, y9 x, y10 x, yP x, u1) :: colB I a.2.1 (yP x)) ([]) (mv_V (As := [.int p1, .int p2]) (rest := []) ⟨hx, hb, hml, hown, hts⟩ (kX0_enter l D I O a.2.2 H.size u1 p1 p2 _ hw) (cwV 2 hts gX1_letIn_X0_enter rfl rfl rfl hdVX0_enter ⟨(Nat.le_of_ble_eq_true rfl), (Nat.le_of_ble_eq_true rfl)⟩) hK hPc hDc 0 0 rfl rfl rfl rfl hl.1 rfl (Nat.le_of_ble_eq_true rfl) dX1_letIn_14 ⟨(Nat.le_of_ble_eq_true rfl), (Nat.le_of_ble_eq_true rfl)⟩) hP hD hS hA (fun u2 H locs hw hP hD hS => ?_)
  have hP : va_P D vwCl (welB I a (y0 x, y1 x, y2 x, y3 x, y4 x, y5 x, y6 x, y7 x, y8 x, y9 x, y10 x, yP x, u2)) H := hP
  have hD : va_D (va_A (welB I a x) sz) (welB I a (y0 x, y1 x, y2 x, y3 x, y4 x, y5 x, y6 x, y7 x, y8 x, y9 x, y10 x, yP x, u2)) := hD
  refine lv_aload_n hx hb dX1_letIn_17 rfl (lv_at hl 0 rfl) ?_
  refine lv_dup hx hb dX1_letIn_18 rfl ?_
  refine va_get (ci := 1) (v := .int (y8 x)) (C := RX1) (T := TX1) (N := 13) hx hb hts hiX1 hown hK.1 hP 0 rfl rfl 8 (by decide) f1 (fun _ h9 => h9) rfl dX1_letIn_19 ?_
  refine lv_iload_n hx hb dX1_letIn_22 rfl (lv_at hl 1 rfl) ?_
  refine lv_iadd hx hb dX1_letIn_23 ?_
  refine va_put (ci := 1) (v := .int ((y8 x) + p1)) (ty := .int) (C := RX1) (T := TX1) (N := 13) hx hb hts hiX1 tyX1 tyX1_ok nmX1 hown hK.1 hP hD hS 0 rfl rfl 8 (by decide) f1 (fun _ h9 => h9) rfl (by decide +kernel) rfl rfl (Nat.le_of_ble_eq_true rfl) dX1_letIn_24 (fun H locs hP hD hS => ?_)
  have hP : va_P D vwCl (welB I a (y0 x, y1 x, y2 x, y3 x, y4 x, y5 x, y6 x, y7 x, (y8 x) + p1, y9 x, y10 x, yP x, u2)) H := hP
  have hD : va_D (va_A (welB I a x) sz) (welB I a (y0 x, y1 x, y2 x, y3 x, y4 x, y5 x, y6 x, y7 x, (y8 x) + p1, y9 x, y10 x, yP x, u2)) := hD
  exact m_vret (u := (y0 x, y1 x, y2 x, y3 x, y4 x, y5 x, y6 x, y7 x, (y8 x) + p1, y9 x, y10 x, yP x, u2)) hx hb hr hlocks hS hP hD dX1_letIn_27 hw
def qX1_densityToKill (x : Wel) (Q : Int32 → Prop) : Prop := (∀ v1 : Int64, v1 = 981 * (Int32.toInt64 (if (1 : Int32) < (y0 x) then (y0 x) else 1)) → (¬ v1 = 0 ∧ (∀ v3 : Int64, v3 = (((100000 * (Int32.toInt64 (y5 x))) + v1) - 1) / v1 → (((lg_cmp v3 2500) ≤ 0 → Q (Int64.toInt32 (if v3 < 1 then 1 else v3))) ∧ (¬ (lg_cmp v3 2500) ≤ 0 → Q (-4))))))
set_option maxHeartbeats 4000000 in
set_option maxRecDepth 100000 in
theorem kX1_densityToKill (l : Launch) (D : va_G) (I O : ClassId) (a : WA) (sz : Nat) (x : Wel) (Q : Int32 → Prop) (hw : qX1_densityToKill x Q) : Met l yX1_densityToKill wsX1_densityToKill rX1_densityToKill (mPc D I O [.ref a.1] (welB I a x) sz) (va_Qi (fun r (_ : Unit) => Q r) (mB D (va_A (welB I a x) sz) (fun _ => welB I a x)) (va_A (welB I a x) sz)) 0 0 (va_A (welB I a x) sz) := by
  refine m_start (by decide) rfl (Nat.le_of_ble_eq_true rfl) (fun p e s m below meth c ls H locs hx hb hr hml hts hown hlocks hnm hK hP hD hA hS hl => ?_)
  have hown : s.vm.findClass RX1 = some m.cls := hown
  have hl : lv_has ls 5 [(0, .ref a.1)] := hl
  have hiX1 : ∀ w ∈ wsX10, w ∈ wsX1_densityToKill := by decide +kernel
  have f0 := hts (.constantLong RX1 124 (981)) (by decide +kernel)
  have f1 := hts (.fieldLink RX1 9 "WellControl$Well" "depth" "I") (by decide +kernel)
  have f2 := hts (.methodLink RX1 99 Lib.Math.max.name) (by decide +kernel)
  have f3 := hts (.static Lib.Math.max.name) (by decide +kernel)
  have f4 := hts (.initialized "java/lang/Math") (by decide +kernel)
  have f5 := hts (.code Lib.Math.max.name Lib.Math.max.code 2 (some .int)) (by decide +kernel)
  have f6 := hts (.constantLong RX1 126 (100000)) (by decide +kernel)
  have f7 := hts (.fieldLink RX1 27 "WellControl$Well" "formation" "I") (by decide +kernel)
  have f8 := hts (.constantLong RX1 140 (2500)) (by decide +kernel)
  have f9 := hts (.methodLink RX1 142 Lib.MathLoose.max_long.x) (by decide +kernel)
  have f10 := hts (.static Lib.MathLoose.max_long.x) (by decide +kernel)
  have f11 := hts (.code Lib.MathLoose.max_long.x Lib.MathLoose.max_long.code 4 (some .long)) (by decide +kernel)
  unfold qX1_densityToKill at hw
  refine lv_ldc2 (v := 981) hx hb hown f0 dX1_densityToKill_0 ?_
  refine lv_iconst (v := 1) hx hb dX1_densityToKill_3 (by decide) ?_
  refine lv_aload_n hx hb dX1_densityToKill_4 rfl (lv_at hl 0 rfl) ?_
  refine va_get (ci := 1) (v := .int (y0 x)) (C := RX1) (T := TX1) (N := 13) hx hb hts hiX1 hown hK.1 hP 0 rfl rfl 0 (by decide) f1 (fun _ h9 => h9) rfl dX1_densityToKill_5 ?_
  refine va_mmax hx hb (hml.trans hl.1.symm) hown f2 f3 f4 f5 (Nat.le_of_ble_eq_true rfl) (Nat.le_of_ble_eq_true rfl) (Nat.le_of_ble_eq_true rfl) (Nat.le_of_ble_eq_true rfl) dX1_densityToKill_8 ?_
  refine lv_i2l (v := Int32.toInt64 (if (1 : Int32) < (y0 x) then (y0 x) else 1)) hx hb dX1_densityToKill_11 rfl ?_
  refine lv_lmul hx hb dX1_densityToKill_12 ?_
  refine lv_topl (fun v1 ev1 => ?_)
  have hw := hw v1 ev1
  refine lv_lstore_n (lv' := [(1, .long v1), (0, .ref a.1)]) hx hb dX1_densityToKill_13 rfl hl (by decide) rfl (fun ls hl => ?_)
  refine lv_ldc2 (v := 100000) hx hb hown f6 dX1_densityToKill_14 ?_
  refine lv_aload_n hx hb dX1_densityToKill_17 rfl (lv_at hl 1 rfl) ?_
  refine va_get (ci := 1) (v := .int (y5 x)) (C := RX1) (T := TX1) (N := 13) hx hb hts hiX1 hown hK.1 hP 0 rfl rfl 5 (by decide) f7 (fun _ h9 => h9) rfl dX1_densityToKill_18 ?_
  refine lv_i2l (v := Int32.toInt64 (y5 x)) hx hb dX1_densityToKill_21 rfl ?_
  refine lv_lmul hx hb dX1_densityToKill_22 ?_
  refine lv_lload_n hx hb dX1_densityToKill_23 rfl (lv_at hl 0 rfl) ?_
  refine lv_ladd hx hb dX1_densityToKill_24 ?_
  refine lv_lconst (v := 1) hx hb dX1_densityToKill_25 (by decide) ?_
  refine lv_lsub hx hb dX1_densityToKill_26 ?_
  refine lv_lload_n hx hb dX1_densityToKill_27 rfl (lv_at hl 0 rfl) ?_
  obtain ⟨h2, hw⟩ := hw
  refine lv_ldiv hx hb dX1_densityToKill_28 h2 ?_
  refine lv_topl (fun v3 ev3 => ?_)
  have hw := hw v3 ev3
  refine lv_lstore_n (lv' := [(3, .long v3), (1, .long v1), (0, .ref a.1)]) hx hb dX1_densityToKill_29 rfl hl (by decide) rfl (fun ls hl => ?_)
  refine lv_lload_n hx hb dX1_densityToKill_30 rfl (lv_at hl 0 rfl) ?_
  refine lv_ldc2 (v := 2500) hx hb hown f8 dX1_densityToKill_31 ?_
  refine W.lcmp hx hb dX1_densityToKill_34 ?_
  refine lv_if_le (tgt := 43) hx hb dX1_densityToKill_35 (by decide) (fun c4 => ?_) (fun c4 => ?_)
  · have hw := hw.1 c4
    refine lv_lconst (v := 1) hx hb dX1_densityToKill_43 (by decide) ?_
    refine lv_lload_n hx hb dX1_densityToKill_44 rfl (lv_at hl 0 rfl) ?_
    refine va_mmax_long hx hb (hml.trans hl.1.symm) hown f9 f10 f4 f11 (Nat.le_of_ble_eq_true rfl) (Nat.le_of_ble_eq_true rfl) (Nat.le_of_ble_eq_true rfl) (Nat.le_of_ble_eq_true rfl) dX1_densityToKill_45 ?_
    refine lv_l2i (v := Int64.toInt32 (if v3 < 1 then 1 else v3)) hx hb dX1_densityToKill_48 rfl ?_
    exact m_iret (u := ()) hx hb hr hlocks hS hP hD dX1_densityToKill_49 hw
  · have hw := hw.2 c4
    refine lv_bipush (v := (-4)) hx hb dX1_densityToKill_38 (by decide) ?_
    refine lv_goto (tgt := 49) hx hb dX1_densityToKill_40 (by decide) ?_
    exact m_iret (u := ()) hx hb hr hlocks hS hP hD dX1_densityToKill_49 hw
def qX1_mixedSettings (x : Wel) (p1 : Int64) (Q : Int64 → Prop) : Prop := (qX2_mixed p1 (Int32.toInt64 (y0 x)) (fun r1 => (qX2_mixed r1 (Int32.toInt64 (y1 x)) (fun r2 => (qX2_mixed r2 (Int32.toInt64 (y2 x)) (fun r3 => (qX2_mixed r3 (Int32.toInt64 (y3 x)) (fun r4 => (qX2_mixed r4 (Int32.toInt64 (y4 x)) (fun r5 => (qX2_mixed r5 (Int32.toInt64 (y5 x)) (fun r6 => (qX2_mixed r6 (Int32.toInt64 (y6 x)) (fun r7 => (qX2_mixed r7 (Int32.toInt64 (y7 x)) (fun r8 => Q r8))))))))))))))))
set_option maxHeartbeats 4000000 in
set_option maxRecDepth 100000 in
theorem kX1_mixedSettings (l : Launch) (D : va_G) (I O : ClassId) (a : WA) (sz : Nat) (x : Wel) (p1 : Int64) (Q : Int64 → Prop) (hw : qX1_mixedSettings x p1 Q) : Met l yX1_mixedSettings wsX1_mixedSettings rX1_mixedSettings (mPc D I O [.ref a.1, .long p1] (welB I a x) sz) (va_Ql (fun r (_ : Unit) => Q r) (mB D (va_A (welB I a x) sz) (fun _ => welB I a x)) (va_A (welB I a x) sz)) 0 0 (va_A (welB I a x) sz) := by
  refine m_start (by decide) rfl (Nat.le_of_ble_eq_true rfl) (fun p e s m below meth c ls H locs hx hb hr hml hts hown hlocks hnm hK hP hD hA hS hl => ?_)
  have hown : s.vm.findClass RX1 = some m.cls := hown
  have hl : lv_has ls 3 [(0, .ref a.1), (1, .long p1)] := hl
  have hiX1 : ∀ w ∈ wsX10, w ∈ wsX1_mixedSettings := by decide +kernel
  have f0 := hts (.fieldLink RX1 9 "WellControl$Well" "depth" "I") (by decide +kernel)
  have f1 := hts (.initialized RX2) (by decide +kernel)
  have f2 := hts (.static yX2_mixed) (by decide +kernel)
  have f3 := hts (.fieldLink RX1 15 "WellControl$Well" "pipeCapacity" "I") (by decide +kernel)
  have f4 := hts (.fieldLink RX1 18 "WellControl$Well" "annulusCapacity" "I") (by decide +kernel)
  have f5 := hts (.fieldLink RX1 21 "WellControl$Well" "shoe" "I") (by decide +kernel)
  have f6 := hts (.fieldLink RX1 24 "WellControl$Well" "mud" "I") (by decide +kernel)
  have f7 := hts (.fieldLink RX1 27 "WellControl$Well" "formation" "I") (by decide +kernel)
  have f8 := hts (.fieldLink RX1 30 "WellControl$Well" "slowPump" "I") (by decide +kernel)
  have f9 := hts (.fieldLink RX1 33 "WellControl$Well" "fracture" "I") (by decide +kernel)
  unfold qX1_mixedSettings at hw
  refine lv_lload_n hx hb dX1_mixedSettings_0 rfl (lv_at hl 1 rfl) ?_
  refine lv_aload_n hx hb dX1_mixedSettings_1 rfl (lv_at hl 0 rfl) ?_
  refine va_get (ci := 1) (v := .int (y0 x)) (C := RX1) (T := TX1) (N := 13) hx hb hts hiX1 hown hK.1 hP 0 rfl rfl 0 (by decide) f0 (fun _ h9 => h9) rfl dX1_mixedSettings_2 ?_
  refine lv_i2l (v := Int32.toInt64 (y0 x)) hx hb dX1_mixedSettings_5 rfl ?_
  refine m0_l (mv_SN (As := [.long p1, .long (Int32.toInt64 (y0 x))]) (rest := []) ⟨hx, hb, hml, hown, hts⟩ (kX2_mixed l D I O H.size p1 (Int32.toInt64 (y0 x)) _ hw) (va_cnB 2 hts gX1_mixedSettings_X2_mixed_n145 rfl rfl rfl hK.2.2.2.1 f1 hdSX2_mixed ⟨(Nat.le_of_ble_eq_true rfl), (Nat.le_of_ble_eq_true rfl)⟩) f2 hK (nil_P (D := D) (H := H)) (nil_D (A := va_A (welB I a x) sz)) rfl hl.1 rfl (Nat.le_of_ble_eq_true rfl) dX1_mixedSettings_6 ⟨(Nat.le_of_ble_eq_true rfl), (Nat.le_of_ble_eq_true rfl)⟩) hP hD hS hA (fun r1 _ H locs hw hP hD hS => ?_)
  refine lv_lstore_n (lv' := [(1, .long r1), (0, .ref a.1)]) hx hb dX1_mixedSettings_9 rfl hl (by decide) rfl (fun ls hl => ?_)
  refine lv_lload_n hx hb dX1_mixedSettings_10 rfl (lv_at hl 0 rfl) ?_
  refine lv_aload_n hx hb dX1_mixedSettings_11 rfl (lv_at hl 1 rfl) ?_
  refine va_get (ci := 1) (v := .int (y1 x)) (C := RX1) (T := TX1) (N := 13) hx hb hts hiX1 hown hK.1 hP 0 rfl rfl 1 (by decide) f3 (fun _ h9 => h9) rfl dX1_mixedSettings_12 ?_
  refine lv_i2l (v := Int32.toInt64 (y1 x)) hx hb dX1_mixedSettings_15 rfl ?_
  refine m0_l (mv_SN (As := [.long r1, .long (Int32.toInt64 (y1 x))]) (rest := []) ⟨hx, hb, hml, hown, hts⟩ (kX2_mixed l D I O H.size r1 (Int32.toInt64 (y1 x)) _ hw) (va_cnB 2 hts gX1_mixedSettings_X2_mixed_n145 rfl rfl rfl hK.2.2.2.1 f1 hdSX2_mixed ⟨(Nat.le_of_ble_eq_true rfl), (Nat.le_of_ble_eq_true rfl)⟩) f2 hK (nil_P (D := D) (H := H)) (nil_D (A := va_A (welB I a x) sz)) rfl hl.1 rfl (Nat.le_of_ble_eq_true rfl) dX1_mixedSettings_16 ⟨(Nat.le_of_ble_eq_true rfl), (Nat.le_of_ble_eq_true rfl)⟩) hP hD hS hA (fun r2 _ H locs hw hP hD hS => ?_)
  refine lv_lstore_n (lv' := [(1, .long r2), (0, .ref a.1)]) hx hb dX1_mixedSettings_19 rfl hl (by decide) rfl (fun ls hl => ?_)
  refine lv_lload_n hx hb dX1_mixedSettings_20 rfl (lv_at hl 0 rfl) ?_
  refine lv_aload_n hx hb dX1_mixedSettings_21 rfl (lv_at hl 1 rfl) ?_
  refine va_get (ci := 1) (v := .int (y2 x)) (C := RX1) (T := TX1) (N := 13) hx hb hts hiX1 hown hK.1 hP 0 rfl rfl 2 (by decide) f4 (fun _ h9 => h9) rfl dX1_mixedSettings_22 ?_
  refine lv_i2l (v := Int32.toInt64 (y2 x)) hx hb dX1_mixedSettings_25 rfl ?_
  refine m0_l (mv_SN (As := [.long r2, .long (Int32.toInt64 (y2 x))]) (rest := []) ⟨hx, hb, hml, hown, hts⟩ (kX2_mixed l D I O H.size r2 (Int32.toInt64 (y2 x)) _ hw) (va_cnB 2 hts gX1_mixedSettings_X2_mixed_n145 rfl rfl rfl hK.2.2.2.1 f1 hdSX2_mixed ⟨(Nat.le_of_ble_eq_true rfl), (Nat.le_of_ble_eq_true rfl)⟩) f2 hK (nil_P (D := D) (H := H)) (nil_D (A := va_A (welB I a x) sz)) rfl hl.1 rfl (Nat.le_of_ble_eq_true rfl) dX1_mixedSettings_26 ⟨(Nat.le_of_ble_eq_true rfl), (Nat.le_of_ble_eq_true rfl)⟩) hP hD hS hA (fun r3 _ H locs hw hP hD hS => ?_)
  refine lv_lstore_n (lv' := [(1, .long r3), (0, .ref a.1)]) hx hb dX1_mixedSettings_29 rfl hl (by decide) rfl (fun ls hl => ?_)
  refine lv_lload_n hx hb dX1_mixedSettings_30 rfl (lv_at hl 0 rfl) ?_
  refine lv_aload_n hx hb dX1_mixedSettings_31 rfl (lv_at hl 1 rfl) ?_
  refine va_get (ci := 1) (v := .int (y3 x)) (C := RX1) (T := TX1) (N := 13) hx hb hts hiX1 hown hK.1 hP 0 rfl rfl 3 (by decide) f5 (fun _ h9 => h9) rfl dX1_mixedSettings_32 ?_
  refine lv_i2l (v := Int32.toInt64 (y3 x)) hx hb dX1_mixedSettings_35 rfl ?_
  refine m0_l (mv_SN (As := [.long r3, .long (Int32.toInt64 (y3 x))]) (rest := []) ⟨hx, hb, hml, hown, hts⟩ (kX2_mixed l D I O H.size r3 (Int32.toInt64 (y3 x)) _ hw) (va_cnB 2 hts gX1_mixedSettings_X2_mixed_n145 rfl rfl rfl hK.2.2.2.1 f1 hdSX2_mixed ⟨(Nat.le_of_ble_eq_true rfl), (Nat.le_of_ble_eq_true rfl)⟩) f2 hK (nil_P (D := D) (H := H)) (nil_D (A := va_A (welB I a x) sz)) rfl hl.1 rfl (Nat.le_of_ble_eq_true rfl) dX1_mixedSettings_36 ⟨(Nat.le_of_ble_eq_true rfl), (Nat.le_of_ble_eq_true rfl)⟩) hP hD hS hA (fun r4 _ H locs hw hP hD hS => ?_)
  refine lv_lstore_n (lv' := [(1, .long r4), (0, .ref a.1)]) hx hb dX1_mixedSettings_39 rfl hl (by decide) rfl (fun ls hl => ?_)
  refine lv_lload_n hx hb dX1_mixedSettings_40 rfl (lv_at hl 0 rfl) ?_
  refine lv_aload_n hx hb dX1_mixedSettings_41 rfl (lv_at hl 1 rfl) ?_
  refine va_get (ci := 1) (v := .int (y4 x)) (C := RX1) (T := TX1) (N := 13) hx hb hts hiX1 hown hK.1 hP 0 rfl rfl 4 (by decide) f6 (fun _ h9 => h9) rfl dX1_mixedSettings_42 ?_
  refine lv_i2l (v := Int32.toInt64 (y4 x)) hx hb dX1_mixedSettings_45 rfl ?_
  refine m0_l (mv_SN (As := [.long r4, .long (Int32.toInt64 (y4 x))]) (rest := []) ⟨hx, hb, hml, hown, hts⟩ (kX2_mixed l D I O H.size r4 (Int32.toInt64 (y4 x)) _ hw) (va_cnB 2 hts gX1_mixedSettings_X2_mixed_n145 rfl rfl rfl hK.2.2.2.1 f1 hdSX2_mixed ⟨(Nat.le_of_ble_eq_true rfl), (Nat.le_of_ble_eq_true rfl)⟩) f2 hK (nil_P (D := D) (H := H)) (nil_D (A := va_A (welB I a x) sz)) rfl hl.1 rfl (Nat.le_of_ble_eq_true rfl) dX1_mixedSettings_46 ⟨(Nat.le_of_ble_eq_true rfl), (Nat.le_of_ble_eq_true rfl)⟩) hP hD hS hA (fun r5 _ H locs hw hP hD hS => ?_)
  refine lv_lstore_n (lv' := [(1, .long r5), (0, .ref a.1)]) hx hb dX1_mixedSettings_49 rfl hl (by decide) rfl (fun ls hl => ?_)
  refine lv_lload_n hx hb dX1_mixedSettings_50 rfl (lv_at hl 0 rfl) ?_
  refine lv_aload_n hx hb dX1_mixedSettings_51 rfl (lv_at hl 1 rfl) ?_
  refine va_get (ci := 1) (v := .int (y5 x)) (C := RX1) (T := TX1) (N := 13) hx hb hts hiX1 hown hK.1 hP 0 rfl rfl 5 (by decide) f7 (fun _ h9 => h9) rfl dX1_mixedSettings_52 ?_
  refine lv_i2l (v := Int32.toInt64 (y5 x)) hx hb dX1_mixedSettings_55 rfl ?_
  refine m0_l (mv_SN (As := [.long r5, .long (Int32.toInt64 (y5 x))]) (rest := []) ⟨hx, hb, hml, hown, hts⟩ (kX2_mixed l D I O H.size r5 (Int32.toInt64 (y5 x)) _ hw) (va_cnB 2 hts gX1_mixedSettings_X2_mixed_n145 rfl rfl rfl hK.2.2.2.1 f1 hdSX2_mixed ⟨(Nat.le_of_ble_eq_true rfl), (Nat.le_of_ble_eq_true rfl)⟩) f2 hK (nil_P (D := D) (H := H)) (nil_D (A := va_A (welB I a x) sz)) rfl hl.1 rfl (Nat.le_of_ble_eq_true rfl) dX1_mixedSettings_56 ⟨(Nat.le_of_ble_eq_true rfl), (Nat.le_of_ble_eq_true rfl)⟩) hP hD hS hA (fun r6 _ H locs hw hP hD hS => ?_)
  refine lv_lstore_n (lv' := [(1, .long r6), (0, .ref a.1)]) hx hb dX1_mixedSettings_59 rfl hl (by decide) rfl (fun ls hl => ?_)
  refine lv_lload_n hx hb dX1_mixedSettings_60 rfl (lv_at hl 0 rfl) ?_
  refine lv_aload_n hx hb dX1_mixedSettings_61 rfl (lv_at hl 1 rfl) ?_
  refine va_get (ci := 1) (v := .int (y6 x)) (C := RX1) (T := TX1) (N := 13) hx hb hts hiX1 hown hK.1 hP 0 rfl rfl 6 (by decide) f8 (fun _ h9 => h9) rfl dX1_mixedSettings_62 ?_
  refine lv_i2l (v := Int32.toInt64 (y6 x)) hx hb dX1_mixedSettings_65 rfl ?_
  refine m0_l (mv_SN (As := [.long r6, .long (Int32.toInt64 (y6 x))]) (rest := []) ⟨hx, hb, hml, hown, hts⟩ (kX2_mixed l D I O H.size r6 (Int32.toInt64 (y6 x)) _ hw) (va_cnB 2 hts gX1_mixedSettings_X2_mixed_n145 rfl rfl rfl hK.2.2.2.1 f1 hdSX2_mixed ⟨(Nat.le_of_ble_eq_true rfl), (Nat.le_of_ble_eq_true rfl)⟩) f2 hK (nil_P (D := D) (H := H)) (nil_D (A := va_A (welB I a x) sz)) rfl hl.1 rfl (Nat.le_of_ble_eq_true rfl) dX1_mixedSettings_66 ⟨(Nat.le_of_ble_eq_true rfl), (Nat.le_of_ble_eq_true rfl)⟩) hP hD hS hA (fun r7 _ H locs hw hP hD hS => ?_)
  refine lv_lstore_n (lv' := [(1, .long r7), (0, .ref a.1)]) hx hb dX1_mixedSettings_69 rfl hl (by decide) rfl (fun ls hl => ?_)
  refine lv_lload_n hx hb dX1_mixedSettings_70 rfl (lv_at hl 0 rfl) ?_
  refine lv_aload_n hx hb dX1_mixedSettings_71 rfl (lv_at hl 1 rfl) ?_
  refine va_get (ci := 1) (v := .int (y7 x)) (C := RX1) (T := TX1) (N := 13) hx hb hts hiX1 hown hK.1 hP 0 rfl rfl 7 (by decide) f9 (fun _ h9 => h9) rfl dX1_mixedSettings_72 ?_
  refine lv_i2l (v := Int32.toInt64 (y7 x)) hx hb dX1_mixedSettings_75 rfl ?_
  refine m0_l (mv_SN (As := [.long r7, .long (Int32.toInt64 (y7 x))]) (rest := []) ⟨hx, hb, hml, hown, hts⟩ (kX2_mixed l D I O H.size r7 (Int32.toInt64 (y7 x)) _ hw) (va_cnB 2 hts gX1_mixedSettings_X2_mixed_n145 rfl rfl rfl hK.2.2.2.1 f1 hdSX2_mixed ⟨(Nat.le_of_ble_eq_true rfl), (Nat.le_of_ble_eq_true rfl)⟩) f2 hK (nil_P (D := D) (H := H)) (nil_D (A := va_A (welB I a x) sz)) rfl hl.1 rfl (Nat.le_of_ble_eq_true rfl) dX1_mixedSettings_76 ⟨(Nat.le_of_ble_eq_true rfl), (Nat.le_of_ble_eq_true rfl)⟩) hP hD hS hA (fun r8 _ H locs hw hP hD hS => ?_)
  exact m_lret (u := ()) hx hb hr hlocks hS hP hD dX1_mixedSettings_79 hw
def qX1_mixedReadings (x : Wel) (p1 : Int64) (Q : Int64 → Prop) : Prop := (qX1_pressureAtPipe x (fun r1 => (qX2_mixed p1 (Int32.toInt64 r1) (fun r2 => (qX1_pressureAtCasing x (fun r3 => (qX2_mixed r2 (Int32.toInt64 r3) (fun r4 => (qX1_pressureAtStandpipe x (fun r5 => (qX2_mixed r4 (Int32.toInt64 r5) (fun r6 => (qX1_pressureAtShoe x (fun r7 => (qX2_mixed r6 (Int32.toInt64 r7) (fun r8 => (qX2_mixed r8 (Int32.toInt64 (y8 x)) (fun r9 => (qX2_mixed r9 (Int32.toInt64 (y9 x)) (fun r10 => (qX2_mixed r10 (Int32.toInt64 (y10 x)) (fun r11 => Q r11))))))))))))))))))))))
set_option maxHeartbeats 4000000 in
set_option maxRecDepth 100000 in
theorem kX1_mixedReadings (l : Launch) (D : va_G) (I O : ClassId) (a : WA) (sz : Nat) (x : Wel) (p1 : Int64) (Q : Int64 → Prop) (hw : qX1_mixedReadings x p1 Q) : Met l yX1_mixedReadings wsX1_mixedReadings rX1_mixedReadings (mPc D I O [.ref a.1, .long p1] (welB I a x) sz) (va_Ql (fun r (_ : Unit) => Q r) (mB D (va_A (welB I a x) sz) (fun _ => welB I a x)) (va_A (welB I a x) sz)) 0 0 (va_A (welB I a x) sz) := by
  refine m_start (by decide) rfl (Nat.le_of_ble_eq_true rfl) (fun p e s m below meth c ls H locs hx hb hr hml hts hown hlocks hnm hK hP hD hA hS hl => ?_)
  have hown : s.vm.findClass RX1 = some m.cls := hown
  have hl : lv_has ls 3 [(0, .ref a.1), (1, .long p1)] := hl
  have hiX1 : ∀ w ∈ wsX10, w ∈ wsX1_mixedReadings := by decide +kernel
  have f0 := hts (.initialized RX2) (by decide +kernel)
  have f1 := hts (.static yX2_mixed) (by decide +kernel)
  have f2 := hts (.fieldLink RX1 65 "WellControl$Well" "gained" "I") (by decide +kernel)
  have f3 := hts (.fieldLink RX1 68 "WellControl$Well" "timesBroken" "I") (by decide +kernel)
  have f4 := hts (.fieldLink RX1 71 "WellControl$Well" "greatestAtShoe" "I") (by decide +kernel)
  unfold qX1_mixedReadings at hw
  refine lv_lload_n hx hb dX1_mixedReadings_0 rfl (lv_at hl 1 rfl) ?_
  refine lv_aload_n hx hb dX1_mixedReadings_1 rfl (lv_at hl 0 rfl) ?_
  refine mw_i (mv_V (As := []) (rest := [.long p1]) ⟨hx, hb, hml, hown, hts⟩ (kX1_pressureAtPipe l D I O a H.size x _ hw) (cwV 0 hts gX1_mixedReadings_X1_pressureAtPipe rfl rfl rfl hdVX1_pressureAtPipe ⟨(Nat.le_of_ble_eq_true rfl), (Nat.le_of_ble_eq_true rfl)⟩) hK hP hD 0 1 rfl rfl rfl rfl hl.1 rfl (Nat.le_of_ble_eq_true rfl) dX1_mixedReadings_2 ⟨(Nat.le_of_ble_eq_true rfl), (Nat.le_of_ble_eq_true rfl)⟩) hP hD hS hA (fun r1 _ H locs hw hP hD hS => ?_)
  have hP : va_P D vwCl (welB I a x) H := hP
  have hD : va_D (va_A (welB I a x) sz) (welB I a x) := hD
  refine lv_i2l (v := Int32.toInt64 r1) hx hb dX1_mixedReadings_5 rfl ?_
  refine m0_l (mv_SN (As := [.long p1, .long (Int32.toInt64 r1)]) (rest := []) ⟨hx, hb, hml, hown, hts⟩ (kX2_mixed l D I O H.size p1 (Int32.toInt64 r1) _ hw) (va_cnB 2 hts gX1_mixedReadings_X2_mixed_n145 rfl rfl rfl hK.2.2.2.1 f0 hdSX2_mixed ⟨(Nat.le_of_ble_eq_true rfl), (Nat.le_of_ble_eq_true rfl)⟩) f1 hK (nil_P (D := D) (H := H)) (nil_D (A := va_A (welB I a x) sz)) rfl hl.1 rfl (Nat.le_of_ble_eq_true rfl) dX1_mixedReadings_6 ⟨(Nat.le_of_ble_eq_true rfl), (Nat.le_of_ble_eq_true rfl)⟩) hP hD hS hA (fun r2 _ H locs hw hP hD hS => ?_)
  refine lv_lstore_n (lv' := [(1, .long r2), (0, .ref a.1)]) hx hb dX1_mixedReadings_9 rfl hl (by decide) rfl (fun ls hl => ?_)
  refine lv_lload_n hx hb dX1_mixedReadings_10 rfl (lv_at hl 0 rfl) ?_
  refine lv_aload_n hx hb dX1_mixedReadings_11 rfl (lv_at hl 1 rfl) ?_
  refine mw_i (mv_V (As := []) (rest := [.long r2]) ⟨hx, hb, hml, hown, hts⟩ (kX1_pressureAtCasing l D I O a H.size x _ hw) (cwV 0 hts gX1_mixedReadings_X1_pressureAtCasing rfl rfl rfl hdVX1_pressureAtCasing ⟨(Nat.le_of_ble_eq_true rfl), (Nat.le_of_ble_eq_true rfl)⟩) hK hP hD 0 1 rfl rfl rfl rfl hl.1 rfl (Nat.le_of_ble_eq_true rfl) dX1_mixedReadings_12 ⟨(Nat.le_of_ble_eq_true rfl), (Nat.le_of_ble_eq_true rfl)⟩) hP hD hS hA (fun r3 _ H locs hw hP hD hS => ?_)
  have hP : va_P D vwCl (welB I a x) H := hP
  have hD : va_D (va_A (welB I a x) sz) (welB I a x) := hD
  refine lv_i2l (v := Int32.toInt64 r3) hx hb dX1_mixedReadings_15 rfl ?_
  refine m0_l (mv_SN (As := [.long r2, .long (Int32.toInt64 r3)]) (rest := []) ⟨hx, hb, hml, hown, hts⟩ (kX2_mixed l D I O H.size r2 (Int32.toInt64 r3) _ hw) (va_cnB 2 hts gX1_mixedReadings_X2_mixed_n145 rfl rfl rfl hK.2.2.2.1 f0 hdSX2_mixed ⟨(Nat.le_of_ble_eq_true rfl), (Nat.le_of_ble_eq_true rfl)⟩) f1 hK (nil_P (D := D) (H := H)) (nil_D (A := va_A (welB I a x) sz)) rfl hl.1 rfl (Nat.le_of_ble_eq_true rfl) dX1_mixedReadings_16 ⟨(Nat.le_of_ble_eq_true rfl), (Nat.le_of_ble_eq_true rfl)⟩) hP hD hS hA (fun r4 _ H locs hw hP hD hS => ?_)
  refine lv_lstore_n (lv' := [(1, .long r4), (0, .ref a.1)]) hx hb dX1_mixedReadings_19 rfl hl (by decide) rfl (fun ls hl => ?_)
  refine lv_lload_n hx hb dX1_mixedReadings_20 rfl (lv_at hl 0 rfl) ?_
  refine lv_aload_n hx hb dX1_mixedReadings_21 rfl (lv_at hl 1 rfl) ?_
  refine mw_i (mv_V (As := []) (rest := [.long r4]) ⟨hx, hb, hml, hown, hts⟩ (kX1_pressureAtStandpipe l D I O a H.size x _ hw) (cwV 0 hts gX1_mixedReadings_X1_pressureAtStandpipe rfl rfl rfl hdVX1_pressureAtStandpipe ⟨(Nat.le_of_ble_eq_true rfl), (Nat.le_of_ble_eq_true rfl)⟩) hK hP hD 0 1 rfl rfl rfl rfl hl.1 rfl (Nat.le_of_ble_eq_true rfl) dX1_mixedReadings_22 ⟨(Nat.le_of_ble_eq_true rfl), (Nat.le_of_ble_eq_true rfl)⟩) hP hD hS hA (fun r5 _ H locs hw hP hD hS => ?_)
  have hP : va_P D vwCl (welB I a x) H := hP
  have hD : va_D (va_A (welB I a x) sz) (welB I a x) := hD
  refine lv_i2l (v := Int32.toInt64 r5) hx hb dX1_mixedReadings_25 rfl ?_
  refine m0_l (mv_SN (As := [.long r4, .long (Int32.toInt64 r5)]) (rest := []) ⟨hx, hb, hml, hown, hts⟩ (kX2_mixed l D I O H.size r4 (Int32.toInt64 r5) _ hw) (va_cnB 2 hts gX1_mixedReadings_X2_mixed_n145 rfl rfl rfl hK.2.2.2.1 f0 hdSX2_mixed ⟨(Nat.le_of_ble_eq_true rfl), (Nat.le_of_ble_eq_true rfl)⟩) f1 hK (nil_P (D := D) (H := H)) (nil_D (A := va_A (welB I a x) sz)) rfl hl.1 rfl (Nat.le_of_ble_eq_true rfl) dX1_mixedReadings_26 ⟨(Nat.le_of_ble_eq_true rfl), (Nat.le_of_ble_eq_true rfl)⟩) hP hD hS hA (fun r6 _ H locs hw hP hD hS => ?_)
  refine lv_lstore_n (lv' := [(1, .long r6), (0, .ref a.1)]) hx hb dX1_mixedReadings_29 rfl hl (by decide) rfl (fun ls hl => ?_)
  refine lv_lload_n hx hb dX1_mixedReadings_30 rfl (lv_at hl 0 rfl) ?_
  refine lv_aload_n hx hb dX1_mixedReadings_31 rfl (lv_at hl 1 rfl) ?_
  refine mw_i (mv_V (As := []) (rest := [.long r6]) ⟨hx, hb, hml, hown, hts⟩ (kX1_pressureAtShoe l D I O a H.size x _ hw) (cwV 0 hts gX1_mixedReadings_X1_pressureAtShoe rfl rfl rfl hdVX1_pressureAtShoe ⟨(Nat.le_of_ble_eq_true rfl), (Nat.le_of_ble_eq_true rfl)⟩) hK hP hD 0 1 rfl rfl rfl rfl hl.1 rfl (Nat.le_of_ble_eq_true rfl) dX1_mixedReadings_32 ⟨(Nat.le_of_ble_eq_true rfl), (Nat.le_of_ble_eq_true rfl)⟩) hP hD hS hA (fun r7 _ H locs hw hP hD hS => ?_)
  have hP : va_P D vwCl (welB I a x) H := hP
  have hD : va_D (va_A (welB I a x) sz) (welB I a x) := hD
  refine lv_i2l (v := Int32.toInt64 r7) hx hb dX1_mixedReadings_35 rfl ?_
  refine m0_l (mv_SN (As := [.long r6, .long (Int32.toInt64 r7)]) (rest := []) ⟨hx, hb, hml, hown, hts⟩ (kX2_mixed l D I O H.size r6 (Int32.toInt64 r7) _ hw) (va_cnB 2 hts gX1_mixedReadings_X2_mixed_n145 rfl rfl rfl hK.2.2.2.1 f0 hdSX2_mixed ⟨(Nat.le_of_ble_eq_true rfl), (Nat.le_of_ble_eq_true rfl)⟩) f1 hK (nil_P (D := D) (H := H)) (nil_D (A := va_A (welB I a x) sz)) rfl hl.1 rfl (Nat.le_of_ble_eq_true rfl) dX1_mixedReadings_36 ⟨(Nat.le_of_ble_eq_true rfl), (Nat.le_of_ble_eq_true rfl)⟩) hP hD hS hA (fun r8 _ H locs hw hP hD hS => ?_)
  refine lv_lstore_n (lv' := [(1, .long r8), (0, .ref a.1)]) hx hb dX1_mixedReadings_39 rfl hl (by decide) rfl (fun ls hl => ?_)
  refine lv_lload_n hx hb dX1_mixedReadings_40 rfl (lv_at hl 0 rfl) ?_
  refine lv_aload_n hx hb dX1_mixedReadings_41 rfl (lv_at hl 1 rfl) ?_
  refine va_get (ci := 1) (v := .int (y8 x)) (C := RX1) (T := TX1) (N := 13) hx hb hts hiX1 hown hK.1 hP 0 rfl rfl 8 (by decide) f2 (fun _ h9 => h9) rfl dX1_mixedReadings_42 ?_
  refine lv_i2l (v := Int32.toInt64 (y8 x)) hx hb dX1_mixedReadings_45 rfl ?_
  refine m0_l (mv_SN (As := [.long r8, .long (Int32.toInt64 (y8 x))]) (rest := []) ⟨hx, hb, hml, hown, hts⟩ (kX2_mixed l D I O H.size r8 (Int32.toInt64 (y8 x)) _ hw) (va_cnB 2 hts gX1_mixedReadings_X2_mixed_n145 rfl rfl rfl hK.2.2.2.1 f0 hdSX2_mixed ⟨(Nat.le_of_ble_eq_true rfl), (Nat.le_of_ble_eq_true rfl)⟩) f1 hK (nil_P (D := D) (H := H)) (nil_D (A := va_A (welB I a x) sz)) rfl hl.1 rfl (Nat.le_of_ble_eq_true rfl) dX1_mixedReadings_46 ⟨(Nat.le_of_ble_eq_true rfl), (Nat.le_of_ble_eq_true rfl)⟩) hP hD hS hA (fun r9 _ H locs hw hP hD hS => ?_)
  refine lv_lstore_n (lv' := [(1, .long r9), (0, .ref a.1)]) hx hb dX1_mixedReadings_49 rfl hl (by decide) rfl (fun ls hl => ?_)
  refine lv_lload_n hx hb dX1_mixedReadings_50 rfl (lv_at hl 0 rfl) ?_
  refine lv_aload_n hx hb dX1_mixedReadings_51 rfl (lv_at hl 1 rfl) ?_
  refine va_get (ci := 1) (v := .int (y9 x)) (C := RX1) (T := TX1) (N := 13) hx hb hts hiX1 hown hK.1 hP 0 rfl rfl 9 (by decide) f3 (fun _ h9 => h9) rfl dX1_mixedReadings_52 ?_
  refine lv_i2l (v := Int32.toInt64 (y9 x)) hx hb dX1_mixedReadings_55 rfl ?_
  refine m0_l (mv_SN (As := [.long r9, .long (Int32.toInt64 (y9 x))]) (rest := []) ⟨hx, hb, hml, hown, hts⟩ (kX2_mixed l D I O H.size r9 (Int32.toInt64 (y9 x)) _ hw) (va_cnB 2 hts gX1_mixedReadings_X2_mixed_n145 rfl rfl rfl hK.2.2.2.1 f0 hdSX2_mixed ⟨(Nat.le_of_ble_eq_true rfl), (Nat.le_of_ble_eq_true rfl)⟩) f1 hK (nil_P (D := D) (H := H)) (nil_D (A := va_A (welB I a x) sz)) rfl hl.1 rfl (Nat.le_of_ble_eq_true rfl) dX1_mixedReadings_56 ⟨(Nat.le_of_ble_eq_true rfl), (Nat.le_of_ble_eq_true rfl)⟩) hP hD hS hA (fun r10 _ H locs hw hP hD hS => ?_)
  refine lv_lstore_n (lv' := [(1, .long r10), (0, .ref a.1)]) hx hb dX1_mixedReadings_59 rfl hl (by decide) rfl (fun ls hl => ?_)
  refine lv_lload_n hx hb dX1_mixedReadings_60 rfl (lv_at hl 0 rfl) ?_
  refine lv_aload_n hx hb dX1_mixedReadings_61 rfl (lv_at hl 1 rfl) ?_
  refine va_get (ci := 1) (v := .int (y10 x)) (C := RX1) (T := TX1) (N := 13) hx hb hts hiX1 hown hK.1 hP 0 rfl rfl 10 (by decide) f4 (fun _ h9 => h9) rfl dX1_mixedReadings_62 ?_
  refine lv_i2l (v := Int32.toInt64 (y10 x)) hx hb dX1_mixedReadings_65 rfl ?_
  refine m0_l (mv_SN (As := [.long r10, .long (Int32.toInt64 (y10 x))]) (rest := []) ⟨hx, hb, hml, hown, hts⟩ (kX2_mixed l D I O H.size r10 (Int32.toInt64 (y10 x)) _ hw) (va_cnB 2 hts gX1_mixedReadings_X2_mixed_n145 rfl rfl rfl hK.2.2.2.1 f0 hdSX2_mixed ⟨(Nat.le_of_ble_eq_true rfl), (Nat.le_of_ble_eq_true rfl)⟩) f1 hK (nil_P (D := D) (H := H)) (nil_D (A := va_A (welB I a x) sz)) rfl hl.1 rfl (Nat.le_of_ble_eq_true rfl) dX1_mixedReadings_66 ⟨(Nat.le_of_ble_eq_true rfl), (Nat.le_of_ble_eq_true rfl)⟩) hP hD hS hA (fun r11 _ H locs hw hP hD hS => ?_)
  exact m_lret (u := ()) hx hb hr hlocks hS hP hD dX1_mixedReadings_69 hw
def qX1_copyFrom (z : Wel) (x : Wel) (Q : Wel → Prop) : Prop := (qX0_copyFrom (yP z) (yP x) (fun u1 => (qX0_copyFrom (yA z) (yA x) (fun u2 => Q (y0 z, y1 z, y2 z, y3 z, y4 z, y5 z, y6 z, y7 z, y8 z, y9 z, y10 z, u1, u2)))))
set_option maxHeartbeats 4000000 in
set_option maxRecDepth 100000 in
theorem kX1_copyFrom (l : Launch) (D : va_G) (I O : ClassId) (b : WA) (a : WA) (sz : Nat) (z : Wel) (x : Wel) (Q : Wel → Prop) (hw : qX1_copyFrom z x Q) : Met l yX1_copyFrom wsX1_copyFrom rX1_copyFrom (mPc D I O [.ref a.1, .ref b.1] (welB I b z ++ welB I a x) sz) (va_Qv (fun (u : Wel) => Q u) (mB D (va_A (welB I b z ++ welB I a x) sz) (fun u => welB I b z ++ welB I a u)) (va_A (welB I b z ++ welB I a x) sz)) 0 0 (va_A (welB I b z ++ welB I a x) sz) := by
  refine m_start (by decide) rfl (Nat.le_of_ble_eq_true rfl) (fun p e s m below meth c ls H locs hx hb hr hml hts hown hlocks hnm hK hP hD hA hS hl => ?_)
  have hown : s.vm.findClass RX1 = some m.cls := hown
  have hl : lv_has ls 2 [(0, .ref a.1), (1, .ref b.1)] := hl
  have hiX1 : ∀ w ∈ wsX10, w ∈ wsX1_copyFrom := by decide +kernel
  have f0 := hts (.fieldLink RX1 9 "WellControl$Well" "depth" "I") (by decide +kernel)
  have f1 := hts (.fieldLink RX1 15 "WellControl$Well" "pipeCapacity" "I") (by decide +kernel)
  have f2 := hts (.fieldLink RX1 18 "WellControl$Well" "annulusCapacity" "I") (by decide +kernel)
  have f3 := hts (.fieldLink RX1 21 "WellControl$Well" "shoe" "I") (by decide +kernel)
  have f4 := hts (.fieldLink RX1 24 "WellControl$Well" "mud" "I") (by decide +kernel)
  have f5 := hts (.fieldLink RX1 27 "WellControl$Well" "formation" "I") (by decide +kernel)
  have f6 := hts (.fieldLink RX1 30 "WellControl$Well" "slowPump" "I") (by decide +kernel)
  have f7 := hts (.fieldLink RX1 33 "WellControl$Well" "fracture" "I") (by decide +kernel)
  have f8 := hts (.fieldLink RX1 65 "WellControl$Well" "gained" "I") (by decide +kernel)
  have f9 := hts (.fieldLink RX1 68 "WellControl$Well" "timesBroken" "I") (by decide +kernel)
  have f10 := hts (.fieldLink RX1 71 "WellControl$Well" "greatestAtShoe" "I") (by decide +kernel)
  have f11 := hts (.fieldLink RX1 41 "WellControl$Well" "pipe" "LWellControl$Column;") (by decide +kernel)
  have f12 := hts (.fieldLink RX1 45 "WellControl$Well" "annulus" "LWellControl$Column;") (by decide +kernel)
  unfold qX1_copyFrom at hw
  refine lv_aload_n hx hb dX1_copyFrom_0 rfl (lv_at hl 0 rfl) ?_
  refine lv_aload_n hx hb dX1_copyFrom_1 rfl (lv_at hl 1 rfl) ?_
  refine va_get (ci := 1) (v := .int (y0 z)) (C := RX1) (T := TX1) (N := 13) hx hb hts hiX1 hown hK.1 hP 0 rfl rfl 0 (by decide) f0 (fun _ h9 => h9) rfl dX1_copyFrom_2 ?_
  refine va_put (ci := 1) (v := .int (y0 z)) (ty := .int) (C := RX1) (T := TX1) (N := 13) hx hb hts hiX1 tyX1 tyX1_ok nmX1 hown hK.1 hP hD hS 7 rfl rfl 0 (by decide) f0 (fun _ h9 => h9) rfl (by decide +kernel) rfl rfl (Nat.le_of_ble_eq_true rfl) dX1_copyFrom_5 (fun H locs hP hD hS => ?_)
  have hP : va_P D vwCl (welB I b z ++ welB I a (y0 z, y1 x, y2 x, y3 x, y4 x, y5 x, y6 x, y7 x, y8 x, y9 x, y10 x, yP x, yA x)) H := hP
  have hD : va_D (va_A (welB I b z ++ welB I a x) sz) (welB I b z ++ welB I a (y0 z, y1 x, y2 x, y3 x, y4 x, y5 x, y6 x, y7 x, y8 x, y9 x, y10 x, yP x, yA x)) := hD
  refine lv_aload_n hx hb dX1_copyFrom_8 rfl (lv_at hl 0 rfl) ?_
  refine lv_aload_n hx hb dX1_copyFrom_9 rfl (lv_at hl 1 rfl) ?_
  refine va_get (ci := 1) (v := .int (y1 z)) (C := RX1) (T := TX1) (N := 13) hx hb hts hiX1 hown hK.1 hP 0 rfl rfl 1 (by decide) f1 (fun _ h9 => h9) rfl dX1_copyFrom_10 ?_
  refine va_put (ci := 1) (v := .int (y1 z)) (ty := .int) (C := RX1) (T := TX1) (N := 13) hx hb hts hiX1 tyX1 tyX1_ok nmX1 hown hK.1 hP hD hS 7 rfl rfl 1 (by decide) f1 (fun _ h9 => h9) rfl (by decide +kernel) rfl rfl (Nat.le_of_ble_eq_true rfl) dX1_copyFrom_13 (fun H locs hP hD hS => ?_)
  have hP : va_P D vwCl (welB I b z ++ welB I a (y0 z, y1 z, y2 x, y3 x, y4 x, y5 x, y6 x, y7 x, y8 x, y9 x, y10 x, yP x, yA x)) H := hP
  have hD : va_D (va_A (welB I b z ++ welB I a x) sz) (welB I b z ++ welB I a (y0 z, y1 z, y2 x, y3 x, y4 x, y5 x, y6 x, y7 x, y8 x, y9 x, y10 x, yP x, yA x)) := hD
  refine lv_aload_n hx hb dX1_copyFrom_16 rfl (lv_at hl 0 rfl) ?_
  refine lv_aload_n hx hb dX1_copyFrom_17 rfl (lv_at hl 1 rfl) ?_
  refine va_get (ci := 1) (v := .int (y2 z)) (C := RX1) (T := TX1) (N := 13) hx hb hts hiX1 hown hK.1 hP 0 rfl rfl 2 (by decide) f2 (fun _ h9 => h9) rfl dX1_copyFrom_18 ?_
  refine va_put (ci := 1) (v := .int (y2 z)) (ty := .int) (C := RX1) (T := TX1) (N := 13) hx hb hts hiX1 tyX1 tyX1_ok nmX1 hown hK.1 hP hD hS 7 rfl rfl 2 (by decide) f2 (fun _ h9 => h9) rfl (by decide +kernel) rfl rfl (Nat.le_of_ble_eq_true rfl) dX1_copyFrom_21 (fun H locs hP hD hS => ?_)
  have hP : va_P D vwCl (welB I b z ++ welB I a (y0 z, y1 z, y2 z, y3 x, y4 x, y5 x, y6 x, y7 x, y8 x, y9 x, y10 x, yP x, yA x)) H := hP
  have hD : va_D (va_A (welB I b z ++ welB I a x) sz) (welB I b z ++ welB I a (y0 z, y1 z, y2 z, y3 x, y4 x, y5 x, y6 x, y7 x, y8 x, y9 x, y10 x, yP x, yA x)) := hD
  refine lv_aload_n hx hb dX1_copyFrom_24 rfl (lv_at hl 0 rfl) ?_
  refine lv_aload_n hx hb dX1_copyFrom_25 rfl (lv_at hl 1 rfl) ?_
  refine va_get (ci := 1) (v := .int (y3 z)) (C := RX1) (T := TX1) (N := 13) hx hb hts hiX1 hown hK.1 hP 0 rfl rfl 3 (by decide) f3 (fun _ h9 => h9) rfl dX1_copyFrom_26 ?_
  refine va_put (ci := 1) (v := .int (y3 z)) (ty := .int) (C := RX1) (T := TX1) (N := 13) hx hb hts hiX1 tyX1 tyX1_ok nmX1 hown hK.1 hP hD hS 7 rfl rfl 3 (by decide) f3 (fun _ h9 => h9) rfl (by decide +kernel) rfl rfl (Nat.le_of_ble_eq_true rfl) dX1_copyFrom_29 (fun H locs hP hD hS => ?_)
  have hP : va_P D vwCl (welB I b z ++ welB I a (y0 z, y1 z, y2 z, y3 z, y4 x, y5 x, y6 x, y7 x, y8 x, y9 x, y10 x, yP x, yA x)) H := hP
  have hD : va_D (va_A (welB I b z ++ welB I a x) sz) (welB I b z ++ welB I a (y0 z, y1 z, y2 z, y3 z, y4 x, y5 x, y6 x, y7 x, y8 x, y9 x, y10 x, yP x, yA x)) := hD
  refine lv_aload_n hx hb dX1_copyFrom_32 rfl (lv_at hl 0 rfl) ?_
  refine lv_aload_n hx hb dX1_copyFrom_33 rfl (lv_at hl 1 rfl) ?_
  refine va_get (ci := 1) (v := .int (y4 z)) (C := RX1) (T := TX1) (N := 13) hx hb hts hiX1 hown hK.1 hP 0 rfl rfl 4 (by decide) f4 (fun _ h9 => h9) rfl dX1_copyFrom_34 ?_
  refine va_put (ci := 1) (v := .int (y4 z)) (ty := .int) (C := RX1) (T := TX1) (N := 13) hx hb hts hiX1 tyX1 tyX1_ok nmX1 hown hK.1 hP hD hS 7 rfl rfl 4 (by decide) f4 (fun _ h9 => h9) rfl (by decide +kernel) rfl rfl (Nat.le_of_ble_eq_true rfl) dX1_copyFrom_37 (fun H locs hP hD hS => ?_)
  have hP : va_P D vwCl (welB I b z ++ welB I a (y0 z, y1 z, y2 z, y3 z, y4 z, y5 x, y6 x, y7 x, y8 x, y9 x, y10 x, yP x, yA x)) H := hP
  have hD : va_D (va_A (welB I b z ++ welB I a x) sz) (welB I b z ++ welB I a (y0 z, y1 z, y2 z, y3 z, y4 z, y5 x, y6 x, y7 x, y8 x, y9 x, y10 x, yP x, yA x)) := hD
  refine lv_aload_n hx hb dX1_copyFrom_40 rfl (lv_at hl 0 rfl) ?_
  refine lv_aload_n hx hb dX1_copyFrom_41 rfl (lv_at hl 1 rfl) ?_
  refine va_get (ci := 1) (v := .int (y5 z)) (C := RX1) (T := TX1) (N := 13) hx hb hts hiX1 hown hK.1 hP 0 rfl rfl 5 (by decide) f5 (fun _ h9 => h9) rfl dX1_copyFrom_42 ?_
  refine va_put (ci := 1) (v := .int (y5 z)) (ty := .int) (C := RX1) (T := TX1) (N := 13) hx hb hts hiX1 tyX1 tyX1_ok nmX1 hown hK.1 hP hD hS 7 rfl rfl 5 (by decide) f5 (fun _ h9 => h9) rfl (by decide +kernel) rfl rfl (Nat.le_of_ble_eq_true rfl) dX1_copyFrom_45 (fun H locs hP hD hS => ?_)
  have hP : va_P D vwCl (welB I b z ++ welB I a (y0 z, y1 z, y2 z, y3 z, y4 z, y5 z, y6 x, y7 x, y8 x, y9 x, y10 x, yP x, yA x)) H := hP
  have hD : va_D (va_A (welB I b z ++ welB I a x) sz) (welB I b z ++ welB I a (y0 z, y1 z, y2 z, y3 z, y4 z, y5 z, y6 x, y7 x, y8 x, y9 x, y10 x, yP x, yA x)) := hD
  refine lv_aload_n hx hb dX1_copyFrom_48 rfl (lv_at hl 0 rfl) ?_
  refine lv_aload_n hx hb dX1_copyFrom_49 rfl (lv_at hl 1 rfl) ?_
  refine va_get (ci := 1) (v := .int (y6 z)) (C := RX1) (T := TX1) (N := 13) hx hb hts hiX1 hown hK.1 hP 0 rfl rfl 6 (by decide) f6 (fun _ h9 => h9) rfl dX1_copyFrom_50 ?_
  refine va_put (ci := 1) (v := .int (y6 z)) (ty := .int) (C := RX1) (T := TX1) (N := 13) hx hb hts hiX1 tyX1 tyX1_ok nmX1 hown hK.1 hP hD hS 7 rfl rfl 6 (by decide) f6 (fun _ h9 => h9) rfl (by decide +kernel) rfl rfl (Nat.le_of_ble_eq_true rfl) dX1_copyFrom_53 (fun H locs hP hD hS => ?_)
  have hP : va_P D vwCl (welB I b z ++ welB I a (y0 z, y1 z, y2 z, y3 z, y4 z, y5 z, y6 z, y7 x, y8 x, y9 x, y10 x, yP x, yA x)) H := hP
  have hD : va_D (va_A (welB I b z ++ welB I a x) sz) (welB I b z ++ welB I a (y0 z, y1 z, y2 z, y3 z, y4 z, y5 z, y6 z, y7 x, y8 x, y9 x, y10 x, yP x, yA x)) := hD
  refine lv_aload_n hx hb dX1_copyFrom_56 rfl (lv_at hl 0 rfl) ?_
  refine lv_aload_n hx hb dX1_copyFrom_57 rfl (lv_at hl 1 rfl) ?_
  refine va_get (ci := 1) (v := .int (y7 z)) (C := RX1) (T := TX1) (N := 13) hx hb hts hiX1 hown hK.1 hP 0 rfl rfl 7 (by decide) f7 (fun _ h9 => h9) rfl dX1_copyFrom_58 ?_
  refine va_put (ci := 1) (v := .int (y7 z)) (ty := .int) (C := RX1) (T := TX1) (N := 13) hx hb hts hiX1 tyX1 tyX1_ok nmX1 hown hK.1 hP hD hS 7 rfl rfl 7 (by decide) f7 (fun _ h9 => h9) rfl (by decide +kernel) rfl rfl (Nat.le_of_ble_eq_true rfl) dX1_copyFrom_61 (fun H locs hP hD hS => ?_)
  have hP : va_P D vwCl (welB I b z ++ welB I a (y0 z, y1 z, y2 z, y3 z, y4 z, y5 z, y6 z, y7 z, y8 x, y9 x, y10 x, yP x, yA x)) H := hP
  have hD : va_D (va_A (welB I b z ++ welB I a x) sz) (welB I b z ++ welB I a (y0 z, y1 z, y2 z, y3 z, y4 z, y5 z, y6 z, y7 z, y8 x, y9 x, y10 x, yP x, yA x)) := hD
  refine lv_aload_n hx hb dX1_copyFrom_64 rfl (lv_at hl 0 rfl) ?_
  refine lv_aload_n hx hb dX1_copyFrom_65 rfl (lv_at hl 1 rfl) ?_
  refine va_get (ci := 1) (v := .int (y8 z)) (C := RX1) (T := TX1) (N := 13) hx hb hts hiX1 hown hK.1 hP 0 rfl rfl 8 (by decide) f8 (fun _ h9 => h9) rfl dX1_copyFrom_66 ?_
  refine va_put (ci := 1) (v := .int (y8 z)) (ty := .int) (C := RX1) (T := TX1) (N := 13) hx hb hts hiX1 tyX1 tyX1_ok nmX1 hown hK.1 hP hD hS 7 rfl rfl 8 (by decide) f8 (fun _ h9 => h9) rfl (by decide +kernel) rfl rfl (Nat.le_of_ble_eq_true rfl) dX1_copyFrom_69 (fun H locs hP hD hS => ?_)
  have hP : va_P D vwCl (welB I b z ++ welB I a (y0 z, y1 z, y2 z, y3 z, y4 z, y5 z, y6 z, y7 z, y8 z, y9 x, y10 x, yP x, yA x)) H := hP
  have hD : va_D (va_A (welB I b z ++ welB I a x) sz) (welB I b z ++ welB I a (y0 z, y1 z, y2 z, y3 z, y4 z, y5 z, y6 z, y7 z, y8 z, y9 x, y10 x, yP x, yA x)) := hD
  refine lv_aload_n hx hb dX1_copyFrom_72 rfl (lv_at hl 0 rfl) ?_
  refine lv_aload_n hx hb dX1_copyFrom_73 rfl (lv_at hl 1 rfl) ?_
  refine va_get (ci := 1) (v := .int (y9 z)) (C := RX1) (T := TX1) (N := 13) hx hb hts hiX1 hown hK.1 hP 0 rfl rfl 9 (by decide) f9 (fun _ h9 => h9) rfl dX1_copyFrom_74 ?_
  refine va_put (ci := 1) (v := .int (y9 z)) (ty := .int) (C := RX1) (T := TX1) (N := 13) hx hb hts hiX1 tyX1 tyX1_ok nmX1 hown hK.1 hP hD hS 7 rfl rfl 9 (by decide) f9 (fun _ h9 => h9) rfl (by decide +kernel) rfl rfl (Nat.le_of_ble_eq_true rfl) dX1_copyFrom_77 (fun H locs hP hD hS => ?_)
  have hP : va_P D vwCl (welB I b z ++ welB I a (y0 z, y1 z, y2 z, y3 z, y4 z, y5 z, y6 z, y7 z, y8 z, y9 z, y10 x, yP x, yA x)) H := hP
  have hD : va_D (va_A (welB I b z ++ welB I a x) sz) (welB I b z ++ welB I a (y0 z, y1 z, y2 z, y3 z, y4 z, y5 z, y6 z, y7 z, y8 z, y9 z, y10 x, yP x, yA x)) := hD
  refine lv_aload_n hx hb dX1_copyFrom_80 rfl (lv_at hl 0 rfl) ?_
  refine lv_aload_n hx hb dX1_copyFrom_81 rfl (lv_at hl 1 rfl) ?_
  refine va_get (ci := 1) (v := .int (y10 z)) (C := RX1) (T := TX1) (N := 13) hx hb hts hiX1 hown hK.1 hP 0 rfl rfl 10 (by decide) f10 (fun _ h9 => h9) rfl dX1_copyFrom_82 ?_
  refine va_put (ci := 1) (v := .int (y10 z)) (ty := .int) (C := RX1) (T := TX1) (N := 13) hx hb hts hiX1 tyX1 tyX1_ok nmX1 hown hK.1 hP hD hS 7 rfl rfl 10 (by decide) f10 (fun _ h9 => h9) rfl (by decide +kernel) rfl rfl (Nat.le_of_ble_eq_true rfl) dX1_copyFrom_85 (fun H locs hP hD hS => ?_)
  have hP : va_P D vwCl (welB I b z ++ welB I a (y0 z, y1 z, y2 z, y3 z, y4 z, y5 z, y6 z, y7 z, y8 z, y9 z, y10 z, yP x, yA x)) H := hP
  have hD : va_D (va_A (welB I b z ++ welB I a x) sz) (welB I b z ++ welB I a (y0 z, y1 z, y2 z, y3 z, y4 z, y5 z, y6 z, y7 z, y8 z, y9 z, y10 z, yP x, yA x)) := hD
  refine lv_aload_n hx hb dX1_copyFrom_88 rfl (lv_at hl 0 rfl) ?_
  refine va_get (ci := 1) (v := .ref a.2.1.1) (C := RX1) (T := TX1) (N := 13) hx hb hts hiX1 hown hK.1 hP 7 rfl rfl 11 (by decide) f11 (fun _ h9 => h9) rfl dX1_copyFrom_89 ?_
  refine lv_aload_n hx hb dX1_copyFrom_92 rfl (lv_at hl 1 rfl) ?_
  refine va_get (ci := 1) (v := .ref b.2.1.1) (C := RX1) (T := TX1) (N := 13) hx hb hts hiX1 hown hK.1 hP 0 rfl rfl 11 (by decide) f11 (fun _ h9 => h9) rfl dX1_copyFrom_93 ?_
  have hP := hP.sub (ws' := (colB I b.2.1 (yP z) ++ colB I a.2.1 (yP x)) ++ (welO b z :: (colB I b.2.2 (yA z) ++ (welO a (y0 z, y1 z, y2 z, y3 z, y4 z, y5 z, y6 z, y7 z, y8 z, y9 z, y10 z, yP x, yA x) :: colB I a.2.2 (yA x))))) [1, 2, 3, 8, 9, 10, 0, 4, 5, 6, 7, 11, 12, 13] rfl
  have hD := hD.sub (ws' := (colB I b.2.1 (yP z) ++ colB I a.2.1 (yP x)) ++ (welO b z :: (colB I b.2.2 (yA z) ++ (welO a (y0 z, y1 z, y2 z, y3 z, y4 z, y5 z, y6 z, y7 z, y8 z, y9 z, y10 z, yP x, yA x) :: colB I a.2.2 (yA x))))) [1, 2, 3, 8, 9, 10, 0, 4, 5, 6, 7, 11, 12, 13] (by decide) rfl
  have hPc := va_P.mid (X := []) (wc := colB I b.2.1 (yP z) ++ colB I a.2.1 (yP x)) (Y := welO b z :: (colB I b.2.2 (yA z) ++ (welO a (y0 z, y1 z, y2 z, y3 z, y4 z, y5 z, y6 z, y7 z, y8 z, y9 z, y10 z, yP x, yA x) :: colB I a.2.2 (yA x)))) hP
  have hDc := va_D.mid (X := []) (wc := colB I b.2.1 (yP z) ++ colB I a.2.1 (yP x)) (Y := welO b z :: (colB I b.2.2 (yA z) ++ (welO a (y0 z, y1 z, y2 z, y3 z, y4 z, y5 z, y6 z, y7 z, y8 z, y9 z, y10 z, yP x, yA x) :: colB I a.2.2 (yA x)))) hD
  refine mc_v ([]) (welO b z :: (colB I b.2.2 (yA z) ++ (welO a (y0 z, y1 z, y2 z, y3 z, y4 z, y5 z, y6 z, y7 z, y8 z, y9 z, y10 z, yP x, yA x) :: colB I a.2.2 (yA x)))) (mv_V (As := [.ref b.2.1.1]) (rest := []) ⟨hx, hb, hml, hown, hts⟩ (kX0_copyFrom l D I O b.2.1 a.2.1 H.size (yP z) (yP x) _ hw) (cwV 1 hts gX1_copyFrom_X0_copyFrom rfl rfl rfl hdVX0_copyFrom ⟨(Nat.le_of_ble_eq_true rfl), (Nat.le_of_ble_eq_true rfl)⟩) hK hPc hDc 3 0 rfl rfl rfl rfl hl.1 rfl (Nat.le_of_ble_eq_true rfl) dX1_copyFrom_96 ⟨(Nat.le_of_ble_eq_true rfl), (Nat.le_of_ble_eq_true rfl)⟩) hP hD hS hA (fun u1 H locs hw hP hD hS => ?_)
  have hP := hP.sub (ws' := welB I b z ++ welB I a (y0 z, y1 z, y2 z, y3 z, y4 z, y5 z, y6 z, y7 z, y8 z, y9 z, y10 z, u1, yA x)) [6, 0, 1, 2, 7, 8, 9, 10, 3, 4, 5, 11, 12, 13] rfl
  have hD := hD.sub (ws' := welB I b z ++ welB I a (y0 z, y1 z, y2 z, y3 z, y4 z, y5 z, y6 z, y7 z, y8 z, y9 z, y10 z, u1, yA x)) [6, 0, 1, 2, 7, 8, 9, 10, 3, 4, 5, 11, 12, 13] (by decide) rfl
  have hP : va_P D vwCl (welB I b z ++ welB I a (y0 z, y1 z, y2 z, y3 z, y4 z, y5 z, y6 z, y7 z, y8 z, y9 z, y10 z, u1, yA x)) H := hP
  have hD : va_D (va_A (welB I b z ++ welB I a x) sz) (welB I b z ++ welB I a (y0 z, y1 z, y2 z, y3 z, y4 z, y5 z, y6 z, y7 z, y8 z, y9 z, y10 z, u1, yA x)) := hD
  refine lv_aload_n hx hb dX1_copyFrom_99 rfl (lv_at hl 0 rfl) ?_
  refine va_get (ci := 1) (v := .ref a.2.2.1) (C := RX1) (T := TX1) (N := 13) hx hb hts hiX1 hown hK.1 hP 7 rfl rfl 12 (by decide) f12 (fun _ h9 => h9) rfl dX1_copyFrom_100 ?_
  refine lv_aload_n hx hb dX1_copyFrom_103 rfl (lv_at hl 1 rfl) ?_
  refine va_get (ci := 1) (v := .ref b.2.2.1) (C := RX1) (T := TX1) (N := 13) hx hb hts hiX1 hown hK.1 hP 0 rfl rfl 12 (by decide) f12 (fun _ h9 => h9) rfl dX1_copyFrom_104 ?_
  have hP := hP.sub (ws' := (colB I b.2.2 (yA z) ++ colB I a.2.2 (yA x)) ++ (welO b z :: (colB I b.2.1 (yP z) ++ (welO a (y0 z, y1 z, y2 z, y3 z, y4 z, y5 z, y6 z, y7 z, y8 z, y9 z, y10 z, u1, yA x) :: colB I a.2.1 u1)))) [4, 5, 6, 11, 12, 13, 0, 1, 2, 3, 7, 8, 9, 10] rfl
  have hD := hD.sub (ws' := (colB I b.2.2 (yA z) ++ colB I a.2.2 (yA x)) ++ (welO b z :: (colB I b.2.1 (yP z) ++ (welO a (y0 z, y1 z, y2 z, y3 z, y4 z, y5 z, y6 z, y7 z, y8 z, y9 z, y10 z, u1, yA x) :: colB I a.2.1 u1)))) [4, 5, 6, 11, 12, 13, 0, 1, 2, 3, 7, 8, 9, 10] (by decide) rfl
  have hPc := va_P.mid (X := []) (wc := colB I b.2.2 (yA z) ++ colB I a.2.2 (yA x)) (Y := welO b z :: (colB I b.2.1 (yP z) ++ (welO a (y0 z, y1 z, y2 z, y3 z, y4 z, y5 z, y6 z, y7 z, y8 z, y9 z, y10 z, u1, yA x) :: colB I a.2.1 u1))) hP
  have hDc := va_D.mid (X := []) (wc := colB I b.2.2 (yA z) ++ colB I a.2.2 (yA x)) (Y := welO b z :: (colB I b.2.1 (yP z) ++ (welO a (y0 z, y1 z, y2 z, y3 z, y4 z, y5 z, y6 z, y7 z, y8 z, y9 z, y10 z, u1, yA x) :: colB I a.2.1 u1))) hD
  refine mc_v ([]) (welO b z :: (colB I b.2.1 (yP z) ++ (welO a (y0 z, y1 z, y2 z, y3 z, y4 z, y5 z, y6 z, y7 z, y8 z, y9 z, y10 z, u1, yA x) :: colB I a.2.1 u1))) (mv_V (As := [.ref b.2.2.1]) (rest := []) ⟨hx, hb, hml, hown, hts⟩ (kX0_copyFrom l D I O b.2.2 a.2.2 H.size (yA z) (yA x) _ hw) (cwV 1 hts gX1_copyFrom_X0_copyFrom rfl rfl rfl hdVX0_copyFrom ⟨(Nat.le_of_ble_eq_true rfl), (Nat.le_of_ble_eq_true rfl)⟩) hK hPc hDc 3 0 rfl rfl rfl rfl hl.1 rfl (Nat.le_of_ble_eq_true rfl) dX1_copyFrom_107 ⟨(Nat.le_of_ble_eq_true rfl), (Nat.le_of_ble_eq_true rfl)⟩) hP hD hS hA (fun u2 H locs hw hP hD hS => ?_)
  have hP := hP.sub (ws' := welB I b z ++ welB I a (y0 z, y1 z, y2 z, y3 z, y4 z, y5 z, y6 z, y7 z, y8 z, y9 z, y10 z, u1, u2)) [6, 7, 8, 9, 0, 1, 2, 10, 11, 12, 13, 3, 4, 5] rfl
  have hD := hD.sub (ws' := welB I b z ++ welB I a (y0 z, y1 z, y2 z, y3 z, y4 z, y5 z, y6 z, y7 z, y8 z, y9 z, y10 z, u1, u2)) [6, 7, 8, 9, 0, 1, 2, 10, 11, 12, 13, 3, 4, 5] (by decide) rfl
  have hP : va_P D vwCl (welB I b z ++ welB I a (y0 z, y1 z, y2 z, y3 z, y4 z, y5 z, y6 z, y7 z, y8 z, y9 z, y10 z, u1, u2)) H := hP
  have hD : va_D (va_A (welB I b z ++ welB I a x) sz) (welB I b z ++ welB I a (y0 z, y1 z, y2 z, y3 z, y4 z, y5 z, y6 z, y7 z, y8 z, y9 z, y10 z, u1, u2)) := hD
  exact m_vret (u := (y0 z, y1 z, y2 z, y3 z, y4 z, y5 z, y6 z, y7 z, y8 z, y9 z, y10 z, u1, u2)) hx hb hr hlocks hS hP hD dX1_copyFrom_110 hw
