def qX0_copyFrom_L6 (z : Col) (K5 : Int32 → Col → Prop) : Nat → Int32 → Col → Prop
  | 0, _, _ => False
  | n7 + 1, i3, w4 => (((zN z) ≤ i3 → K5 i3 w4) ∧ (¬ (zN z) ≤ i3 → (qX0_placeOfAge z i3 (fun r10 => (vp_in r10 520 ∧ (vp_in r10 520 ∧ (qX0_enter w4 ((zV z) (Int32.toNatClampNeg r10)) ((zD z) (Int32.toNatClampNeg r10)) (fun u13 => qX0_copyFrom_L6 z K5 n7 (i3 + 1) u13))))))))
def qX0_copyFrom (z : Col) (x : Col) (Q : Col → Prop) : Prop := (qX0_clear x (fun u1 => (∃ n2, qX0_copyFrom_L6 z (fun i3 w4 => Q w4) n2 0 u1)))
set_option maxHeartbeats 4000000 in
set_option maxRecDepth 100000 in
theorem kX0_copyFrom (l : Launch) (D : va_G) (I O : ClassId) (b : CA) (a : CA) (sz : Nat) (z : Col) (x : Col) (Q : Col → Prop) (hw : qX0_copyFrom z x Q) : Met l yX0_copyFrom wsX0_copyFrom rX0_copyFrom (mPc D I O [.ref a.1, .ref b.1] (colB I b z ++ colB I a x) sz) (va_Qv (fun (u : Col) => Q u) (mB D (va_A (colB I b z ++ colB I a x) sz) (fun u => colB I b z ++ colB I a u)) (va_A (colB I b z ++ colB I a x) sz)) 0 0 (va_A (colB I b z ++ colB I a x) sz) := by
  refine m_start (by decide) rfl (Nat.le_of_ble_eq_true rfl) (fun p e s m below meth c ls H locs hx hb hr hml hts hown hlocks hnm hK hP hD hA hS hl => ?_)
  have hown : s.vm.findClass RX0 = some m.cls := hown
  have hl : lv_has ls 4 [(0, .ref a.1), (1, .ref b.1)] := hl
  have hiX0 : ∀ w ∈ wsX00, w ∈ wsX0_copyFrom := by decide +kernel
  have f0 := hts (.fieldLink RX0 26 "WellControl$Column" "count" "I") (by decide +kernel)
  have f1 := hts (.fieldLink RX0 9 "WellControl$Column" "volumes" "[I") (by decide +kernel)
  have f2 := hts (.fieldLink RX0 15 "WellControl$Column" "densities" "[I") (by decide +kernel)
  unfold qX0_copyFrom at hw
  refine lv_aload_n hx hb dX0_copyFrom_0 rfl (lv_at hl 0 rfl) ?_
  have hPc := va_P.mid (X := colB I b z) (wc := colB I a x) (Y := []) hP
  have hDc := va_D.mid (X := colB I b z) (wc := colB I a x) (Y := []) hD
  refine mc_v (colB I b z) ([]) (mv_V (As := []) (rest := []) ⟨hx, hb, hml, hown, hts⟩ (kX0_clear l D I O a H.size x _ hw) (cwV 0 hts gX0_copyFrom_X0_clear rfl rfl rfl hdVX0_clear ⟨(Nat.le_of_ble_eq_true rfl), (Nat.le_of_ble_eq_true rfl)⟩) hK hPc hDc 0 0 rfl rfl rfl rfl hl.1 rfl (Nat.le_of_ble_eq_true rfl) dX0_copyFrom_1 ⟨(Nat.le_of_ble_eq_true rfl), (Nat.le_of_ble_eq_true rfl)⟩) hP hD hS hA (fun u1 H locs hw hP hD hS => ?_)
  have hP : va_P D vwCl (colB I b z ++ colB I a u1) H := hP
  have hD : va_D (va_A (colB I b z ++ colB I a x) sz) (colB I b z ++ colB I a u1) := hD
  refine lv_iconst (v := 0) hx hb dX0_copyFrom_4 (by decide) ?_
  refine lv_istore_n (lv' := [(2, .int 0), (0, .ref a.1), (1, .ref b.1)]) hx hb dX0_copyFrom_5 rfl hl (by decide) rfl (fun ls hl => ?_)
  obtain ⟨n2, hw⟩ := hw
  have ky8 : ∀ (K5 : Int32 → Col → Prop) (_ : ∀ (i3 : Int32) (w4 : Col) (H : Heap) (locs : List Loc) (ls : Array Slot), va_P D vwCl (colB I b z ++ colB I a w4) H → va_D (va_A (colB I b z ++ colB I a x) sz) (colB I b z ++ colB I a w4) → va_S (va_A (colB I b z ++ colB I a x) sz) s.heap H locs → lv_has ls 4 [(2, .int i3), (0, .ref a.1), (1, .ref b.1)] → K5 i3 w4 → W p l e rX0_copyFrom s m ([.ref a.1, .ref b.1] : List Value).toArray below meth c H locs 0 0 (MQ below (va_Qv (fun (u : Col) => Q u) (mB D (va_A (colB I b z ++ colB I a x) sz) (fun u => colB I b z ++ colB I a u)) (va_A (colB I b z ++ colB I a x) sz)) ([.ref a.1, .ref b.1] : List Value).toArray s 0 0 (va_A (colB I b z ++ colB I a x) sz)) (F0 m 42 ls [])) (n7 : Nat) (i3 : Int32) (w4 : Col) (H : Heap) (locs : List Loc) (ls : Array Slot), va_P D vwCl (colB I b z ++ colB I a w4) H → va_D (va_A (colB I b z ++ colB I a x) sz) (colB I b z ++ colB I a w4) → va_S (va_A (colB I b z ++ colB I a x) sz) s.heap H locs → lv_has ls 4 [(2, .int i3), (0, .ref a.1), (1, .ref b.1)] → qX0_copyFrom_L6 z K5 n7 i3 w4 → W p l e rX0_copyFrom s m ([.ref a.1, .ref b.1] : List Value).toArray below meth c H locs 0 0 (MQ below (va_Qv (fun (u : Col) => Q u) (mB D (va_A (colB I b z ++ colB I a x) sz) (fun u => colB I b z ++ colB I a u)) (va_A (colB I b z ++ colB I a x) sz)) ([.ref a.1, .ref b.1] : List Value).toArray s 0 0 (va_A (colB I b z ++ colB I a x) sz)) (F0 m 6 ls []) := by
    intro K5 hx6 n7
    induction n7 with
    | zero =>
      intro i3 w4 H locs ls hP hD hS hl hw
      exact hw.elim
    | succ n7 ihn7 =>
      intro i3 w4 H locs ls hP hD hS hl hw
      unfold qX0_copyFrom_L6 at hw
      refine lv_iload_n hx hb dX0_copyFrom_6 rfl (lv_at hl 0 rfl) ?_
      refine lv_aload_n hx hb dX0_copyFrom_7 rfl (lv_at hl 2 rfl) ?_
      refine va_get (ci := 0) (v := .int (zN z)) (C := RX0) (T := TX0) (N := 6) hx hb hts hiX0 hown hK.1 hP 0 rfl rfl 4 (by decide) f0 (fun _ h9 => h9) rfl dX0_copyFrom_8 ?_
      refine lv_icmp_ge (tgt := 42) hx hb dX0_copyFrom_11 (by decide) (fun c9 => ?_) (fun c9 => ?_)
      · have hw := hw.1 c9
        exact hx6 i3 w4 H locs ls hP hD hS (lv_sub hl [0, 1, 2] rfl) hw
      · have hw := hw.2 c9
        refine lv_aload_n hx hb dX0_copyFrom_14 rfl (lv_at hl 2 rfl) ?_
        refine lv_iload_n hx hb dX0_copyFrom_15 rfl (lv_at hl 0 rfl) ?_
        have hPc := va_P.mid (X := []) (wc := colB I b z) (Y := colB I a w4) hP
        have hDc := va_D.mid (X := []) (wc := colB I b z) (Y := colB I a w4) hD
        refine mc_i ([]) (colB I a w4) (mv_V (As := [.int i3]) (rest := []) ⟨hx, hb, hml, hown, hts⟩ (kX0_placeOfAge l D I O b H.size z i3 _ hw) (cwV 1 hts gX0_copyFrom_X0_placeOfAge rfl rfl rfl hdVX0_placeOfAge ⟨(Nat.le_of_ble_eq_true rfl), (Nat.le_of_ble_eq_true rfl)⟩) hK hPc hDc 0 0 rfl rfl rfl rfl hl.1 rfl (Nat.le_of_ble_eq_true rfl) dX0_copyFrom_16 ⟨(Nat.le_of_ble_eq_true rfl), (Nat.le_of_ble_eq_true rfl)⟩) hP hD hS hA (fun r10 _ H locs hw hP hD hS => ?_)
        have hP : va_P D vwCl (colB I b z ++ colB I a w4) H := hP
        have hD : va_D (va_A (colB I b z ++ colB I a x) sz) (colB I b z ++ colB I a w4) := hD
        refine lv_istore_n (lv' := [(3, .int r10), (2, .int i3), (0, .ref a.1), (1, .ref b.1)]) hx hb dX0_copyFrom_19 rfl hl (by decide) rfl (fun ls hl => ?_)
        refine lv_aload_n hx hb dX0_copyFrom_20 rfl (lv_at hl 2 rfl) ?_
        refine lv_aload_n hx hb dX0_copyFrom_21 rfl (lv_at hl 3 rfl) ?_
        refine va_get (ci := 0) (v := .ref b.2.1) (C := RX0) (T := TX0) (N := 6) hx hb hts hiX0 hown hK.1 hP 0 rfl rfl 1 (by decide) f1 (fun _ h9 => h9) rfl dX0_copyFrom_22 ?_
        refine lv_iload_n hx hb dX0_copyFrom_25 rfl (lv_at hl 0 rfl) ?_
        obtain ⟨h11, hw⟩ := hw
        refine va_iald hx hb hK.1 hP 1 0 rfl rfl h11 dX0_copyFrom_26 ?_
        refine lv_aload_n hx hb dX0_copyFrom_27 rfl (lv_at hl 3 rfl) ?_
        refine va_get (ci := 0) (v := .ref b.2.2) (C := RX0) (T := TX0) (N := 6) hx hb hts hiX0 hown hK.1 hP 0 rfl rfl 2 (by decide) f2 (fun _ h9 => h9) rfl dX0_copyFrom_28 ?_
        refine lv_iload_n hx hb dX0_copyFrom_31 rfl (lv_at hl 0 rfl) ?_
        obtain ⟨h12, hw⟩ := hw
        refine va_iald hx hb hK.1 hP 2 0 rfl rfl h12 dX0_copyFrom_32 ?_
        have hPc := va_P.mid (X := colB I b z) (wc := colB I a w4) (Y := []) hP
        have hDc := va_D.mid (X := colB I b z) (wc := colB I a w4) (Y := []) hD
        refine mc_v (colB I b z) ([]) (mv_V (As := [.int ((zV z) (Int32.toNatClampNeg r10)), .int ((zD z) (Int32.toNatClampNeg r10))]) (rest := []) ⟨hx, hb, hml, hown, hts⟩ (kX0_enter l D I O a H.size w4 ((zV z) (Int32.toNatClampNeg r10)) ((zD z) (Int32.toNatClampNeg r10)) _ hw) (cwV 2 hts gX0_copyFrom_X0_enter rfl rfl rfl hdVX0_enter ⟨(Nat.le_of_ble_eq_true rfl), (Nat.le_of_ble_eq_true rfl)⟩) hK hPc hDc 0 0 rfl rfl rfl rfl hl.1 rfl (Nat.le_of_ble_eq_true rfl) dX0_copyFrom_33 ⟨(Nat.le_of_ble_eq_true rfl), (Nat.le_of_ble_eq_true rfl)⟩) hP hD hS hA (fun u13 H locs hw hP hD hS => ?_)
        have hP : va_P D vwCl (colB I b z ++ colB I a u13) H := hP
        have hD : va_D (va_A (colB I b z ++ colB I a x) sz) (colB I b z ++ colB I a u13) := hD
        refine lv_iinc (v := i3 + 1) (lv' := [(2, .int (i3 + 1)), (3, .int r10), (0, .ref a.1), (1, .ref b.1)]) hx hb dX0_copyFrom_36 hl (k := 1) rfl (congrArg (fun z => i3 + z) (show Int32.ofInt 1 = 1 from by decide)) (by decide) rfl (fun ls hl => ?_)
        refine lv_goto (tgt := 6) hx hb dX0_copyFrom_39 (by decide) ?_
        exact ihn7 (i3 + 1) u13 H locs ls hP hD hS (lv_sub hl [0, 2, 3] rfl) hw
  refine ky8 _ (fun i3 w4 H locs ls hP hD hS hl hw => ?_) n2 0 u1 H locs ls hP hD hS (lv_sub hl [0, 1, 2] rfl) hw
  exact m_vret (u := w4) hx hb hr hlocks hS hP hD dX0_copyFrom_42 hw
def qX0_release_L7  (K6 : Int32 → Int32 → Col → Prop) : Nat → Int32 → Int32 → Col → Prop
  | 0, _, _, _ => False
  | n8 + 1, i3, i4, w5 => ((i3 ≤ 0 → K6 i3 i4 w5) ∧ (¬ i3 ≤ 0 → ((i4 ≤ 0 → K6 i3 i4 w5) ∧ (¬ i4 ≤ 0 → (qX0_releaseOldest w5 i4 (fun r12 u13 => (∀ v14 : Int32, v14 = i4 - r12 → qX0_release_L7 K6 n8 (i3 + (-1)) v14 u13)))))))
def qX0_release (x : Col) (p1 : Int32) (Q : Col → Prop) : Prop := (∀ v1 : Int32, v1 = zN x → (∃ n2, qX0_release_L7 (fun i3 i4 w5 => Q w5) n2 v1 p1 x))
set_option maxHeartbeats 4000000 in
set_option maxRecDepth 100000 in
theorem kX0_release (l : Launch) (D : va_G) (I O : ClassId) (a : CA) (sz : Nat) (x : Col) (p1 : Int32) (Q : Col → Prop) (hw : qX0_release x p1 Q) : Met l yX0_release wsX0_release rX0_release (mPc D I O [.ref a.1, .int p1] (colB I a x) sz) (va_Qv (fun (u : Col) => Q u) (mB D (va_A (colB I a x) sz) (fun u => colB I a u)) (va_A (colB I a x) sz)) 0 0 (va_A (colB I a x) sz) := by
  refine m_start (by decide) rfl (Nat.le_of_ble_eq_true rfl) (fun p e s m below meth c ls H locs hx hb hr hml hts hown hlocks hnm hK hP hD hA hS hl => ?_)
  have hown : s.vm.findClass RX0 = some m.cls := hown
  have hl : lv_has ls 4 [(0, .ref a.1), (1, .int p1)] := hl
  have hiX0 : ∀ w ∈ wsX00, w ∈ wsX0_release := by decide +kernel
  have f0 := hts (.fieldLink RX0 26 "WellControl$Column" "count" "I") (by decide +kernel)
  unfold qX0_release at hw
  refine lv_iload_n hx hb dX0_release_0 rfl (lv_at hl 1 rfl) ?_
  refine lv_istore_n (lv' := [(2, .int p1), (0, .ref a.1), (1, .int p1)]) hx hb dX0_release_1 rfl hl (by decide) rfl (fun ls hl => ?_)
  refine lv_aload_n hx hb dX0_release_2 rfl (lv_at hl 1 rfl) ?_
  refine va_get (ci := 0) (v := .int (zN x)) (C := RX0) (T := TX0) (N := 6) hx hb hts hiX0 hown hK.1 hP 0 rfl rfl 4 (by decide) f0 (fun _ h9 => h9) rfl dX0_release_3 ?_
  refine lv_topi (fun v1 ev1 => ?_)
  have hw := hw v1 ev1
  refine lv_istore_n (lv' := [(3, .int v1), (2, .int p1), (0, .ref a.1), (1, .int p1)]) hx hb dX0_release_6 rfl hl (by decide) rfl (fun ls hl => ?_)
  obtain ⟨n2, hw⟩ := hw
  have ky9 : ∀ (K6 : Int32 → Int32 → Col → Prop) (_ : ∀ (i3 : Int32) (i4 : Int32) (w5 : Col) (H : Heap) (locs : List Loc) (ls : Array Slot), va_P D vwCl (colB I a w5) H → va_D (va_A (colB I a x) sz) (colB I a w5) → va_S (va_A (colB I a x) sz) s.heap H locs → lv_has ls 4 [(3, .int i3), (2, .int i4), (0, .ref a.1), (1, .int p1)] → K6 i3 i4 w5 → W p l e rX0_release s m ([.ref a.1, .int p1] : List Value).toArray below meth c H locs 0 0 (MQ below (va_Qv (fun (u : Col) => Q u) (mB D (va_A (colB I a x) sz) (fun u => colB I a u)) (va_A (colB I a x) sz)) ([.ref a.1, .int p1] : List Value).toArray s 0 0 (va_A (colB I a x) sz)) (F0 m 29 ls [])) (n8 : Nat) (i3 : Int32) (i4 : Int32) (w5 : Col) (H : Heap) (locs : List Loc) (ls : Array Slot), va_P D vwCl (colB I a w5) H → va_D (va_A (colB I a x) sz) (colB I a w5) → va_S (va_A (colB I a x) sz) s.heap H locs → lv_has ls 4 [(3, .int i3), (2, .int i4), (0, .ref a.1), (1, .int p1)] → qX0_release_L7 K6 n8 i3 i4 w5 → W p l e rX0_release s m ([.ref a.1, .int p1] : List Value).toArray below meth c H locs 0 0 (MQ below (va_Qv (fun (u : Col) => Q u) (mB D (va_A (colB I a x) sz) (fun u => colB I a u)) (va_A (colB I a x) sz)) ([.ref a.1, .int p1] : List Value).toArray s 0 0 (va_A (colB I a x) sz)) (F0 m 7 ls []) := by
    intro K6 hx7 n8
    induction n8 with
    | zero =>
      intro i3 i4 w5 H locs ls hP hD hS hl hw
      exact hw.elim
    | succ n8 ihn8 =>
      intro i3 i4 w5 H locs ls hP hD hS hl hw
      unfold qX0_release_L7 at hw
      refine lv_iload_n hx hb dX0_release_7 rfl (lv_at hl 0 rfl) ?_
      refine lv_if_le (tgt := 29) hx hb dX0_release_8 (by decide) (fun c10 => ?_) (fun c10 => ?_)
      · have hw := hw.1 c10
        exact hx7 i3 i4 w5 H locs ls hP hD hS (lv_sub hl [0, 1, 2, 3] rfl) hw
      · have hw := hw.2 c10
        refine lv_iload_n hx hb dX0_release_11 rfl (lv_at hl 1 rfl) ?_
        refine lv_if_le (tgt := 29) hx hb dX0_release_12 (by decide) (fun c11 => ?_) (fun c11 => ?_)
        · have hw := hw.1 c11
          exact hx7 i3 i4 w5 H locs ls hP hD hS (lv_sub hl [0, 1, 2, 3] rfl) hw
        · have hw := hw.2 c11
          refine lv_iload_n hx hb dX0_release_15 rfl (lv_at hl 1 rfl) ?_
          refine lv_aload_n hx hb dX0_release_16 rfl (lv_at hl 2 rfl) ?_
          refine lv_iload_n hx hb dX0_release_17 rfl (lv_at hl 1 rfl) ?_
          refine mw_i (mv_V (As := [.int i4]) (rest := [.int i4]) ⟨hx, hb, hml, hown, hts⟩ (kX0_releaseOldest l D I O a H.size w5 i4 _ hw) (cwV 1 hts gX0_release_X0_releaseOldest rfl rfl rfl hdVX0_releaseOldest ⟨(Nat.le_of_ble_eq_true rfl), (Nat.le_of_ble_eq_true rfl)⟩) hK hP hD 0 0 rfl rfl rfl rfl hl.1 rfl (Nat.le_of_ble_eq_true rfl) dX0_release_18 ⟨(Nat.le_of_ble_eq_true rfl), (Nat.le_of_ble_eq_true rfl)⟩) hP hD hS hA (fun r12 u13 H locs hw hP hD hS => ?_)
          have hP : va_P D vwCl (colB I a u13) H := hP
          have hD : va_D (va_A (colB I a x) sz) (colB I a u13) := hD
          refine lv_isub hx hb dX0_release_21 ?_
          refine lv_topi (fun v14 ev14 => ?_)
          have hw := hw v14 ev14
          refine lv_istore_n (lv' := [(2, .int v14), (3, .int i3), (0, .ref a.1), (1, .int p1)]) hx hb dX0_release_22 rfl hl (by decide) rfl (fun ls hl => ?_)
          refine lv_iinc (v := i3 + (-1)) (lv' := [(3, .int (i3 + (-1))), (2, .int v14), (0, .ref a.1), (1, .int p1)]) hx hb dX0_release_23 hl (k := 1) rfl (congrArg (fun z => i3 + z) (show Int32.ofInt (-1) = (-1) from by decide)) (by decide) rfl (fun ls hl => ?_)
          refine lv_goto (tgt := 7) hx hb dX0_release_26 (by decide) ?_
          exact ihn8 (i3 + (-1)) v14 u13 H locs ls hP hD hS (lv_sub hl [0, 1, 2, 3] rfl) hw
  refine ky9 _ (fun i3 i4 w5 H locs ls hP hD hS hl hw => ?_) n2 v1 p1 x H locs ls hP hD hS (lv_sub hl [0, 1, 2, 3] rfl) hw
  exact m_vret (u := w5) hx hb hr hlocks hS hP hD dX0_release_29 hw
def qX0_releaseInto_L8  (K7 : Int32 → Int32 → Col → Col → Prop) : Nat → Int32 → Int32 → Col → Col → Prop
  | 0, _, _, _, _ => False
  | n9 + 1, i3, i4, w5, w6 => ((i3 ≤ 0 → K7 i3 i4 w5 w6) ∧ (¬ i3 ≤ 0 → ((i4 ≤ 0 → K7 i3 i4 w5 w6) ∧ (¬ i4 ≤ 0 → (qX0_placeOfAge w5 0 (fun r13 => (vp_in r13 520 ∧ (∀ v15 : Int32, v15 = (zD w5) (Int32.toNatClampNeg r13) → (qX0_releaseOldest w5 i4 (fun r16 u17 => (qX0_enter w6 r16 v15 (fun u18 => (∀ v19 : Int32, v19 = i4 - r16 → qX0_releaseInto_L8 K7 n9 (i3 + (-1)) v19 u17 u18)))))))))))))
def qX0_releaseInto (x : Col) (z : Col) (p2 : Int32) (Q : (Col × Col) → Prop) : Prop := (∀ v1 : Int32, v1 = zN x → (∃ n2, qX0_releaseInto_L8 (fun i3 i4 w5 w6 => Q (w5, w6)) n2 v1 p2 x z))
set_option maxHeartbeats 4000000 in
set_option maxRecDepth 100000 in
theorem kX0_releaseInto (l : Launch) (D : va_G) (I O : ClassId) (a : CA) (b : CA) (sz : Nat) (x : Col) (z : Col) (p2 : Int32) (Q : (Col × Col) → Prop) (hw : qX0_releaseInto x z p2 Q) : Met l yX0_releaseInto wsX0_releaseInto rX0_releaseInto (mPc D I O [.ref a.1, .ref b.1, .int p2] (colB I a x ++ colB I b z) sz) (va_Qv (fun (u : Col × Col) => Q u) (mB D (va_A (colB I a x ++ colB I b z) sz) (fun u => colB I a u.1 ++ colB I b u.2)) (va_A (colB I a x ++ colB I b z) sz)) 0 0 (va_A (colB I a x ++ colB I b z) sz) := by
  refine m_start (by decide) rfl (Nat.le_of_ble_eq_true rfl) (fun p e s m below meth c ls H locs hx hb hr hml hts hown hlocks hnm hK hP hD hA hS hl => ?_)
  have hown : s.vm.findClass RX0 = some m.cls := hown
  have hl : lv_has ls 7 [(0, .ref a.1), (1, .ref b.1), (2, .int p2)] := hl
  have hiX0 : ∀ w ∈ wsX00, w ∈ wsX0_releaseInto := by decide +kernel
  have f0 := hts (.fieldLink RX0 26 "WellControl$Column" "count" "I") (by decide +kernel)
  have f1 := hts (.fieldLink RX0 15 "WellControl$Column" "densities" "[I") (by decide +kernel)
  unfold qX0_releaseInto at hw
  refine lv_iload_n hx hb dX0_releaseInto_0 rfl (lv_at hl 2 rfl) ?_
  refine lv_istore_n (lv' := [(3, .int p2), (0, .ref a.1), (1, .ref b.1), (2, .int p2)]) hx hb dX0_releaseInto_1 rfl hl (by decide) rfl (fun ls hl => ?_)
  refine lv_aload_n hx hb dX0_releaseInto_2 rfl (lv_at hl 1 rfl) ?_
  refine va_get (ci := 0) (v := .int (zN x)) (C := RX0) (T := TX0) (N := 6) hx hb hts hiX0 hown hK.1 hP 0 rfl rfl 4 (by decide) f0 (fun _ h9 => h9) rfl dX0_releaseInto_3 ?_
  refine lv_topi (fun v1 ev1 => ?_)
  have hw := hw v1 ev1
  refine lv_istore (lv' := [(4, .int v1), (3, .int p2), (0, .ref a.1), (1, .ref b.1), (2, .int p2)]) hx hb dX0_releaseInto_6 hl (by decide) rfl (fun ls hl => ?_)
  obtain ⟨n2, hw⟩ := hw
  have ky10 : ∀ (K7 : Int32 → Int32 → Col → Col → Prop) (_ : ∀ (i3 : Int32) (i4 : Int32) (w5 : Col) (w6 : Col) (H : Heap) (locs : List Loc) (ls : Array Slot), va_P D vwCl (colB I a w5 ++ colB I b w6) H → va_D (va_A (colB I a x ++ colB I b z) sz) (colB I a w5 ++ colB I b w6) → va_S (va_A (colB I a x ++ colB I b z) sz) s.heap H locs → lv_has ls 7 [(4, .int i3), (3, .int i4), (0, .ref a.1), (1, .ref b.1), (2, .int p2)] → K7 i3 i4 w5 w6 → W p l e rX0_releaseInto s m ([.ref a.1, .ref b.1, .int p2] : List Value).toArray below meth c H locs 0 0 (MQ below (va_Qv (fun (u : Col × Col) => Q u) (mB D (va_A (colB I a x ++ colB I b z) sz) (fun u => colB I a u.1 ++ colB I b u.2)) (va_A (colB I a x ++ colB I b z) sz)) ([.ref a.1, .ref b.1, .int p2] : List Value).toArray s 0 0 (va_A (colB I a x ++ colB I b z) sz)) (F0 m 55 ls [])) (n9 : Nat) (i3 : Int32) (i4 : Int32) (w5 : Col) (w6 : Col) (H : Heap) (locs : List Loc) (ls : Array Slot), va_P D vwCl (colB I a w5 ++ colB I b w6) H → va_D (va_A (colB I a x ++ colB I b z) sz) (colB I a w5 ++ colB I b w6) → va_S (va_A (colB I a x ++ colB I b z) sz) s.heap H locs → lv_has ls 7 [(4, .int i3), (3, .int i4), (0, .ref a.1), (1, .ref b.1), (2, .int p2)] → qX0_releaseInto_L8 K7 n9 i3 i4 w5 w6 → W p l e rX0_releaseInto s m ([.ref a.1, .ref b.1, .int p2] : List Value).toArray below meth c H locs 0 0 (MQ below (va_Qv (fun (u : Col × Col) => Q u) (mB D (va_A (colB I a x ++ colB I b z) sz) (fun u => colB I a u.1 ++ colB I b u.2)) (va_A (colB I a x ++ colB I b z) sz)) ([.ref a.1, .ref b.1, .int p2] : List Value).toArray s 0 0 (va_A (colB I a x ++ colB I b z) sz)) (F0 m 8 ls []) := by
    intro K7 hx8 n9
    induction n9 with
    | zero =>
      intro i3 i4 w5 w6 H locs ls hP hD hS hl hw
      exact hw.elim
    | succ n9 ihn9 =>
      intro i3 i4 w5 w6 H locs ls hP hD hS hl hw
      unfold qX0_releaseInto_L8 at hw
      refine lv_iload hx hb dX0_releaseInto_8 (lv_at hl 0 rfl) ?_
      refine lv_if_le (tgt := 55) hx hb dX0_releaseInto_10 (by decide) (fun c11 => ?_) (fun c11 => ?_)
      · have hw := hw.1 c11
        exact hx8 i3 i4 w5 w6 H locs ls hP hD hS (lv_sub hl [0, 1, 2, 3, 4] rfl) hw
      · have hw := hw.2 c11
        refine lv_iload_n hx hb dX0_releaseInto_13 rfl (lv_at hl 1 rfl) ?_
        refine lv_if_le (tgt := 55) hx hb dX0_releaseInto_14 (by decide) (fun c12 => ?_) (fun c12 => ?_)
        · have hw := hw.1 c12
          exact hx8 i3 i4 w5 w6 H locs ls hP hD hS (lv_sub hl [0, 1, 2, 3, 4] rfl) hw
        · have hw := hw.2 c12
          refine lv_aload_n hx hb dX0_releaseInto_17 rfl (lv_at hl 2 rfl) ?_
          refine va_get (ci := 0) (v := .ref a.2.2) (C := RX0) (T := TX0) (N := 6) hx hb hts hiX0 hown hK.1 hP 0 rfl rfl 2 (by decide) f1 (fun _ h9 => h9) rfl dX0_releaseInto_18 ?_
          refine lv_aload_n hx hb dX0_releaseInto_21 rfl (lv_at hl 2 rfl) ?_
          refine lv_iconst (v := 0) hx hb dX0_releaseInto_22 (by decide) ?_
          have hPc := va_P.mid (X := []) (wc := colB I a w5) (Y := colB I b w6) hP
          have hDc := va_D.mid (X := []) (wc := colB I a w5) (Y := colB I b w6) hD
          refine mc_i ([]) (colB I b w6) (mv_V (As := [.int 0]) (rest := [.ref a.2.2]) ⟨hx, hb, hml, hown, hts⟩ (kX0_placeOfAge l D I O a H.size w5 0 _ hw) (cwV 1 hts gX0_releaseInto_X0_placeOfAge rfl rfl rfl hdVX0_placeOfAge ⟨(Nat.le_of_ble_eq_true rfl), (Nat.le_of_ble_eq_true rfl)⟩) hK hPc hDc 0 0 rfl rfl rfl rfl hl.1 rfl (Nat.le_of_ble_eq_true rfl) dX0_releaseInto_23 ⟨(Nat.le_of_ble_eq_true rfl), (Nat.le_of_ble_eq_true rfl)⟩) hP hD hS hA (fun r13 _ H locs hw hP hD hS => ?_)
          have hP : va_P D vwCl (colB I a w5 ++ colB I b w6) H := hP
          have hD : va_D (va_A (colB I a x ++ colB I b z) sz) (colB I a w5 ++ colB I b w6) := hD
          obtain ⟨h14, hw⟩ := hw
          refine va_iald hx hb hK.1 hP 2 0 rfl rfl h14 dX0_releaseInto_26 ?_
          refine lv_topi (fun v15 ev15 => ?_)
          have hw := hw v15 ev15
          refine lv_istore (lv' := [(5, .int v15), (4, .int i3), (3, .int i4), (0, .ref a.1), (1, .ref b.1), (2, .int p2)]) hx hb dX0_releaseInto_27 hl (by decide) rfl (fun ls hl => ?_)
          refine lv_aload_n hx hb dX0_releaseInto_29 rfl (lv_at hl 3 rfl) ?_
          refine lv_iload_n hx hb dX0_releaseInto_30 rfl (lv_at hl 2 rfl) ?_
          have hPc := va_P.mid (X := []) (wc := colB I a w5) (Y := colB I b w6) hP
          have hDc := va_D.mid (X := []) (wc := colB I a w5) (Y := colB I b w6) hD
          refine mc_i ([]) (colB I b w6) (mv_V (As := [.int i4]) (rest := []) ⟨hx, hb, hml, hown, hts⟩ (kX0_releaseOldest l D I O a H.size w5 i4 _ hw) (cwV 1 hts gX0_releaseInto_X0_releaseOldest rfl rfl rfl hdVX0_releaseOldest ⟨(Nat.le_of_ble_eq_true rfl), (Nat.le_of_ble_eq_true rfl)⟩) hK hPc hDc 0 0 rfl rfl rfl rfl hl.1 rfl (Nat.le_of_ble_eq_true rfl) dX0_releaseInto_31 ⟨(Nat.le_of_ble_eq_true rfl), (Nat.le_of_ble_eq_true rfl)⟩) hP hD hS hA (fun r16 u17 H locs hw hP hD hS => ?_)
          have hP : va_P D vwCl (colB I a u17 ++ colB I b w6) H := hP
          have hD : va_D (va_A (colB I a x ++ colB I b z) sz) (colB I a u17 ++ colB I b w6) := hD
          refine lv_istore (lv' := [(6, .int r16), (5, .int v15), (4, .int i3), (3, .int i4), (0, .ref a.1), (1, .ref b.1), (2, .int p2)]) hx hb dX0_releaseInto_34 hl (by decide) rfl (fun ls hl => ?_)
          refine lv_aload_n hx hb dX0_releaseInto_36 rfl (lv_at hl 5 rfl) ?_
          refine lv_iload hx hb dX0_releaseInto_37 (lv_at hl 0 rfl) ?_
          refine lv_iload hx hb dX0_releaseInto_39 (lv_at hl 1 rfl) ?_
          have hPc := va_P.mid (X := colB I a u17) (wc := colB I b w6) (Y := []) hP
          have hDc := va_D.mid (X := colB I a u17) (wc := colB I b w6) (Y := []) hD
          refine mc_v (colB I a u17) ([]) (mv_V (As := [.int r16, .int v15]) (rest := []) ⟨hx, hb, hml, hown, hts⟩ (kX0_enter l D I O b H.size w6 r16 v15 _ hw) (cwV 2 hts gX0_releaseInto_X0_enter rfl rfl rfl hdVX0_enter ⟨(Nat.le_of_ble_eq_true rfl), (Nat.le_of_ble_eq_true rfl)⟩) hK hPc hDc 0 0 rfl rfl rfl rfl hl.1 rfl (Nat.le_of_ble_eq_true rfl) dX0_releaseInto_41 ⟨(Nat.le_of_ble_eq_true rfl), (Nat.le_of_ble_eq_true rfl)⟩) hP hD hS hA (fun u18 H locs hw hP hD hS => ?_)
          have hP : va_P D vwCl (colB I a u17 ++ colB I b u18) H := hP
          have hD : va_D (va_A (colB I a x ++ colB I b z) sz) (colB I a u17 ++ colB I b u18) := hD
          refine lv_iload_n hx hb dX0_releaseInto_44 rfl (lv_at hl 3 rfl) ?_
          refine lv_iload hx hb dX0_releaseInto_45 (lv_at hl 0 rfl) ?_
          refine lv_isub hx hb dX0_releaseInto_47 ?_
          refine lv_topi (fun v19 ev19 => ?_)
          have hw := hw v19 ev19
          refine lv_istore_n (lv' := [(3, .int v19), (6, .int r16), (5, .int v15), (4, .int i3), (0, .ref a.1), (1, .ref b.1), (2, .int p2)]) hx hb dX0_releaseInto_48 rfl hl (by decide) rfl (fun ls hl => ?_)
          refine lv_iinc (v := i3 + (-1)) (lv' := [(4, .int (i3 + (-1))), (3, .int v19), (6, .int r16), (5, .int v15), (0, .ref a.1), (1, .ref b.1), (2, .int p2)]) hx hb dX0_releaseInto_49 hl (k := 3) rfl (congrArg (fun z => i3 + z) (show Int32.ofInt (-1) = (-1) from by decide)) (by decide) rfl (fun ls hl => ?_)
          refine lv_goto (tgt := 8) hx hb dX0_releaseInto_52 (by decide) ?_
          exact ihn9 (i3 + (-1)) v19 u17 u18 H locs ls hP hD hS (lv_sub hl [0, 1, 4, 5, 6] rfl) hw
  refine ky10 _ (fun i3 i4 w5 w6 H locs ls hP hD hS hl hw => ?_) n2 v1 p2 x z H locs ls hP hD hS (lv_sub hl [0, 1, 2, 3, 4] rfl) hw
  exact m_vret (u := (w5, w6)) hx hb hr hlocks hS hP hD dX0_releaseInto_55 hw
def qX0_loadAbove_L8 (x : Col) (K5 : Int32 → Int32 → Int64 → Prop) : Nat → Int32 → Int32 → Int64 → Prop
  | 0, _, _, _ => False
  | n7 + 1, i2, i3, i4 => (((zN x) ≤ i2 → K5 i2 i3 i4) ∧ (¬ (zN x) ≤ i2 → ((i3 ≤ 0 → K5 i2 i3 i4) ∧ (¬ i3 ≤ 0 → (qX0_placeOfIndex x i2 (fun r11 => (vp_in r11 520 ∧ (∀ v13 : Int32, v13 = (if ((zV x) (Int32.toNatClampNeg r11)) < i3 then ((zV x) (Int32.toNatClampNeg r11)) else i3) → (vp_in r11 520 ∧ (∀ v15 : Int64, v15 = i4 + ((Int32.toInt64 v13) * (Int32.toInt64 ((zD x) (Int32.toNatClampNeg r11)))) → (∀ v16 : Int32, v16 = i3 - v13 → qX0_loadAbove_L8 x K5 n7 (i2 + 1) v16 v15)))))))))))
def qX0_loadAbove (x : Col) (p1 : Int32) (Q : Int64 → Prop) : Prop := (∃ n1, qX0_loadAbove_L8 x (fun i2 i3 i4 => Q i4) n1 0 p1 0)
set_option maxHeartbeats 4000000 in
set_option maxRecDepth 100000 in
theorem kX0_loadAbove (l : Launch) (D : va_G) (I O : ClassId) (a : CA) (sz : Nat) (x : Col) (p1 : Int32) (Q : Int64 → Prop) (hw : qX0_loadAbove x p1 Q) : Met l yX0_loadAbove wsX0_loadAbove rX0_loadAbove (mPc D I O [.ref a.1, .int p1] (colB I a x) sz) (va_Ql (fun r (_ : Unit) => Q r) (mB D (va_A (colB I a x) sz) (fun _ => colB I a x)) (va_A (colB I a x) sz)) 0 0 (va_A (colB I a x) sz) := by
  refine m_start (by decide) rfl (Nat.le_of_ble_eq_true rfl) (fun p e s m below meth c ls H locs hx hb hr hml hts hown hlocks hnm hK hP hD hA hS hl => ?_)
  have hown : s.vm.findClass RX0 = some m.cls := hown
  have hl : lv_has ls 8 [(0, .ref a.1), (1, .int p1)] := hl
  have hiX0 : ∀ w ∈ wsX00, w ∈ wsX0_loadAbove := by decide +kernel
  have f0 := hts (.fieldLink RX0 26 "WellControl$Column" "count" "I") (by decide +kernel)
  have f1 := hts (.fieldLink RX0 9 "WellControl$Column" "volumes" "[I") (by decide +kernel)
  have f2 := hts (.methodLink RX0 60 Lib.Math.min.name) (by decide +kernel)
  have f3 := hts (.static Lib.Math.min.name) (by decide +kernel)
  have f4 := hts (.initialized "java/lang/Math") (by decide +kernel)
  have f5 := hts (.code Lib.Math.min.name Lib.Math.min.code 2 (some .int)) (by decide +kernel)
  have f6 := hts (.fieldLink RX0 15 "WellControl$Column" "densities" "[I") (by decide +kernel)
  unfold qX0_loadAbove at hw
  refine lv_lconst (v := 0) hx hb dX0_loadAbove_0 (by decide) ?_
  refine lv_lstore_n (lv' := [(2, .long 0), (0, .ref a.1), (1, .int p1)]) hx hb dX0_loadAbove_1 rfl hl (by decide) rfl (fun ls hl => ?_)
  refine lv_iload_n hx hb dX0_loadAbove_2 rfl (lv_at hl 2 rfl) ?_
  refine lv_istore (lv' := [(4, .int p1), (2, .long 0), (0, .ref a.1), (1, .int p1)]) hx hb dX0_loadAbove_3 hl (by decide) rfl (fun ls hl => ?_)
  refine lv_iconst (v := 0) hx hb dX0_loadAbove_5 (by decide) ?_
  refine lv_istore (lv' := [(5, .int 0), (4, .int p1), (2, .long 0), (0, .ref a.1), (1, .int p1)]) hx hb dX0_loadAbove_6 hl (by decide) rfl (fun ls hl => ?_)
  obtain ⟨n1, hw⟩ := hw
  have ky8 : ∀ (K5 : Int32 → Int32 → Int64 → Prop) (_ : ∀ (i2 : Int32) (i3 : Int32) (i4 : Int64) (H : Heap) (locs : List Loc) (ls : Array Slot), va_P D vwCl (colB I a x) H → va_D (va_A (colB I a x) sz) (colB I a x) → va_S (va_A (colB I a x) sz) s.heap H locs → lv_has ls 8 [(5, .int i2), (4, .int i3), (2, .long i4), (0, .ref a.1), (1, .int p1)] → K5 i2 i3 i4 → W p l e rX0_loadAbove s m ([.ref a.1, .int p1] : List Value).toArray below meth c H locs 0 0 (MQ below (va_Ql (fun r (_ : Unit) => Q r) (mB D (va_A (colB I a x) sz) (fun _ => colB I a x)) (va_A (colB I a x) sz)) ([.ref a.1, .int p1] : List Value).toArray s 0 0 (va_A (colB I a x) sz)) (F0 m 72 ls [])) (n7 : Nat) (i2 : Int32) (i3 : Int32) (i4 : Int64) (H : Heap) (locs : List Loc) (ls : Array Slot), va_P D vwCl (colB I a x) H → va_D (va_A (colB I a x) sz) (colB I a x) → va_S (va_A (colB I a x) sz) s.heap H locs → lv_has ls 8 [(5, .int i2), (4, .int i3), (2, .long i4), (0, .ref a.1), (1, .int p1)] → qX0_loadAbove_L8 x K5 n7 i2 i3 i4 → W p l e rX0_loadAbove s m ([.ref a.1, .int p1] : List Value).toArray below meth c H locs 0 0 (MQ below (va_Ql (fun r (_ : Unit) => Q r) (mB D (va_A (colB I a x) sz) (fun _ => colB I a x)) (va_A (colB I a x) sz)) ([.ref a.1, .int p1] : List Value).toArray s 0 0 (va_A (colB I a x) sz)) (F0 m 8 ls []) := by
    intro K5 hx6 n7
    induction n7 with
    | zero =>
      intro i2 i3 i4 H locs ls hP hD hS hl hw
      exact hw.elim
    | succ n7 ihn7 =>
      intro i2 i3 i4 H locs ls hP hD hS hl hw
      unfold qX0_loadAbove_L8 at hw
      refine lv_iload hx hb dX0_loadAbove_8 (lv_at hl 0 rfl) ?_
      refine lv_aload_n hx hb dX0_loadAbove_10 rfl (lv_at hl 3 rfl) ?_
      refine va_get (ci := 0) (v := .int (zN x)) (C := RX0) (T := TX0) (N := 6) hx hb hts hiX0 hown hK.1 hP 0 rfl rfl 4 (by decide) f0 (fun _ h9 => h9) rfl dX0_loadAbove_11 ?_
      refine lv_icmp_ge (tgt := 72) hx hb dX0_loadAbove_14 (by decide) (fun c9 => ?_) (fun c9 => ?_)
      · have hw := hw.1 c9
        exact hx6 i2 i3 i4 H locs ls hP hD hS (lv_sub hl [0, 1, 2, 3, 4] rfl) hw
      · have hw := hw.2 c9
        refine lv_iload hx hb dX0_loadAbove_17 (lv_at hl 1 rfl) ?_
        refine lv_if_le (tgt := 72) hx hb dX0_loadAbove_19 (by decide) (fun c10 => ?_) (fun c10 => ?_)
        · have hw := hw.1 c10
          exact hx6 i2 i3 i4 H locs ls hP hD hS (lv_sub hl [0, 1, 2, 3, 4] rfl) hw
        · have hw := hw.2 c10
          refine lv_aload_n hx hb dX0_loadAbove_22 rfl (lv_at hl 3 rfl) ?_
          refine lv_iload hx hb dX0_loadAbove_23 (lv_at hl 0 rfl) ?_
          refine mw_i (mv_V (As := [.int i2]) (rest := []) ⟨hx, hb, hml, hown, hts⟩ (kX0_placeOfIndex l D I O a H.size x i2 _ hw) (cwV 1 hts gX0_loadAbove_X0_placeOfIndex rfl rfl rfl hdVX0_placeOfIndex ⟨(Nat.le_of_ble_eq_true rfl), (Nat.le_of_ble_eq_true rfl)⟩) hK hP hD 0 0 rfl rfl rfl rfl hl.1 rfl (Nat.le_of_ble_eq_true rfl) dX0_loadAbove_25 ⟨(Nat.le_of_ble_eq_true rfl), (Nat.le_of_ble_eq_true rfl)⟩) hP hD hS hA (fun r11 _ H locs hw hP hD hS => ?_)
          have hP : va_P D vwCl (colB I a x) H := hP
          have hD : va_D (va_A (colB I a x) sz) (colB I a x) := hD
          refine lv_istore (lv' := [(6, .int r11), (5, .int i2), (4, .int i3), (2, .long i4), (0, .ref a.1), (1, .int p1)]) hx hb dX0_loadAbove_28 hl (by decide) rfl (fun ls hl => ?_)
          refine lv_iload hx hb dX0_loadAbove_30 (lv_at hl 2 rfl) ?_
          refine lv_aload_n hx hb dX0_loadAbove_32 rfl (lv_at hl 4 rfl) ?_
          refine va_get (ci := 0) (v := .ref a.2.1) (C := RX0) (T := TX0) (N := 6) hx hb hts hiX0 hown hK.1 hP 0 rfl rfl 1 (by decide) f1 (fun _ h9 => h9) rfl dX0_loadAbove_33 ?_
          refine lv_iload hx hb dX0_loadAbove_36 (lv_at hl 0 rfl) ?_
          obtain ⟨h12, hw⟩ := hw
          refine va_iald hx hb hK.1 hP 1 0 rfl rfl h12 dX0_loadAbove_38 ?_
          refine va_mmin hx hb (hml.trans hl.1.symm) hown f2 f3 f4 f5 (Nat.le_of_ble_eq_true rfl) (Nat.le_of_ble_eq_true rfl) (Nat.le_of_ble_eq_true rfl) (Nat.le_of_ble_eq_true rfl) dX0_loadAbove_39 ?_
          refine lv_topi (fun v13 ev13 => ?_)
          have hw := hw v13 ev13
          refine lv_istore (lv' := [(7, .int v13), (6, .int r11), (5, .int i2), (4, .int i3), (2, .long i4), (0, .ref a.1), (1, .int p1)]) hx hb dX0_loadAbove_42 hl (by decide) rfl (fun ls hl => ?_)
          refine lv_lload_n hx hb dX0_loadAbove_44 rfl (lv_at hl 4 rfl) ?_
          refine lv_iload hx hb dX0_loadAbove_45 (lv_at hl 0 rfl) ?_
          refine lv_i2l (v := Int32.toInt64 v13) hx hb dX0_loadAbove_47 rfl ?_
          refine lv_aload_n hx hb dX0_loadAbove_48 rfl (lv_at hl 5 rfl) ?_
          refine va_get (ci := 0) (v := .ref a.2.2) (C := RX0) (T := TX0) (N := 6) hx hb hts hiX0 hown hK.1 hP 0 rfl rfl 2 (by decide) f6 (fun _ h9 => h9) rfl dX0_loadAbove_49 ?_
          refine lv_iload hx hb dX0_loadAbove_52 (lv_at hl 1 rfl) ?_
          obtain ⟨h14, hw⟩ := hw
          refine va_iald hx hb hK.1 hP 2 0 rfl rfl h14 dX0_loadAbove_54 ?_
          refine lv_i2l (v := Int32.toInt64 ((zD x) (Int32.toNatClampNeg r11))) hx hb dX0_loadAbove_55 rfl ?_
          refine lv_lmul hx hb dX0_loadAbove_56 ?_
          refine lv_ladd hx hb dX0_loadAbove_57 ?_
          refine lv_topl (fun v15 ev15 => ?_)
          have hw := hw v15 ev15
          refine lv_lstore_n (lv' := [(2, .long v15), (7, .int v13), (6, .int r11), (5, .int i2), (4, .int i3), (0, .ref a.1), (1, .int p1)]) hx hb dX0_loadAbove_58 rfl hl (by decide) rfl (fun ls hl => ?_)
          refine lv_iload hx hb dX0_loadAbove_59 (lv_at hl 4 rfl) ?_
          refine lv_iload hx hb dX0_loadAbove_61 (lv_at hl 1 rfl) ?_
          refine lv_isub hx hb dX0_loadAbove_63 ?_
          refine lv_topi (fun v16 ev16 => ?_)
          have hw := hw v16 ev16
          refine lv_istore (lv' := [(4, .int v16), (2, .long v15), (7, .int v13), (6, .int r11), (5, .int i2), (0, .ref a.1), (1, .int p1)]) hx hb dX0_loadAbove_64 hl (by decide) rfl (fun ls hl => ?_)
          refine lv_iinc (v := i2 + 1) (lv' := [(5, .int (i2 + 1)), (4, .int v16), (2, .long v15), (7, .int v13), (6, .int r11), (0, .ref a.1), (1, .int p1)]) hx hb dX0_loadAbove_66 hl (k := 4) rfl (congrArg (fun z => i2 + z) (show Int32.ofInt 1 = 1 from by decide)) (by decide) rfl (fun ls hl => ?_)
          refine lv_goto (tgt := 8) hx hb dX0_loadAbove_69 (by decide) ?_
          exact ihn7 (i2 + 1) v16 v15 H locs ls hP hD hS (lv_sub hl [0, 1, 2, 5, 6] rfl) hw
  refine ky8 _ (fun i2 i3 i4 H locs ls hP hD hS hl hw => ?_) n1 0 p1 0 H locs ls hP hD hS (lv_sub hl [0, 1, 2, 3, 4] rfl) hw
  refine lv_lload_n hx hb dX0_loadAbove_72 rfl (lv_at hl 2 rfl) ?_
  exact m_lret (u := ()) hx hb hr hlocks hS hP hD dX0_loadAbove_73 hw
def qX2_mixed (p1 : Int64) (p2 : Int64) (Q : Int64 → Prop) : Prop := Q ((31 * p1) + p2)
set_option maxHeartbeats 4000000 in
set_option maxRecDepth 100000 in
theorem kX2_mixed (l : Launch) (D : va_G) (I O : ClassId) (sz : Nat) (p1 : Int64) (p2 : Int64) (Q : Int64 → Prop) (hw : qX2_mixed p1 p2 Q) : Met l yX2_mixed wsX2_mixed rX2_mixed (mPc D I O [.long p1, .long p2] ([]) sz) (va_Ql (fun r (_ : Unit) => Q r) (mB D (va_A ([]) sz) (fun _ => [])) (va_A ([]) sz)) 0 0 (va_A ([]) sz) := by
  refine m_start (by decide) rfl (Nat.le_of_ble_eq_true rfl) (fun p e s m below meth c ls H locs hx hb hr hml hts hown hlocks hnm hK hP hD hA hS hl => ?_)
  have hown : s.vm.findClass RX2 = some m.cls := hown
  have hl : lv_has ls 4 [(0, .long p1), (2, .long p2)] := hl
  have f0 := hts (.constantLong RX2 181 (31)) (by decide +kernel)
  unfold qX2_mixed at hw
  refine lv_ldc2 (v := 31) hx hb hown f0 dX2_mixed_0 ?_
  refine lv_lload_n hx hb dX2_mixed_3 rfl (lv_at hl 0 rfl) ?_
  refine lv_lmul hx hb dX2_mixed_4 ?_
  refine lv_lload_n hx hb dX2_mixed_5 rfl (lv_at hl 1 rfl) ?_
  refine lv_ladd hx hb dX2_mixed_6 ?_
  exact m_lret (u := ()) hx hb hr hlocks hS hP hD dX2_mixed_7 hw
def qX0_mixedLayers_L12 (x : Col) (K5 : Int32 → Int64 → Prop) : Nat → Int32 → Int64 → Prop
  | 0, _, _ => False
  | n7 + 1, i3, i4 => (((zN x) ≤ i3 → K5 i3 i4) ∧ (¬ (zN x) ≤ i3 → (qX0_placeOfIndex x i3 (fun r10 => (vp_in r10 520 ∧ (qX2_mixed i4 (Int32.toInt64 ((zV x) (Int32.toNatClampNeg r10))) (fun r12 => (vp_in r10 520 ∧ (qX2_mixed r12 (Int32.toInt64 ((zD x) (Int32.toNatClampNeg r10))) (fun r14 => qX0_mixedLayers_L12 x K5 n7 (i3 + 1) r14))))))))))
def qX0_mixedLayers (x : Col) (p1 : Int64) (Q : Int64 → Prop) : Prop := (qX2_mixed p1 (Int32.toInt64 (zN x)) (fun r1 => (∃ n2, qX0_mixedLayers_L12 x (fun i3 i4 => Q i4) n2 0 r1)))
set_option maxHeartbeats 4000000 in
set_option maxRecDepth 100000 in
theorem kX0_mixedLayers (l : Launch) (D : va_G) (I O : ClassId) (a : CA) (sz : Nat) (x : Col) (p1 : Int64) (Q : Int64 → Prop) (hw : qX0_mixedLayers x p1 Q) : Met l yX0_mixedLayers wsX0_mixedLayers rX0_mixedLayers (mPc D I O [.ref a.1, .long p1] (colB I a x) sz) (va_Ql (fun r (_ : Unit) => Q r) (mB D (va_A (colB I a x) sz) (fun _ => colB I a x)) (va_A (colB I a x) sz)) 0 0 (va_A (colB I a x) sz) := by
  refine m_start (by decide) rfl (Nat.le_of_ble_eq_true rfl) (fun p e s m below meth c ls H locs hx hb hr hml hts hown hlocks hnm hK hP hD hA hS hl => ?_)
  have hown : s.vm.findClass RX0 = some m.cls := hown
  have hl : lv_has ls 5 [(0, .ref a.1), (1, .long p1)] := hl
  have hiX0 : ∀ w ∈ wsX00, w ∈ wsX0_mixedLayers := by decide +kernel
  have f0 := hts (.fieldLink RX0 26 "WellControl$Column" "count" "I") (by decide +kernel)
  have f1 := hts (.initialized RX2) (by decide +kernel)
  have f2 := hts (.static yX2_mixed) (by decide +kernel)
  have f3 := hts (.fieldLink RX0 9 "WellControl$Column" "volumes" "[I") (by decide +kernel)
  have f4 := hts (.fieldLink RX0 15 "WellControl$Column" "densities" "[I") (by decide +kernel)
  unfold qX0_mixedLayers at hw
  refine lv_lload_n hx hb dX0_mixedLayers_0 rfl (lv_at hl 1 rfl) ?_
  refine lv_aload_n hx hb dX0_mixedLayers_1 rfl (lv_at hl 0 rfl) ?_
  refine va_get (ci := 0) (v := .int (zN x)) (C := RX0) (T := TX0) (N := 6) hx hb hts hiX0 hown hK.1 hP 0 rfl rfl 4 (by decide) f0 (fun _ h9 => h9) rfl dX0_mixedLayers_2 ?_
  refine lv_i2l (v := Int32.toInt64 (zN x)) hx hb dX0_mixedLayers_5 rfl ?_
  refine m0_l (mv_SN (As := [.long p1, .long (Int32.toInt64 (zN x))]) (rest := []) ⟨hx, hb, hml, hown, hts⟩ (kX2_mixed l D I O H.size p1 (Int32.toInt64 (zN x)) _ hw) (va_cnB 2 hts gX0_mixedLayers_X2_mixed_n63 rfl rfl rfl hK.2.1 f1 hdSX2_mixed ⟨(Nat.le_of_ble_eq_true rfl), (Nat.le_of_ble_eq_true rfl)⟩) f2 hK (nil_P (D := D) (H := H)) (nil_D (A := va_A (colB I a x) sz)) rfl hl.1 rfl (Nat.le_of_ble_eq_true rfl) dX0_mixedLayers_6 ⟨(Nat.le_of_ble_eq_true rfl), (Nat.le_of_ble_eq_true rfl)⟩) hP hD hS hA (fun r1 _ H locs hw hP hD hS => ?_)
  refine lv_lstore_n (lv' := [(1, .long r1), (0, .ref a.1)]) hx hb dX0_mixedLayers_9 rfl hl (by decide) rfl (fun ls hl => ?_)
  refine lv_iconst (v := 0) hx hb dX0_mixedLayers_10 (by decide) ?_
  refine lv_istore_n (lv' := [(3, .int 0), (1, .long r1), (0, .ref a.1)]) hx hb dX0_mixedLayers_11 rfl hl (by decide) rfl (fun ls hl => ?_)
  obtain ⟨n2, hw⟩ := hw
  have ky8 : ∀ (K5 : Int32 → Int64 → Prop) (_ : ∀ (i3 : Int32) (i4 : Int64) (H : Heap) (locs : List Loc) (ls : Array Slot), va_P D vwCl (colB I a x) H → va_D (va_A (colB I a x) sz) (colB I a x) → va_S (va_A (colB I a x) sz) s.heap H locs → lv_has ls 5 [(3, .int i3), (1, .long i4), (0, .ref a.1)] → K5 i3 i4 → W p l e rX0_mixedLayers s m ([.ref a.1, .long p1] : List Value).toArray below meth c H locs 0 0 (MQ below (va_Ql (fun r (_ : Unit) => Q r) (mB D (va_A (colB I a x) sz) (fun _ => colB I a x)) (va_A (colB I a x) sz)) ([.ref a.1, .long p1] : List Value).toArray s 0 0 (va_A (colB I a x) sz)) (F0 m 59 ls [])) (n7 : Nat) (i3 : Int32) (i4 : Int64) (H : Heap) (locs : List Loc) (ls : Array Slot), va_P D vwCl (colB I a x) H → va_D (va_A (colB I a x) sz) (colB I a x) → va_S (va_A (colB I a x) sz) s.heap H locs → lv_has ls 5 [(3, .int i3), (1, .long i4), (0, .ref a.1)] → qX0_mixedLayers_L12 x K5 n7 i3 i4 → W p l e rX0_mixedLayers s m ([.ref a.1, .long p1] : List Value).toArray below meth c H locs 0 0 (MQ below (va_Ql (fun r (_ : Unit) => Q r) (mB D (va_A (colB I a x) sz) (fun _ => colB I a x)) (va_A (colB I a x) sz)) ([.ref a.1, .long p1] : List Value).toArray s 0 0 (va_A (colB I a x) sz)) (F0 m 12 ls []) := by
    intro K5 hx6 n7
    induction n7 with
    | zero =>
      intro i3 i4 H locs ls hP hD hS hl hw
      exact hw.elim
    | succ n7 ihn7 =>
      intro i3 i4 H locs ls hP hD hS hl hw
      unfold qX0_mixedLayers_L12 at hw
      refine lv_iload_n hx hb dX0_mixedLayers_12 rfl (lv_at hl 0 rfl) ?_
      refine lv_aload_n hx hb dX0_mixedLayers_13 rfl (lv_at hl 2 rfl) ?_
      refine va_get (ci := 0) (v := .int (zN x)) (C := RX0) (T := TX0) (N := 6) hx hb hts hiX0 hown hK.1 hP 0 rfl rfl 4 (by decide) f0 (fun _ h9 => h9) rfl dX0_mixedLayers_14 ?_
      refine lv_icmp_ge (tgt := 59) hx hb dX0_mixedLayers_17 (by decide) (fun c9 => ?_) (fun c9 => ?_)
      · have hw := hw.1 c9
        exact hx6 i3 i4 H locs ls hP hD hS (lv_sub hl [0, 1, 2] rfl) hw
      · have hw := hw.2 c9
        refine lv_aload_n hx hb dX0_mixedLayers_20 rfl (lv_at hl 2 rfl) ?_
        refine lv_iload_n hx hb dX0_mixedLayers_21 rfl (lv_at hl 0 rfl) ?_
        refine mw_i (mv_V (As := [.int i3]) (rest := []) ⟨hx, hb, hml, hown, hts⟩ (kX0_placeOfIndex l D I O a H.size x i3 _ hw) (cwV 1 hts gX0_mixedLayers_X0_placeOfIndex rfl rfl rfl hdVX0_placeOfIndex ⟨(Nat.le_of_ble_eq_true rfl), (Nat.le_of_ble_eq_true rfl)⟩) hK hP hD 0 0 rfl rfl rfl rfl hl.1 rfl (Nat.le_of_ble_eq_true rfl) dX0_mixedLayers_22 ⟨(Nat.le_of_ble_eq_true rfl), (Nat.le_of_ble_eq_true rfl)⟩) hP hD hS hA (fun r10 _ H locs hw hP hD hS => ?_)
        have hP : va_P D vwCl (colB I a x) H := hP
        have hD : va_D (va_A (colB I a x) sz) (colB I a x) := hD
        refine lv_istore (lv' := [(4, .int r10), (3, .int i3), (1, .long i4), (0, .ref a.1)]) hx hb dX0_mixedLayers_25 hl (by decide) rfl (fun ls hl => ?_)
        refine lv_lload_n hx hb dX0_mixedLayers_27 rfl (lv_at hl 2 rfl) ?_
        refine lv_aload_n hx hb dX0_mixedLayers_28 rfl (lv_at hl 3 rfl) ?_
        refine va_get (ci := 0) (v := .ref a.2.1) (C := RX0) (T := TX0) (N := 6) hx hb hts hiX0 hown hK.1 hP 0 rfl rfl 1 (by decide) f3 (fun _ h9 => h9) rfl dX0_mixedLayers_29 ?_
        refine lv_iload hx hb dX0_mixedLayers_32 (lv_at hl 0 rfl) ?_
        obtain ⟨h11, hw⟩ := hw
        refine va_iald hx hb hK.1 hP 1 0 rfl rfl h11 dX0_mixedLayers_34 ?_
        refine lv_i2l (v := Int32.toInt64 ((zV x) (Int32.toNatClampNeg r10))) hx hb dX0_mixedLayers_35 rfl ?_
        refine m0_l (mv_SN (As := [.long i4, .long (Int32.toInt64 ((zV x) (Int32.toNatClampNeg r10)))]) (rest := []) ⟨hx, hb, hml, hown, hts⟩ (kX2_mixed l D I O H.size i4 (Int32.toInt64 ((zV x) (Int32.toNatClampNeg r10))) _ hw) (va_cnB 2 hts gX0_mixedLayers_X2_mixed_n63 rfl rfl rfl hK.2.1 f1 hdSX2_mixed ⟨(Nat.le_of_ble_eq_true rfl), (Nat.le_of_ble_eq_true rfl)⟩) f2 hK (nil_P (D := D) (H := H)) (nil_D (A := va_A (colB I a x) sz)) rfl hl.1 rfl (Nat.le_of_ble_eq_true rfl) dX0_mixedLayers_36 ⟨(Nat.le_of_ble_eq_true rfl), (Nat.le_of_ble_eq_true rfl)⟩) hP hD hS hA (fun r12 _ H locs hw hP hD hS => ?_)
        refine lv_lstore_n (lv' := [(1, .long r12), (4, .int r10), (3, .int i3), (0, .ref a.1)]) hx hb dX0_mixedLayers_39 rfl hl (by decide) rfl (fun ls hl => ?_)
        refine lv_lload_n hx hb dX0_mixedLayers_40 rfl (lv_at hl 0 rfl) ?_
        refine lv_aload_n hx hb dX0_mixedLayers_41 rfl (lv_at hl 3 rfl) ?_
        refine va_get (ci := 0) (v := .ref a.2.2) (C := RX0) (T := TX0) (N := 6) hx hb hts hiX0 hown hK.1 hP 0 rfl rfl 2 (by decide) f4 (fun _ h9 => h9) rfl dX0_mixedLayers_42 ?_
        refine lv_iload hx hb dX0_mixedLayers_45 (lv_at hl 1 rfl) ?_
        obtain ⟨h13, hw⟩ := hw
        refine va_iald hx hb hK.1 hP 2 0 rfl rfl h13 dX0_mixedLayers_47 ?_
        refine lv_i2l (v := Int32.toInt64 ((zD x) (Int32.toNatClampNeg r10))) hx hb dX0_mixedLayers_48 rfl ?_
        refine m0_l (mv_SN (As := [.long r12, .long (Int32.toInt64 ((zD x) (Int32.toNatClampNeg r10)))]) (rest := []) ⟨hx, hb, hml, hown, hts⟩ (kX2_mixed l D I O H.size r12 (Int32.toInt64 ((zD x) (Int32.toNatClampNeg r10))) _ hw) (va_cnB 2 hts gX0_mixedLayers_X2_mixed_n63 rfl rfl rfl hK.2.1 f1 hdSX2_mixed ⟨(Nat.le_of_ble_eq_true rfl), (Nat.le_of_ble_eq_true rfl)⟩) f2 hK (nil_P (D := D) (H := H)) (nil_D (A := va_A (colB I a x) sz)) rfl hl.1 rfl (Nat.le_of_ble_eq_true rfl) dX0_mixedLayers_49 ⟨(Nat.le_of_ble_eq_true rfl), (Nat.le_of_ble_eq_true rfl)⟩) hP hD hS hA (fun r14 _ H locs hw hP hD hS => ?_)
        refine lv_lstore_n (lv' := [(1, .long r14), (4, .int r10), (3, .int i3), (0, .ref a.1)]) hx hb dX0_mixedLayers_52 rfl hl (by decide) rfl (fun ls hl => ?_)
        refine lv_iinc (v := i3 + 1) (lv' := [(3, .int (i3 + 1)), (1, .long r14), (4, .int r10), (0, .ref a.1)]) hx hb dX0_mixedLayers_53 hl (k := 2) rfl (congrArg (fun z => i3 + z) (show Int32.ofInt 1 = 1 from by decide)) (by decide) rfl (fun ls hl => ?_)
        refine lv_goto (tgt := 12) hx hb dX0_mixedLayers_56 (by decide) ?_
        exact ihn7 (i3 + 1) r14 H locs ls hP hD hS (lv_sub hl [0, 1, 3] rfl) hw
  refine ky8 _ (fun i3 i4 H locs ls hP hD hS hl hw => ?_) n2 0 r1 H locs ls hP hD hS (lv_sub hl [0, 1, 2] rfl) hw
  refine lv_lload_n hx hb dX0_mixedLayers_59 rfl (lv_at hl 1 rfl) ?_
  exact m_lret (u := ()) hx hb hr hlocks hS hP hD dX0_mixedLayers_60 hw
