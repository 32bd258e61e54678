def lq0 (L : Nat) (xs : Nat → Int32) (i : Int32) (x : Sys) (y : Mod) (K : Sys → Mod → Prop) : Prop := (vp_in (i + 1) L ∧ (vp_in (i + 2) L ∧ (vp_in (i + 3) L ∧ (vp_in (i + 4) L ∧ (qX2_setGeometry x (xs (Int32.toNatClampNeg (i + 1))) (xs (Int32.toNatClampNeg (i + 2))) (xs (Int32.toNatClampNeg (i + 3))) (xs (Int32.toNatClampNeg (i + 4))) (fun r5 u6 => (vp_in (i + 1) L ∧ (vp_in (i + 2) L ∧ (vp_in (i + 3) L ∧ (vp_in (i + 4) L ∧ (qX3_setGeometry y (xs (Int32.toNatClampNeg (i + 1))) (xs (Int32.toNatClampNeg (i + 2))) (xs (Int32.toNatClampNeg (i + 3))) (xs (Int32.toNatClampNeg (i + 4))) (fun r11 u12 => (r5 = r11 ∧ K u6 u12)))))))))))))
set_option maxHeartbeats 4000000 in
set_option maxRecDepth 100000 in
theorem lc0 {p : Program} {l : Launch} {e : Env} {s : State} {m : MethodId} {below : List Frame} {meth : Method} {c : Code} {D : va_G} {I O : ClassId} {b L : Nat} {xs : Nat → Int32} (C0 : lw_At p s m meth c b L xs) (hK : sK D I O s) (i : Int32) (K : Sys → Mod → Prop) (hk : ∀ (x : Sys) (y : Mod) (a2 : SA) (d2 : MA) (H : Heap) (locs : List Loc) (ls : Array Slot), va_P D vwCl (sysW I O a2 x ++ mdlW I d2 y) H → va_D (fun q : Nat => s.heap.size ≤ q) (sysW I O a2 x ++ mdlW I d2 y) → va_S (fun q : Nat => s.heap.size ≤ q) s.heap H locs → lv_has ls 4 [(0, .ref b), (1, .ref a2.1), (2, .ref d2.1), (3, .int i)] → K x y → W p l e room_1 s m #[Value.ref b] below meth c H locs 50 39149 (lw_Z below #[Value.ref b] s) (F0 m 748 ls [])) (x : Sys) (y : Mod) (a : SA) (d : MA) (H : Heap) (locs : List Loc) (ls : Array Slot) (hP : va_P D vwCl (sysW I O a x ++ mdlW I d y) H) (hD : va_D (fun q : Nat => s.heap.size ≤ q) (sysW I O a x ++ mdlW I d y)) (hS : va_S (fun q : Nat => s.heap.size ≤ q) s.heap H locs) (hl : lv_has ls 4 [(0, .ref b), (1, .ref a.1), (2, .ref d.1), (3, .int i)]) (hw : lq0 L xs i x y K) : W p l e room_1 s m #[Value.ref b] below meth c H locs 50 39149 (lw_Z below #[Value.ref b] s) (F0 m 156 ls []) := by
  obtain ⟨hx, hb, hr, hml, hown, hts0, hX, hbl, hlocks, hgv⟩ := C0
  have hts := fun w h => hts0 w (wsL_law_in w h)
  have hown : s.vm.findClass RL = some m.cls := hown
  have hA : ∀ q : Nat, s.heap.size ≤ q → (fun q : Nat => s.heap.size ≤ q) q := fun _ h => h
  have hbA : ¬ (fun q : Nat => s.heap.size ≤ q) b := Nat.not_le.mpr hbl
  unfold lq0 at hw
  refine lv_aload_n hx hb dL_law_156 rfl (lv_at hl 1 rfl) ?_
  refine lv_aload_n hx hb dL_law_157 rfl (lv_at hl 0 rfl) ?_
  refine lv_iload_n hx hb dL_law_158 rfl (lv_at hl 3 rfl) ?_
  refine lv_iconst (v := 1) hx hb dL_law_159 (by decide) ?_
  refine lv_iadd hx hb dL_law_160 ?_
  obtain ⟨h1, hw⟩ := hw
  refine va_sld hx hb hX hbl hbA hS h1 dL_law_161 ?_
  refine lv_aload_n hx hb dL_law_162 rfl (lv_at hl 0 rfl) ?_
  refine lv_iload_n hx hb dL_law_163 rfl (lv_at hl 3 rfl) ?_
  refine lv_iconst (v := 2) hx hb dL_law_164 (by decide) ?_
  refine lv_iadd hx hb dL_law_165 ?_
  obtain ⟨h2, hw⟩ := hw
  refine va_sld hx hb hX hbl hbA hS h2 dL_law_166 ?_
  refine lv_aload_n hx hb dL_law_167 rfl (lv_at hl 0 rfl) ?_
  refine lv_iload_n hx hb dL_law_168 rfl (lv_at hl 3 rfl) ?_
  refine lv_iconst (v := 3) hx hb dL_law_169 (by decide) ?_
  refine lv_iadd hx hb dL_law_170 ?_
  obtain ⟨h3, hw⟩ := hw
  refine va_sld hx hb hX hbl hbA hS h3 dL_law_171 ?_
  refine lv_aload_n hx hb dL_law_172 rfl (lv_at hl 0 rfl) ?_
  refine lv_iload_n hx hb dL_law_173 rfl (lv_at hl 3 rfl) ?_
  refine lv_iconst (v := 4) hx hb dL_law_174 (by decide) ?_
  refine lv_iadd hx hb dL_law_175 ?_
  obtain ⟨h4, hw⟩ := hw
  refine va_sld hx hb hX hbl hbA hS h4 dL_law_176 ?_
  have hPc := va_P.mid (X := []) (wc := sysW I O a x) (Y := mdlW I d y) hP
  have hDc := va_D.mid (X := []) (wc := sysW I O a x) (Y := mdlW I d y) hD
  refine mc_i ([]) (mdlW I d y) (mv_V (As := [.int (xs (Int32.toNatClampNeg (i + 1))), .int (xs (Int32.toNatClampNeg (i + 2))), .int (xs (Int32.toNatClampNeg (i + 3))), .int (xs (Int32.toNatClampNeg (i + 4)))]) (rest := []) ⟨hx, hb, hml, hown, hts⟩ (kX2_setGeometry l D I O a H.size x (xs (Int32.toNatClampNeg (i + 1))) (xs (Int32.toNatClampNeg (i + 2))) (xs (Int32.toNatClampNeg (i + 3))) (xs (Int32.toNatClampNeg (i + 4))) _ hw) (cwV 4 hts gL_law_X2_setGeometry rfl rfl rfl hdVX2_setGeometry ⟨(Nat.le_of_ble_eq_true rfl), (Nat.le_of_ble_eq_true rfl)⟩) hK hPc hDc 0 2 rfl rfl rfl rfl hl.1 rfl (Nat.le_of_ble_eq_true rfl) dL_law_177 ⟨(Nat.le_of_ble_eq_true rfl), (Nat.le_of_ble_eq_true rfl)⟩) hP hD hS hA (fun r5 u6 H locs hw hP hD hS => ?_)
  obtain ⟨du6, u6⟩ := u6
  have hP : va_P D vwCl (sysW I O (a.1, du6) u6 ++ mdlW I d y) H := hP
  have hD : va_D ((fun q : Nat => s.heap.size ≤ q)) (sysW I O (a.1, du6) u6 ++ mdlW I d y) := hD
  refine lv_aload_n hx hb dL_law_180 rfl (lv_at hl 2 rfl) ?_
  refine lv_aload_n hx hb dL_law_181 rfl (lv_at hl 0 rfl) ?_
  refine lv_iload_n hx hb dL_law_182 rfl (lv_at hl 3 rfl) ?_
  refine lv_iconst (v := 1) hx hb dL_law_183 (by decide) ?_
  refine lv_iadd hx hb dL_law_184 ?_
  obtain ⟨h7, hw⟩ := hw
  refine va_sld hx hb hX hbl hbA hS h7 dL_law_185 ?_
  refine lv_aload_n hx hb dL_law_186 rfl (lv_at hl 0 rfl) ?_
  refine lv_iload_n hx hb dL_law_187 rfl (lv_at hl 3 rfl) ?_
  refine lv_iconst (v := 2) hx hb dL_law_188 (by decide) ?_
  refine lv_iadd hx hb dL_law_189 ?_
  obtain ⟨h8, hw⟩ := hw
  refine va_sld hx hb hX hbl hbA hS h8 dL_law_190 ?_
  refine lv_aload_n hx hb dL_law_191 rfl (lv_at hl 0 rfl) ?_
  refine lv_iload_n hx hb dL_law_192 rfl (lv_at hl 3 rfl) ?_
  refine lv_iconst (v := 3) hx hb dL_law_193 (by decide) ?_
  refine lv_iadd hx hb dL_law_194 ?_
  obtain ⟨h9, hw⟩ := hw
  refine va_sld hx hb hX hbl hbA hS h9 dL_law_195 ?_
  refine lv_aload_n hx hb dL_law_196 rfl (lv_at hl 0 rfl) ?_
  refine lv_iload_n hx hb dL_law_197 rfl (lv_at hl 3 rfl) ?_
  refine lv_iconst (v := 4) hx hb dL_law_198 (by decide) ?_
  refine lv_iadd hx hb dL_law_199 ?_
  obtain ⟨h10, hw⟩ := hw
  refine va_sld hx hb hX hbl hbA hS h10 dL_law_200 ?_
  have hPc := va_P.mid (X := sysW I O (a.1, du6) u6) (wc := mdlW I d y) (Y := []) hP
  have hDc := va_D.mid (X := sysW I O (a.1, du6) u6) (wc := mdlW I d y) (Y := []) hD
  refine mc_i (sysW I O (a.1, du6) u6) ([]) (mv_V (As := [.int (xs (Int32.toNatClampNeg (i + 1))), .int (xs (Int32.toNatClampNeg (i + 2))), .int (xs (Int32.toNatClampNeg (i + 3))), .int (xs (Int32.toNatClampNeg (i + 4)))]) (rest := [.int r5]) ⟨hx, hb, hml, hown, hts⟩ (kX3_setGeometry l D I O d H.size y (xs (Int32.toNatClampNeg (i + 1))) (xs (Int32.toNatClampNeg (i + 2))) (xs (Int32.toNatClampNeg (i + 3))) (xs (Int32.toNatClampNeg (i + 4))) _ hw) (cwV 4 hts gL_law_X3_setGeometry rfl rfl rfl hdVX3_setGeometry ⟨(Nat.le_of_ble_eq_true rfl), (Nat.le_of_ble_eq_true rfl)⟩) hK hPc hDc 0 3 rfl rfl rfl rfl hl.1 rfl (Nat.le_of_ble_eq_true rfl) dL_law_201 ⟨(Nat.le_of_ble_eq_true rfl), (Nat.le_of_ble_eq_true rfl)⟩) hP hD hS hA (fun r11 u12 H locs hw hP hD hS => ?_)
  have hP : va_P D vwCl (sysW I O (a.1, du6) u6 ++ mdlW I d u12) H := hP
  have hD : va_D ((fun q : Nat => s.heap.size ≤ q)) (sysW I O (a.1, du6) u6 ++ mdlW I d u12) := hD
  obtain ⟨c13, hw⟩ := hw
  refine lv_icmp_eq (tgt := 748) hx hb dL_law_204 (by decide) (fun _ => ?_) (fun cz => absurd c13 cz)
  exact hk u6 u12 (a.1, du6) d H locs ls hP hD hS hl hw
def lq1 (L : Nat) (xs : Nat → Int32) (i : Int32) (x : Sys) (y : Mod) (K : Sys → Mod → Prop) : Prop := (vp_in (i + 1) L ∧ (qX2_setMud x (xs (Int32.toNatClampNeg (i + 1))) (fun r2 u3 => (vp_in (i + 1) L ∧ (qX3_setMud y (xs (Int32.toNatClampNeg (i + 1))) (fun r5 u6 => (r2 = r5 ∧ K u3 u6)))))))
set_option maxHeartbeats 4000000 in
set_option maxRecDepth 100000 in
theorem lc1 {p : Program} {l : Launch} {e : Env} {s : State} {m : MethodId} {below : List Frame} {meth : Method} {c : Code} {D : va_G} {I O : ClassId} {b L : Nat} {xs : Nat → Int32} (C0 : lw_At p s m meth c b L xs) (hK : sK D I O s) (i : Int32) (K : Sys → Mod → Prop) (hk : ∀ (x : Sys) (y : Mod) (a2 : SA) (d2 : MA) (H : Heap) (locs : List Loc) (ls : Array Slot), va_P D vwCl (sysW I O a2 x ++ mdlW I d2 y) H → va_D (fun q : Nat => s.heap.size ≤ q) (sysW I O a2 x ++ mdlW I d2 y) → va_S (fun q : Nat => s.heap.size ≤ q) s.heap H locs → lv_has ls 4 [(0, .ref b), (1, .ref a2.1), (2, .ref d2.1), (3, .int i)] → K x y → W p l e room_1 s m #[Value.ref b] below meth c H locs 50 39149 (lw_Z below #[Value.ref b] s) (F0 m 748 ls [])) (x : Sys) (y : Mod) (a : SA) (d : MA) (H : Heap) (locs : List Loc) (ls : Array Slot) (hP : va_P D vwCl (sysW I O a x ++ mdlW I d y) H) (hD : va_D (fun q : Nat => s.heap.size ≤ q) (sysW I O a x ++ mdlW I d y)) (hS : va_S (fun q : Nat => s.heap.size ≤ q) s.heap H locs) (hl : lv_has ls 4 [(0, .ref b), (1, .ref a.1), (2, .ref d.1), (3, .int i)]) (hw : lq1 L xs i x y K) : W p l e room_1 s m #[Value.ref b] below meth c H locs 50 39149 (lw_Z below #[Value.ref b] s) (F0 m 209 ls []) := by
  obtain ⟨hx, hb, hr, hml, hown, hts0, hX, hbl, hlocks, hgv⟩ := C0
  have hts := fun w h => hts0 w (wsL_law_in w h)
  have hown : s.vm.findClass RL = some m.cls := hown
  have hA : ∀ q : Nat, s.heap.size ≤ q → (fun q : Nat => s.heap.size ≤ q) q := fun _ h => h
  have hbA : ¬ (fun q : Nat => s.heap.size ≤ q) b := Nat.not_le.mpr hbl
  unfold lq1 at hw
  refine lv_aload_n hx hb dL_law_209 rfl (lv_at hl 1 rfl) ?_
  refine lv_aload_n hx hb dL_law_210 rfl (lv_at hl 0 rfl) ?_
  refine lv_iload_n hx hb dL_law_211 rfl (lv_at hl 3 rfl) ?_
  refine lv_iconst (v := 1) hx hb dL_law_212 (by decide) ?_
  refine lv_iadd hx hb dL_law_213 ?_
  obtain ⟨h1, hw⟩ := hw
  refine va_sld hx hb hX hbl hbA hS h1 dL_law_214 ?_
  have hPc := va_P.mid (X := []) (wc := sysW I O a x) (Y := mdlW I d y) hP
  have hDc := va_D.mid (X := []) (wc := sysW I O a x) (Y := mdlW I d y) hD
  refine mc_i ([]) (mdlW I d y) (mv_V (As := [.int (xs (Int32.toNatClampNeg (i + 1)))]) (rest := []) ⟨hx, hb, hml, hown, hts⟩ (kX2_setMud l D I O a H.size x (xs (Int32.toNatClampNeg (i + 1))) _ hw) (cwV 1 hts gL_law_X2_setMud rfl rfl rfl hdVX2_setMud ⟨(Nat.le_of_ble_eq_true rfl), (Nat.le_of_ble_eq_true rfl)⟩) hK hPc hDc 0 2 rfl rfl rfl rfl hl.1 rfl (Nat.le_of_ble_eq_true rfl) dL_law_215 ⟨(Nat.le_of_ble_eq_true rfl), (Nat.le_of_ble_eq_true rfl)⟩) hP hD hS hA (fun r2 u3 H locs hw hP hD hS => ?_)
  obtain ⟨du3, u3⟩ := u3
  have hP : va_P D vwCl (sysW I O (a.1, du3) u3 ++ mdlW I d y) H := hP
  have hD : va_D ((fun q : Nat => s.heap.size ≤ q)) (sysW I O (a.1, du3) u3 ++ mdlW I d y) := hD
  refine lv_aload_n hx hb dL_law_218 rfl (lv_at hl 2 rfl) ?_
  refine lv_aload_n hx hb dL_law_219 rfl (lv_at hl 0 rfl) ?_
  refine lv_iload_n hx hb dL_law_220 rfl (lv_at hl 3 rfl) ?_
  refine lv_iconst (v := 1) hx hb dL_law_221 (by decide) ?_
  refine lv_iadd hx hb dL_law_222 ?_
  obtain ⟨h4, hw⟩ := hw
  refine va_sld hx hb hX hbl hbA hS h4 dL_law_223 ?_
  have hPc := va_P.mid (X := sysW I O (a.1, du3) u3) (wc := mdlW I d y) (Y := []) hP
  have hDc := va_D.mid (X := sysW I O (a.1, du3) u3) (wc := mdlW I d y) (Y := []) hD
  refine mc_i (sysW I O (a.1, du3) u3) ([]) (mv_V (As := [.int (xs (Int32.toNatClampNeg (i + 1)))]) (rest := [.int r2]) ⟨hx, hb, hml, hown, hts⟩ (kX3_setMud l D I O d H.size y (xs (Int32.toNatClampNeg (i + 1))) _ hw) (cwV 1 hts gL_law_X3_setMud rfl rfl rfl hdVX3_setMud ⟨(Nat.le_of_ble_eq_true rfl), (Nat.le_of_ble_eq_true rfl)⟩) hK hPc hDc 0 3 rfl rfl rfl rfl hl.1 rfl (Nat.le_of_ble_eq_true rfl) dL_law_224 ⟨(Nat.le_of_ble_eq_true rfl), (Nat.le_of_ble_eq_true rfl)⟩) hP hD hS hA (fun r5 u6 H locs hw hP hD hS => ?_)
  have hP : va_P D vwCl (sysW I O (a.1, du3) u3 ++ mdlW I d u6) H := hP
  have hD : va_D ((fun q : Nat => s.heap.size ≤ q)) (sysW I O (a.1, du3) u3 ++ mdlW I d u6) := hD
  obtain ⟨c7, hw⟩ := hw
  refine lv_icmp_eq (tgt := 748) hx hb dL_law_227 (by decide) (fun _ => ?_) (fun cz => absurd c7 cz)
  exact hk u3 u6 (a.1, du3) d H locs ls hP hD hS hl hw
def lq2 (L : Nat) (xs : Nat → Int32) (i : Int32) (x : Sys) (y : Mod) (K : Sys → Mod → Prop) : Prop := (vp_in (i + 1) L ∧ (qX2_setFormation x (xs (Int32.toNatClampNeg (i + 1))) (fun r2 u3 => (vp_in (i + 1) L ∧ (qX3_setFormation y (xs (Int32.toNatClampNeg (i + 1))) (fun r5 u6 => (r2 = r5 ∧ K u3 u6)))))))
set_option maxHeartbeats 4000000 in
set_option maxRecDepth 100000 in
theorem lc2 {p : Program} {l : Launch} {e : Env} {s : State} {m : MethodId} {below : List Frame} {meth : Method} {c : Code} {D : va_G} {I O : ClassId} {b L : Nat} {xs : Nat → Int32} (C0 : lw_At p s m meth c b L xs) (hK : sK D I O s) (i : Int32) (K : Sys → Mod → Prop) (hk : ∀ (x : Sys) (y : Mod) (a2 : SA) (d2 : MA) (H : Heap) (locs : List Loc) (ls : Array Slot), va_P D vwCl (sysW I O a2 x ++ mdlW I d2 y) H → va_D (fun q : Nat => s.heap.size ≤ q) (sysW I O a2 x ++ mdlW I d2 y) → va_S (fun q : Nat => s.heap.size ≤ q) s.heap H locs → lv_has ls 4 [(0, .ref b), (1, .ref a2.1), (2, .ref d2.1), (3, .int i)] → K x y → W p l e room_1 s m #[Value.ref b] below meth c H locs 50 39149 (lw_Z below #[Value.ref b] s) (F0 m 748 ls [])) (x : Sys) (y : Mod) (a : SA) (d : MA) (H : Heap) (locs : List Loc) (ls : Array Slot) (hP : va_P D vwCl (sysW I O a x ++ mdlW I d y) H) (hD : va_D (fun q : Nat => s.heap.size ≤ q) (sysW I O a x ++ mdlW I d y)) (hS : va_S (fun q : Nat => s.heap.size ≤ q) s.heap H locs) (hl : lv_has ls 4 [(0, .ref b), (1, .ref a.1), (2, .ref d.1), (3, .int i)]) (hw : lq2 L xs i x y K) : W p l e room_1 s m #[Value.ref b] below meth c H locs 50 39149 (lw_Z below #[Value.ref b] s) (F0 m 232 ls []) := by
  obtain ⟨hx, hb, hr, hml, hown, hts0, hX, hbl, hlocks, hgv⟩ := C0
  have hts := fun w h => hts0 w (wsL_law_in w h)
  have hown : s.vm.findClass RL = some m.cls := hown
  have hA : ∀ q : Nat, s.heap.size ≤ q → (fun q : Nat => s.heap.size ≤ q) q := fun _ h => h
  have hbA : ¬ (fun q : Nat => s.heap.size ≤ q) b := Nat.not_le.mpr hbl
  unfold lq2 at hw
  refine lv_aload_n hx hb dL_law_232 rfl (lv_at hl 1 rfl) ?_
  refine lv_aload_n hx hb dL_law_233 rfl (lv_at hl 0 rfl) ?_
  refine lv_iload_n hx hb dL_law_234 rfl (lv_at hl 3 rfl) ?_
  refine lv_iconst (v := 1) hx hb dL_law_235 (by decide) ?_
  refine lv_iadd hx hb dL_law_236 ?_
  obtain ⟨h1, hw⟩ := hw
  refine va_sld hx hb hX hbl hbA hS h1 dL_law_237 ?_
  have hPc := va_P.mid (X := []) (wc := sysW I O a x) (Y := mdlW I d y) hP
  have hDc := va_D.mid (X := []) (wc := sysW I O a x) (Y := mdlW I d y) hD
  refine mc_i ([]) (mdlW I d y) (mv_V (As := [.int (xs (Int32.toNatClampNeg (i + 1)))]) (rest := []) ⟨hx, hb, hml, hown, hts⟩ (kX2_setFormation l D I O a H.size x (xs (Int32.toNatClampNeg (i + 1))) _ hw) (cwV 1 hts gL_law_X2_setFormation rfl rfl rfl hdVX2_setFormation ⟨(Nat.le_of_ble_eq_true rfl), (Nat.le_of_ble_eq_true rfl)⟩) hK hPc hDc 0 2 rfl rfl rfl rfl hl.1 rfl (Nat.le_of_ble_eq_true rfl) dL_law_238 ⟨(Nat.le_of_ble_eq_true rfl), (Nat.le_of_ble_eq_true rfl)⟩) hP hD hS hA (fun r2 u3 H locs hw hP hD hS => ?_)
  obtain ⟨du3, u3⟩ := u3
  have hP : va_P D vwCl (sysW I O (a.1, du3) u3 ++ mdlW I d y) H := hP
  have hD : va_D ((fun q : Nat => s.heap.size ≤ q)) (sysW I O (a.1, du3) u3 ++ mdlW I d y) := hD
  refine lv_aload_n hx hb dL_law_241 rfl (lv_at hl 2 rfl) ?_
  refine lv_aload_n hx hb dL_law_242 rfl (lv_at hl 0 rfl) ?_
  refine lv_iload_n hx hb dL_law_243 rfl (lv_at hl 3 rfl) ?_
  refine lv_iconst (v := 1) hx hb dL_law_244 (by decide) ?_
  refine lv_iadd hx hb dL_law_245 ?_
  obtain ⟨h4, hw⟩ := hw
  refine va_sld hx hb hX hbl hbA hS h4 dL_law_246 ?_
  have hPc := va_P.mid (X := sysW I O (a.1, du3) u3) (wc := mdlW I d y) (Y := []) hP
  have hDc := va_D.mid (X := sysW I O (a.1, du3) u3) (wc := mdlW I d y) (Y := []) hD
  refine mc_i (sysW I O (a.1, du3) u3) ([]) (mv_V (As := [.int (xs (Int32.toNatClampNeg (i + 1)))]) (rest := [.int r2]) ⟨hx, hb, hml, hown, hts⟩ (kX3_setFormation l D I O d H.size y (xs (Int32.toNatClampNeg (i + 1))) _ hw) (cwV 1 hts gL_law_X3_setFormation rfl rfl rfl hdVX3_setFormation ⟨(Nat.le_of_ble_eq_true rfl), (Nat.le_of_ble_eq_true rfl)⟩) hK hPc hDc 0 3 rfl rfl rfl rfl hl.1 rfl (Nat.le_of_ble_eq_true rfl) dL_law_247 ⟨(Nat.le_of_ble_eq_true rfl), (Nat.le_of_ble_eq_true rfl)⟩) hP hD hS hA (fun r5 u6 H locs hw hP hD hS => ?_)
  have hP : va_P D vwCl (sysW I O (a.1, du3) u3 ++ mdlW I d u6) H := hP
  have hD : va_D ((fun q : Nat => s.heap.size ≤ q)) (sysW I O (a.1, du3) u3 ++ mdlW I d u6) := hD
  obtain ⟨c7, hw⟩ := hw
  refine lv_icmp_eq (tgt := 748) hx hb dL_law_250 (by decide) (fun _ => ?_) (fun cz => absurd c7 cz)
  exact hk u3 u6 (a.1, du3) d H locs ls hP hD hS hl hw
def lq3 (L : Nat) (xs : Nat → Int32) (i : Int32) (x : Sys) (y : Mod) (K : Sys → Mod → Prop) : Prop := (vp_in (i + 1) L ∧ (qX2_setSlowPump x (xs (Int32.toNatClampNeg (i + 1))) (fun r2 u3 => (vp_in (i + 1) L ∧ (qX3_setSlowPump y (xs (Int32.toNatClampNeg (i + 1))) (fun r5 u6 => (r2 = r5 ∧ K u3 u6)))))))
set_option maxHeartbeats 4000000 in
set_option maxRecDepth 100000 in
theorem lc3 {p : Program} {l : Launch} {e : Env} {s : State} {m : MethodId} {below : List Frame} {meth : Method} {c : Code} {D : va_G} {I O : ClassId} {b L : Nat} {xs : Nat → Int32} (C0 : lw_At p s m meth c b L xs) (hK : sK D I O s) (i : Int32) (K : Sys → Mod → Prop) (hk : ∀ (x : Sys) (y : Mod) (a2 : SA) (d2 : MA) (H : Heap) (locs : List Loc) (ls : Array Slot), va_P D vwCl (sysW I O a2 x ++ mdlW I d2 y) H → va_D (fun q : Nat => s.heap.size ≤ q) (sysW I O a2 x ++ mdlW I d2 y) → va_S (fun q : Nat => s.heap.size ≤ q) s.heap H locs → lv_has ls 4 [(0, .ref b), (1, .ref a2.1), (2, .ref d2.1), (3, .int i)] → K x y → W p l e room_1 s m #[Value.ref b] below meth c H locs 50 39149 (lw_Z below #[Value.ref b] s) (F0 m 748 ls [])) (x : Sys) (y : Mod) (a : SA) (d : MA) (H : Heap) (locs : List Loc) (ls : Array Slot) (hP : va_P D vwCl (sysW I O a x ++ mdlW I d y) H) (hD : va_D (fun q : Nat => s.heap.size ≤ q) (sysW I O a x ++ mdlW I d y)) (hS : va_S (fun q : Nat => s.heap.size ≤ q) s.heap H locs) (hl : lv_has ls 4 [(0, .ref b), (1, .ref a.1), (2, .ref d.1), (3, .int i)]) (hw : lq3 L xs i x y K) : W p l e room_1 s m #[Value.ref b] below meth c H locs 50 39149 (lw_Z below #[Value.ref b] s) (F0 m 255 ls []) := by
  obtain ⟨hx, hb, hr, hml, hown, hts0, hX, hbl, hlocks, hgv⟩ := C0
  have hts := fun w h => hts0 w (wsL_law_in w h)
  have hown : s.vm.findClass RL = some m.cls := hown
  have hA : ∀ q : Nat, s.heap.size ≤ q → (fun q : Nat => s.heap.size ≤ q) q := fun _ h => h
  have hbA : ¬ (fun q : Nat => s.heap.size ≤ q) b := Nat.not_le.mpr hbl
  unfold lq3 at hw
  refine lv_aload_n hx hb dL_law_255 rfl (lv_at hl 1 rfl) ?_
  refine lv_aload_n hx hb dL_law_256 rfl (lv_at hl 0 rfl) ?_
  refine lv_iload_n hx hb dL_law_257 rfl (lv_at hl 3 rfl) ?_
  refine lv_iconst (v := 1) hx hb dL_law_258 (by decide) ?_
  refine lv_iadd hx hb dL_law_259 ?_
  obtain ⟨h1, hw⟩ := hw
  refine va_sld hx hb hX hbl hbA hS h1 dL_law_260 ?_
  have hPc := va_P.mid (X := []) (wc := sysW I O a x) (Y := mdlW I d y) hP
  have hDc := va_D.mid (X := []) (wc := sysW I O a x) (Y := mdlW I d y) hD
  refine mc_i ([]) (mdlW I d y) (mv_V (As := [.int (xs (Int32.toNatClampNeg (i + 1)))]) (rest := []) ⟨hx, hb, hml, hown, hts⟩ (kX2_setSlowPump l D I O a H.size x (xs (Int32.toNatClampNeg (i + 1))) _ hw) (cwV 1 hts gL_law_X2_setSlowPump rfl rfl rfl hdVX2_setSlowPump ⟨(Nat.le_of_ble_eq_true rfl), (Nat.le_of_ble_eq_true rfl)⟩) hK hPc hDc 0 2 rfl rfl rfl rfl hl.1 rfl (Nat.le_of_ble_eq_true rfl) dL_law_261 ⟨(Nat.le_of_ble_eq_true rfl), (Nat.le_of_ble_eq_true rfl)⟩) hP hD hS hA (fun r2 u3 H locs hw hP hD hS => ?_)
  obtain ⟨du3, u3⟩ := u3
  have hP : va_P D vwCl (sysW I O (a.1, du3) u3 ++ mdlW I d y) H := hP
  have hD : va_D ((fun q : Nat => s.heap.size ≤ q)) (sysW I O (a.1, du3) u3 ++ mdlW I d y) := hD
  refine lv_aload_n hx hb dL_law_264 rfl (lv_at hl 2 rfl) ?_
  refine lv_aload_n hx hb dL_law_265 rfl (lv_at hl 0 rfl) ?_
  refine lv_iload_n hx hb dL_law_266 rfl (lv_at hl 3 rfl) ?_
  refine lv_iconst (v := 1) hx hb dL_law_267 (by decide) ?_
  refine lv_iadd hx hb dL_law_268 ?_
  obtain ⟨h4, hw⟩ := hw
  refine va_sld hx hb hX hbl hbA hS h4 dL_law_269 ?_
  have hPc := va_P.mid (X := sysW I O (a.1, du3) u3) (wc := mdlW I d y) (Y := []) hP
  have hDc := va_D.mid (X := sysW I O (a.1, du3) u3) (wc := mdlW I d y) (Y := []) hD
  refine mc_i (sysW I O (a.1, du3) u3) ([]) (mv_V (As := [.int (xs (Int32.toNatClampNeg (i + 1)))]) (rest := [.int r2]) ⟨hx, hb, hml, hown, hts⟩ (kX3_setSlowPump l D I O d H.size y (xs (Int32.toNatClampNeg (i + 1))) _ hw) (cwV 1 hts gL_law_X3_setSlowPump rfl rfl rfl hdVX3_setSlowPump ⟨(Nat.le_of_ble_eq_true rfl), (Nat.le_of_ble_eq_true rfl)⟩) hK hPc hDc 0 3 rfl rfl rfl rfl hl.1 rfl (Nat.le_of_ble_eq_true rfl) dL_law_270 ⟨(Nat.le_of_ble_eq_true rfl), (Nat.le_of_ble_eq_true rfl)⟩) hP hD hS hA (fun r5 u6 H locs hw hP hD hS => ?_)
  have hP : va_P D vwCl (sysW I O (a.1, du3) u3 ++ mdlW I d u6) H := hP
  have hD : va_D ((fun q : Nat => s.heap.size ≤ q)) (sysW I O (a.1, du3) u3 ++ mdlW I d u6) := hD
  obtain ⟨c7, hw⟩ := hw
  refine lv_icmp_eq (tgt := 748) hx hb dL_law_273 (by decide) (fun _ => ?_) (fun cz => absurd c7 cz)
  exact hk u3 u6 (a.1, du3) d H locs ls hP hD hS hl hw
def lq4 (L : Nat) (xs : Nat → Int32) (i : Int32) (x : Sys) (y : Mod) (K : Sys → Mod → Prop) : Prop := (vp_in (i + 1) L ∧ (qX2_setFracture x (xs (Int32.toNatClampNeg (i + 1))) (fun r2 u3 => (vp_in (i + 1) L ∧ (qX3_setFracture y (xs (Int32.toNatClampNeg (i + 1))) (fun r5 u6 => (r2 = r5 ∧ K u3 u6)))))))
set_option maxHeartbeats 4000000 in
set_option maxRecDepth 100000 in
theorem lc4 {p : Program} {l : Launch} {e : Env} {s : State} {m : MethodId} {below : List Frame} {meth : Method} {c : Code} {D : va_G} {I O : ClassId} {b L : Nat} {xs : Nat → Int32} (C0 : lw_At p s m meth c b L xs) (hK : sK D I O s) (i : Int32) (K : Sys → Mod → Prop) (hk : ∀ (x : Sys) (y : Mod) (a2 : SA) (d2 : MA) (H : Heap) (locs : List Loc) (ls : Array Slot), va_P D vwCl (sysW I O a2 x ++ mdlW I d2 y) H → va_D (fun q : Nat => s.heap.size ≤ q) (sysW I O a2 x ++ mdlW I d2 y) → va_S (fun q : Nat => s.heap.size ≤ q) s.heap H locs → lv_has ls 4 [(0, .ref b), (1, .ref a2.1), (2, .ref d2.1), (3, .int i)] → K x y → W p l e room_1 s m #[Value.ref b] below meth c H locs 50 39149 (lw_Z below #[Value.ref b] s) (F0 m 748 ls [])) (x : Sys) (y : Mod) (a : SA) (d : MA) (H : Heap) (locs : List Loc) (ls : Array Slot) (hP : va_P D vwCl (sysW I O a x ++ mdlW I d y) H) (hD : va_D (fun q : Nat => s.heap.size ≤ q) (sysW I O a x ++ mdlW I d y)) (hS : va_S (fun q : Nat => s.heap.size ≤ q) s.heap H locs) (hl : lv_has ls 4 [(0, .ref b), (1, .ref a.1), (2, .ref d.1), (3, .int i)]) (hw : lq4 L xs i x y K) : W p l e room_1 s m #[Value.ref b] below meth c H locs 50 39149 (lw_Z below #[Value.ref b] s) (F0 m 278 ls []) := by
  obtain ⟨hx, hb, hr, hml, hown, hts0, hX, hbl, hlocks, hgv⟩ := C0
  have hts := fun w h => hts0 w (wsL_law_in w h)
  have hown : s.vm.findClass RL = some m.cls := hown
  have hA : ∀ q : Nat, s.heap.size ≤ q → (fun q : Nat => s.heap.size ≤ q) q := fun _ h => h
  have hbA : ¬ (fun q : Nat => s.heap.size ≤ q) b := Nat.not_le.mpr hbl
  unfold lq4 at hw
  refine lv_aload_n hx hb dL_law_278 rfl (lv_at hl 1 rfl) ?_
  refine lv_aload_n hx hb dL_law_279 rfl (lv_at hl 0 rfl) ?_
  refine lv_iload_n hx hb dL_law_280 rfl (lv_at hl 3 rfl) ?_
  refine lv_iconst (v := 1) hx hb dL_law_281 (by decide) ?_
  refine lv_iadd hx hb dL_law_282 ?_
  obtain ⟨h1, hw⟩ := hw
  refine va_sld hx hb hX hbl hbA hS h1 dL_law_283 ?_
  have hPc := va_P.mid (X := []) (wc := sysW I O a x) (Y := mdlW I d y) hP
  have hDc := va_D.mid (X := []) (wc := sysW I O a x) (Y := mdlW I d y) hD
  refine mc_i ([]) (mdlW I d y) (mv_V (As := [.int (xs (Int32.toNatClampNeg (i + 1)))]) (rest := []) ⟨hx, hb, hml, hown, hts⟩ (kX2_setFracture l D I O a H.size x (xs (Int32.toNatClampNeg (i + 1))) _ hw) (cwV 1 hts gL_law_X2_setFracture rfl rfl rfl hdVX2_setFracture ⟨(Nat.le_of_ble_eq_true rfl), (Nat.le_of_ble_eq_true rfl)⟩) hK hPc hDc 0 2 rfl rfl rfl rfl hl.1 rfl (Nat.le_of_ble_eq_true rfl) dL_law_284 ⟨(Nat.le_of_ble_eq_true rfl), (Nat.le_of_ble_eq_true rfl)⟩) hP hD hS hA (fun r2 u3 H locs hw hP hD hS => ?_)
  obtain ⟨du3, u3⟩ := u3
  have hP : va_P D vwCl (sysW I O (a.1, du3) u3 ++ mdlW I d y) H := hP
  have hD : va_D ((fun q : Nat => s.heap.size ≤ q)) (sysW I O (a.1, du3) u3 ++ mdlW I d y) := hD
  refine lv_aload_n hx hb dL_law_287 rfl (lv_at hl 2 rfl) ?_
  refine lv_aload_n hx hb dL_law_288 rfl (lv_at hl 0 rfl) ?_
  refine lv_iload_n hx hb dL_law_289 rfl (lv_at hl 3 rfl) ?_
  refine lv_iconst (v := 1) hx hb dL_law_290 (by decide) ?_
  refine lv_iadd hx hb dL_law_291 ?_
  obtain ⟨h4, hw⟩ := hw
  refine va_sld hx hb hX hbl hbA hS h4 dL_law_292 ?_
  have hPc := va_P.mid (X := sysW I O (a.1, du3) u3) (wc := mdlW I d y) (Y := []) hP
  have hDc := va_D.mid (X := sysW I O (a.1, du3) u3) (wc := mdlW I d y) (Y := []) hD
  refine mc_i (sysW I O (a.1, du3) u3) ([]) (mv_V (As := [.int (xs (Int32.toNatClampNeg (i + 1)))]) (rest := [.int r2]) ⟨hx, hb, hml, hown, hts⟩ (kX3_setFracture l D I O d H.size y (xs (Int32.toNatClampNeg (i + 1))) _ hw) (cwV 1 hts gL_law_X3_setFracture rfl rfl rfl hdVX3_setFracture ⟨(Nat.le_of_ble_eq_true rfl), (Nat.le_of_ble_eq_true rfl)⟩) hK hPc hDc 0 3 rfl rfl rfl rfl hl.1 rfl (Nat.le_of_ble_eq_true rfl) dL_law_293 ⟨(Nat.le_of_ble_eq_true rfl), (Nat.le_of_ble_eq_true rfl)⟩) hP hD hS hA (fun r5 u6 H locs hw hP hD hS => ?_)
  have hP : va_P D vwCl (sysW I O (a.1, du3) u3 ++ mdlW I d u6) H := hP
  have hD : va_D ((fun q : Nat => s.heap.size ≤ q)) (sysW I O (a.1, du3) u3 ++ mdlW I d u6) := hD
  obtain ⟨c7, hw⟩ := hw
  refine lv_icmp_eq (tgt := 748) hx hb dL_law_296 (by decide) (fun _ => ?_) (fun cz => absurd c7 cz)
  exact hk u3 u6 (a.1, du3) d H locs ls hP hD hS hl hw
def lq5 (L : Nat) (xs : Nat → Int32) (i : Int32) (x : Sys) (y : Mod) (K : Sys → Mod → Prop) : Prop := (vp_in (i + 1) L ∧ (qX2_pump x (xs (Int32.toNatClampNeg (i + 1))) (fun r2 u3 => (vp_in (i + 1) L ∧ (qX3_pump y (xs (Int32.toNatClampNeg (i + 1))) (fun r5 u6 => (r2 = r5 ∧ K u3 u6)))))))
set_option maxHeartbeats 4000000 in
set_option maxRecDepth 100000 in
theorem lc5 {p : Program} {l : Launch} {e : Env} {s : State} {m : MethodId} {below : List Frame} {meth : Method} {c : Code} {D : va_G} {I O : ClassId} {b L : Nat} {xs : Nat → Int32} (C0 : lw_At p s m meth c b L xs) (hK : sK D I O s) (i : Int32) (K : Sys → Mod → Prop) (hk : ∀ (x : Sys) (y : Mod) (a2 : SA) (d2 : MA) (H : Heap) (locs : List Loc) (ls : Array Slot), va_P D vwCl (sysW I O a2 x ++ mdlW I d2 y) H → va_D (fun q : Nat => s.heap.size ≤ q) (sysW I O a2 x ++ mdlW I d2 y) → va_S (fun q : Nat => s.heap.size ≤ q) s.heap H locs → lv_has ls 4 [(0, .ref b), (1, .ref a2.1), (2, .ref d2.1), (3, .int i)] → K x y → W p l e room_1 s m #[Value.ref b] below meth c H locs 50 39149 (lw_Z below #[Value.ref b] s) (F0 m 748 ls [])) (x : Sys) (y : Mod) (a : SA) (d : MA) (H : Heap) (locs : List Loc) (ls : Array Slot) (hP : va_P D vwCl (sysW I O a x ++ mdlW I d y) H) (hD : va_D (fun q : Nat => s.heap.size ≤ q) (sysW I O a x ++ mdlW I d y)) (hS : va_S (fun q : Nat => s.heap.size ≤ q) s.heap H locs) (hl : lv_has ls 4 [(0, .ref b), (1, .ref a.1), (2, .ref d.1), (3, .int i)]) (hw : lq5 L xs i x y K) : W p l e room_1 s m #[Value.ref b] below meth c H locs 50 39149 (lw_Z below #[Value.ref b] s) (F0 m 301 ls []) := by
  obtain ⟨hx, hb, hr, hml, hown, hts0, hX, hbl, hlocks, hgv⟩ := C0
  have hts := fun w h => hts0 w (wsL_law_in w h)
  have hown : s.vm.findClass RL = some m.cls := hown
  have hA : ∀ q : Nat, s.heap.size ≤ q → (fun q : Nat => s.heap.size ≤ q) q := fun _ h => h
  have hbA : ¬ (fun q : Nat => s.heap.size ≤ q) b := Nat.not_le.mpr hbl
  unfold lq5 at hw
  refine lv_aload_n hx hb dL_law_301 rfl (lv_at hl 1 rfl) ?_
  refine lv_aload_n hx hb dL_law_302 rfl (lv_at hl 0 rfl) ?_
  refine lv_iload_n hx hb dL_law_303 rfl (lv_at hl 3 rfl) ?_
  refine lv_iconst (v := 1) hx hb dL_law_304 (by decide) ?_
  refine lv_iadd hx hb dL_law_305 ?_
  obtain ⟨h1, hw⟩ := hw
  refine va_sld hx hb hX hbl hbA hS h1 dL_law_306 ?_
  have hPc := va_P.mid (X := []) (wc := sysW I O a x) (Y := mdlW I d y) hP
  have hDc := va_D.mid (X := []) (wc := sysW I O a x) (Y := mdlW I d y) hD
  refine mc_i ([]) (mdlW I d y) (mv_V (As := [.int (xs (Int32.toNatClampNeg (i + 1)))]) (rest := []) ⟨hx, hb, hml, hown, hts⟩ (kX2_pump l D I O a H.size x (xs (Int32.toNatClampNeg (i + 1))) _ hw) (cwV 1 hts gL_law_X2_pump rfl rfl rfl hdVX2_pump ⟨(Nat.le_of_ble_eq_true rfl), (Nat.le_of_ble_eq_true rfl)⟩) hK hPc hDc 0 2 rfl rfl rfl rfl hl.1 rfl (Nat.le_of_ble_eq_true rfl) dL_law_307 ⟨(Nat.le_of_ble_eq_true rfl), (Nat.le_of_ble_eq_true rfl)⟩) hP hD hS hA (fun r2 u3 H locs hw hP hD hS => ?_)
  obtain ⟨du3, u3⟩ := u3
  have hP : va_P D vwCl (sysW I O (a.1, du3) u3 ++ mdlW I d y) H := hP
  have hD : va_D ((fun q : Nat => s.heap.size ≤ q)) (sysW I O (a.1, du3) u3 ++ mdlW I d y) := hD
  refine lv_aload_n hx hb dL_law_310 rfl (lv_at hl 2 rfl) ?_
  refine lv_aload_n hx hb dL_law_311 rfl (lv_at hl 0 rfl) ?_
  refine lv_iload_n hx hb dL_law_312 rfl (lv_at hl 3 rfl) ?_
  refine lv_iconst (v := 1) hx hb dL_law_313 (by decide) ?_
  refine lv_iadd hx hb dL_law_314 ?_
  obtain ⟨h4, hw⟩ := hw
  refine va_sld hx hb hX hbl hbA hS h4 dL_law_315 ?_
  have hPc := va_P.mid (X := sysW I O (a.1, du3) u3) (wc := mdlW I d y) (Y := []) hP
  have hDc := va_D.mid (X := sysW I O (a.1, du3) u3) (wc := mdlW I d y) (Y := []) hD
  refine mc_i (sysW I O (a.1, du3) u3) ([]) (mv_V (As := [.int (xs (Int32.toNatClampNeg (i + 1)))]) (rest := [.int r2]) ⟨hx, hb, hml, hown, hts⟩ (kX3_pump l D I O d H.size y (xs (Int32.toNatClampNeg (i + 1))) _ hw) (cwV 1 hts gL_law_X3_pump rfl rfl rfl hdVX3_pump ⟨(Nat.le_of_ble_eq_true rfl), (Nat.le_of_ble_eq_true rfl)⟩) hK hPc hDc 0 3 rfl rfl rfl rfl hl.1 rfl (Nat.le_of_ble_eq_true rfl) dL_law_316 ⟨(Nat.le_of_ble_eq_true rfl), (Nat.le_of_ble_eq_true rfl)⟩) hP hD hS hA (fun r5 u6 H locs hw hP hD hS => ?_)
  have hP : va_P D vwCl (sysW I O (a.1, du3) u3 ++ mdlW I d u6) H := hP
  have hD : va_D ((fun q : Nat => s.heap.size ≤ q)) (sysW I O (a.1, du3) u3 ++ mdlW I d u6) := hD
  obtain ⟨c7, hw⟩ := hw
  refine lv_icmp_eq (tgt := 748) hx hb dL_law_319 (by decide) (fun _ => ?_) (fun cz => absurd c7 cz)
  exact hk u3 u6 (a.1, du3) d H locs ls hP hD hS hl hw
def lq6 (L : Nat) (xs : Nat → Int32) (i : Int32) (x : Sys) (y : Mod) (K : Sys → Mod → Prop) : Prop := (vp_in (i + 1) L ∧ (vp_in (i + 2) L ∧ (qX2_influx x (xs (Int32.toNatClampNeg (i + 1))) (xs (Int32.toNatClampNeg (i + 2))) (fun r3 u4 => (vp_in (i + 1) L ∧ (vp_in (i + 2) L ∧ (qX3_influx y (xs (Int32.toNatClampNeg (i + 1))) (xs (Int32.toNatClampNeg (i + 2))) (fun r7 u8 => (r3 = r7 ∧ K u4 u8)))))))))
set_option maxHeartbeats 4000000 in
set_option maxRecDepth 100000 in
theorem lc6 {p : Program} {l : Launch} {e : Env} {s : State} {m : MethodId} {below : List Frame} {meth : Method} {c : Code} {D : va_G} {I O : ClassId} {b L : Nat} {xs : Nat → Int32} (C0 : lw_At p s m meth c b L xs) (hK : sK D I O s) (i : Int32) (K : Sys → Mod → Prop) (hk : ∀ (x : Sys) (y : Mod) (a2 : SA) (d2 : MA) (H : Heap) (locs : List Loc) (ls : Array Slot), va_P D vwCl (sysW I O a2 x ++ mdlW I d2 y) H → va_D (fun q : Nat => s.heap.size ≤ q) (sysW I O a2 x ++ mdlW I d2 y) → va_S (fun q : Nat => s.heap.size ≤ q) s.heap H locs → lv_has ls 4 [(0, .ref b), (1, .ref a2.1), (2, .ref d2.1), (3, .int i)] → K x y → W p l e room_1 s m #[Value.ref b] below meth c H locs 50 39149 (lw_Z below #[Value.ref b] s) (F0 m 748 ls [])) (x : Sys) (y : Mod) (a : SA) (d : MA) (H : Heap) (locs : List Loc) (ls : Array Slot) (hP : va_P D vwCl (sysW I O a x ++ mdlW I d y) H) (hD : va_D (fun q : Nat => s.heap.size ≤ q) (sysW I O a x ++ mdlW I d y)) (hS : va_S (fun q : Nat => s.heap.size ≤ q) s.heap H locs) (hl : lv_has ls 4 [(0, .ref b), (1, .ref a.1), (2, .ref d.1), (3, .int i)]) (hw : lq6 L xs i x y K) : W p l e room_1 s m #[Value.ref b] below meth c H locs 50 39149 (lw_Z below #[Value.ref b] s) (F0 m 324 ls []) := by
  obtain ⟨hx, hb, hr, hml, hown, hts0, hX, hbl, hlocks, hgv⟩ := C0
  have hts := fun w h => hts0 w (wsL_law_in w h)
  have hown : s.vm.findClass RL = some m.cls := hown
  have hA : ∀ q : Nat, s.heap.size ≤ q → (fun q : Nat => s.heap.size ≤ q) q := fun _ h => h
  have hbA : ¬ (fun q : Nat => s.heap.size ≤ q) b := Nat.not_le.mpr hbl
  unfold lq6 at hw
  refine lv_aload_n hx hb dL_law_324 rfl (lv_at hl 1 rfl) ?_
  refine lv_aload_n hx hb dL_law_325 rfl (lv_at hl 0 rfl) ?_
  refine lv_iload_n hx hb dL_law_326 rfl (lv_at hl 3 rfl) ?_
  refine lv_iconst (v := 1) hx hb dL_law_327 (by decide) ?_
  refine lv_iadd hx hb dL_law_328 ?_
  obtain ⟨h1, hw⟩ := hw
  refine va_sld hx hb hX hbl hbA hS h1 dL_law_329 ?_
  refine lv_aload_n hx hb dL_law_330 rfl (lv_at hl 0 rfl) ?_
  refine lv_iload_n hx hb dL_law_331 rfl (lv_at hl 3 rfl) ?_
  refine lv_iconst (v := 2) hx hb dL_law_332 (by decide) ?_
  refine lv_iadd hx hb dL_law_333 ?_
  obtain ⟨h2, hw⟩ := hw
  refine va_sld hx hb hX hbl hbA hS h2 dL_law_334 ?_
  have hPc := va_P.mid (X := []) (wc := sysW I O a x) (Y := mdlW I d y) hP
  have hDc := va_D.mid (X := []) (wc := sysW I O a x) (Y := mdlW I d y) hD
  refine mc_i ([]) (mdlW I d y) (mv_V (As := [.int (xs (Int32.toNatClampNeg (i + 1))), .int (xs (Int32.toNatClampNeg (i + 2)))]) (rest := []) ⟨hx, hb, hml, hown, hts⟩ (kX2_influx l D I O a H.size x (xs (Int32.toNatClampNeg (i + 1))) (xs (Int32.toNatClampNeg (i + 2))) _ hw) (cwV 2 hts gL_law_X2_influx rfl rfl rfl hdVX2_influx ⟨(Nat.le_of_ble_eq_true rfl), (Nat.le_of_ble_eq_true rfl)⟩) hK hPc hDc 0 2 rfl rfl rfl rfl hl.1 rfl (Nat.le_of_ble_eq_true rfl) dL_law_335 ⟨(Nat.le_of_ble_eq_true rfl), (Nat.le_of_ble_eq_true rfl)⟩) hP hD hS hA (fun r3 u4 H locs hw hP hD hS => ?_)
  obtain ⟨du4, u4⟩ := u4
  have hP : va_P D vwCl (sysW I O (a.1, du4) u4 ++ mdlW I d y) H := hP
  have hD : va_D ((fun q : Nat => s.heap.size ≤ q)) (sysW I O (a.1, du4) u4 ++ mdlW I d y) := hD
  refine lv_aload_n hx hb dL_law_338 rfl (lv_at hl 2 rfl) ?_
  refine lv_aload_n hx hb dL_law_339 rfl (lv_at hl 0 rfl) ?_
  refine lv_iload_n hx hb dL_law_340 rfl (lv_at hl 3 rfl) ?_
  refine lv_iconst (v := 1) hx hb dL_law_341 (by decide) ?_
  refine lv_iadd hx hb dL_law_342 ?_
  obtain ⟨h5, hw⟩ := hw
  refine va_sld hx hb hX hbl hbA hS h5 dL_law_343 ?_
  refine lv_aload_n hx hb dL_law_344 rfl (lv_at hl 0 rfl) ?_
  refine lv_iload_n hx hb dL_law_345 rfl (lv_at hl 3 rfl) ?_
  refine lv_iconst (v := 2) hx hb dL_law_346 (by decide) ?_
  refine lv_iadd hx hb dL_law_347 ?_
  obtain ⟨h6, hw⟩ := hw
  refine va_sld hx hb hX hbl hbA hS h6 dL_law_348 ?_
  have hPc := va_P.mid (X := sysW I O (a.1, du4) u4) (wc := mdlW I d y) (Y := []) hP
  have hDc := va_D.mid (X := sysW I O (a.1, du4) u4) (wc := mdlW I d y) (Y := []) hD
  refine mc_i (sysW I O (a.1, du4) u4) ([]) (mv_V (As := [.int (xs (Int32.toNatClampNeg (i + 1))), .int (xs (Int32.toNatClampNeg (i + 2)))]) (rest := [.int r3]) ⟨hx, hb, hml, hown, hts⟩ (kX3_influx l D I O d H.size y (xs (Int32.toNatClampNeg (i + 1))) (xs (Int32.toNatClampNeg (i + 2))) _ hw) (cwV 2 hts gL_law_X3_influx rfl rfl rfl hdVX3_influx ⟨(Nat.le_of_ble_eq_true rfl), (Nat.le_of_ble_eq_true rfl)⟩) hK hPc hDc 0 3 rfl rfl rfl rfl hl.1 rfl (Nat.le_of_ble_eq_true rfl) dL_law_349 ⟨(Nat.le_of_ble_eq_true rfl), (Nat.le_of_ble_eq_true rfl)⟩) hP hD hS hA (fun r7 u8 H locs hw hP hD hS => ?_)
  have hP : va_P D vwCl (sysW I O (a.1, du4) u4 ++ mdlW I d u8) H := hP
  have hD : va_D ((fun q : Nat => s.heap.size ≤ q)) (sysW I O (a.1, du4) u4 ++ mdlW I d u8) := hD
  obtain ⟨c9, hw⟩ := hw
  refine lv_icmp_eq (tgt := 748) hx hb dL_law_352 (by decide) (fun _ => ?_) (fun cz => absurd c9 cz)
  exact hk u4 u8 (a.1, du4) d H locs ls hP hD hS hl hw
def lq7 (L : Nat) (xs : Nat → Int32) (i : Int32) (x : Sys) (y : Mod) (K : Sys → Mod → Prop) : Prop := (vp_in (i + 1) L ∧ (qX2_hydrostatic x (xs (Int32.toNatClampNeg (i + 1))) (fun r2 u3 => (vp_in (i + 1) L ∧ (qX3_hydrostatic y (xs (Int32.toNatClampNeg (i + 1))) (fun r5 u6 => (r2 = r5 ∧ K u3 u6)))))))
set_option maxHeartbeats 4000000 in
set_option maxRecDepth 100000 in
theorem lc7 {p : Program} {l : Launch} {e : Env} {s : State} {m : MethodId} {below : List Frame} {meth : Method} {c : Code} {D : va_G} {I O : ClassId} {b L : Nat} {xs : Nat → Int32} (C0 : lw_At p s m meth c b L xs) (hK : sK D I O s) (i : Int32) (K : Sys → Mod → Prop) (hk : ∀ (x : Sys) (y : Mod) (a2 : SA) (d2 : MA) (H : Heap) (locs : List Loc) (ls : Array Slot), va_P D vwCl (sysW I O a2 x ++ mdlW I d2 y) H → va_D (fun q : Nat => s.heap.size ≤ q) (sysW I O a2 x ++ mdlW I d2 y) → va_S (fun q : Nat => s.heap.size ≤ q) s.heap H locs → lv_has ls 4 [(0, .ref b), (1, .ref a2.1), (2, .ref d2.1), (3, .int i)] → K x y → W p l e room_1 s m #[Value.ref b] below meth c H locs 50 39149 (lw_Z below #[Value.ref b] s) (F0 m 748 ls [])) (x : Sys) (y : Mod) (a : SA) (d : MA) (H : Heap) (locs : List Loc) (ls : Array Slot) (hP : va_P D vwCl (sysW I O a x ++ mdlW I d y) H) (hD : va_D (fun q : Nat => s.heap.size ≤ q) (sysW I O a x ++ mdlW I d y)) (hS : va_S (fun q : Nat => s.heap.size ≤ q) s.heap H locs) (hl : lv_has ls 4 [(0, .ref b), (1, .ref a.1), (2, .ref d.1), (3, .int i)]) (hw : lq7 L xs i x y K) : W p l e room_1 s m #[Value.ref b] below meth c H locs 50 39149 (lw_Z below #[Value.ref b] s) (F0 m 357 ls []) := by
  obtain ⟨hx, hb, hr, hml, hown, hts0, hX, hbl, hlocks, hgv⟩ := C0
  have hts := fun w h => hts0 w (wsL_law_in w h)
  have hown : s.vm.findClass RL = some m.cls := hown
  have hA : ∀ q : Nat, s.heap.size ≤ q → (fun q : Nat => s.heap.size ≤ q) q := fun _ h => h
  have hbA : ¬ (fun q : Nat => s.heap.size ≤ q) b := Nat.not_le.mpr hbl
  unfold lq7 at hw
  refine lv_aload_n hx hb dL_law_357 rfl (lv_at hl 1 rfl) ?_
  refine lv_aload_n hx hb dL_law_358 rfl (lv_at hl 0 rfl) ?_
  refine lv_iload_n hx hb dL_law_359 rfl (lv_at hl 3 rfl) ?_
  refine lv_iconst (v := 1) hx hb dL_law_360 (by decide) ?_
  refine lv_iadd hx hb dL_law_361 ?_
  obtain ⟨h1, hw⟩ := hw
  refine va_sld hx hb hX hbl hbA hS h1 dL_law_362 ?_
  have hPc := va_P.mid (X := []) (wc := sysW I O a x) (Y := mdlW I d y) hP
  have hDc := va_D.mid (X := []) (wc := sysW I O a x) (Y := mdlW I d y) hD
  refine mc_i ([]) (mdlW I d y) (mv_V (As := [.int (xs (Int32.toNatClampNeg (i + 1)))]) (rest := []) ⟨hx, hb, hml, hown, hts⟩ (kX2_hydrostatic l D I O a H.size x (xs (Int32.toNatClampNeg (i + 1))) _ hw) (cwV 1 hts gL_law_X2_hydrostatic rfl rfl rfl hdVX2_hydrostatic ⟨(Nat.le_of_ble_eq_true rfl), (Nat.le_of_ble_eq_true rfl)⟩) hK hPc hDc 0 2 rfl rfl rfl rfl hl.1 rfl (Nat.le_of_ble_eq_true rfl) dL_law_363 ⟨(Nat.le_of_ble_eq_true rfl), (Nat.le_of_ble_eq_true rfl)⟩) hP hD hS hA (fun r2 u3 H locs hw hP hD hS => ?_)
  have hP : va_P D vwCl (sysW I O a u3 ++ mdlW I d y) H := hP
  have hD : va_D ((fun q : Nat => s.heap.size ≤ q)) (sysW I O a u3 ++ mdlW I d y) := hD
  refine lv_aload_n hx hb dL_law_366 rfl (lv_at hl 2 rfl) ?_
  refine lv_aload_n hx hb dL_law_367 rfl (lv_at hl 0 rfl) ?_
  refine lv_iload_n hx hb dL_law_368 rfl (lv_at hl 3 rfl) ?_
  refine lv_iconst (v := 1) hx hb dL_law_369 (by decide) ?_
  refine lv_iadd hx hb dL_law_370 ?_
  obtain ⟨h4, hw⟩ := hw
  refine va_sld hx hb hX hbl hbA hS h4 dL_law_371 ?_
  have hPc := va_P.mid (X := sysW I O a u3) (wc := mdlW I d y) (Y := []) hP
  have hDc := va_D.mid (X := sysW I O a u3) (wc := mdlW I d y) (Y := []) hD
  refine mc_i (sysW I O a u3) ([]) (mv_V (As := [.int (xs (Int32.toNatClampNeg (i + 1)))]) (rest := [.int r2]) ⟨hx, hb, hml, hown, hts⟩ (kX3_hydrostatic l D I O d H.size y (xs (Int32.toNatClampNeg (i + 1))) _ hw) (cwV 1 hts gL_law_X3_hydrostatic rfl rfl rfl hdVX3_hydrostatic ⟨(Nat.le_of_ble_eq_true rfl), (Nat.le_of_ble_eq_true rfl)⟩) hK hPc hDc 0 3 rfl rfl rfl rfl hl.1 rfl (Nat.le_of_ble_eq_true rfl) dL_law_372 ⟨(Nat.le_of_ble_eq_true rfl), (Nat.le_of_ble_eq_true rfl)⟩) hP hD hS hA (fun r5 u6 H locs hw hP hD hS => ?_)
  have hP : va_P D vwCl (sysW I O a u3 ++ mdlW I d u6) H := hP
  have hD : va_D ((fun q : Nat => s.heap.size ≤ q)) (sysW I O a u3 ++ mdlW I d u6) := hD
  obtain ⟨c7, hw⟩ := hw
  refine lv_icmp_eq (tgt := 748) hx hb dL_law_375 (by decide) (fun _ => ?_) (fun cz => absurd c7 cz)
  exact hk u3 u6 a d H locs ls hP hD hS hl hw
def lq8 (L : Nat) (xs : Nat → Int32) (i : Int32) (x : Sys) (y : Mod) (K : Sys → Mod → Prop) : Prop := (vp_in (i + 1) L ∧ (vp_in (i + 2) L ∧ (qX2_hydrostaticAbove x (xs (Int32.toNatClampNeg (i + 1))) (xs (Int32.toNatClampNeg (i + 2))) (fun r3 u4 => (vp_in (i + 1) L ∧ (vp_in (i + 2) L ∧ (qX3_hydrostaticAbove y (xs (Int32.toNatClampNeg (i + 1))) (xs (Int32.toNatClampNeg (i + 2))) (fun r7 u8 => (r3 = r7 ∧ K u4 u8)))))))))
set_option maxHeartbeats 4000000 in
set_option maxRecDepth 100000 in
theorem lc8 {p : Program} {l : Launch} {e : Env} {s : State} {m : MethodId} {below : List Frame} {meth : Method} {c : Code} {D : va_G} {I O : ClassId} {b L : Nat} {xs : Nat → Int32} (C0 : lw_At p s m meth c b L xs) (hK : sK D I O s) (i : Int32) (K : Sys → Mod → Prop) (hk : ∀ (x : Sys) (y : Mod) (a2 : SA) (d2 : MA) (H : Heap) (locs : List Loc) (ls : Array Slot), va_P D vwCl (sysW I O a2 x ++ mdlW I d2 y) H → va_D (fun q : Nat => s.heap.size ≤ q) (sysW I O a2 x ++ mdlW I d2 y) → va_S (fun q : Nat => s.heap.size ≤ q) s.heap H locs → lv_has ls 4 [(0, .ref b), (1, .ref a2.1), (2, .ref d2.1), (3, .int i)] → K x y → W p l e room_1 s m #[Value.ref b] below meth c H locs 50 39149 (lw_Z below #[Value.ref b] s) (F0 m 748 ls [])) (x : Sys) (y : Mod) (a : SA) (d : MA) (H : Heap) (locs : List Loc) (ls : Array Slot) (hP : va_P D vwCl (sysW I O a x ++ mdlW I d y) H) (hD : va_D (fun q : Nat => s.heap.size ≤ q) (sysW I O a x ++ mdlW I d y)) (hS : va_S (fun q : Nat => s.heap.size ≤ q) s.heap H locs) (hl : lv_has ls 4 [(0, .ref b), (1, .ref a.1), (2, .ref d.1), (3, .int i)]) (hw : lq8 L xs i x y K) : W p l e room_1 s m #[Value.ref b] below meth c H locs 50 39149 (lw_Z below #[Value.ref b] s) (F0 m 380 ls []) := by
  obtain ⟨hx, hb, hr, hml, hown, hts0, hX, hbl, hlocks, hgv⟩ := C0
  have hts := fun w h => hts0 w (wsL_law_in w h)
  have hown : s.vm.findClass RL = some m.cls := hown
  have hA : ∀ q : Nat, s.heap.size ≤ q → (fun q : Nat => s.heap.size ≤ q) q := fun _ h => h
  have hbA : ¬ (fun q : Nat => s.heap.size ≤ q) b := Nat.not_le.mpr hbl
  unfold lq8 at hw
  refine lv_aload_n hx hb dL_law_380 rfl (lv_at hl 1 rfl) ?_
  refine lv_aload_n hx hb dL_law_381 rfl (lv_at hl 0 rfl) ?_
  refine lv_iload_n hx hb dL_law_382 rfl (lv_at hl 3 rfl) ?_
  refine lv_iconst (v := 1) hx hb dL_law_383 (by decide) ?_
  refine lv_iadd hx hb dL_law_384 ?_
  obtain ⟨h1, hw⟩ := hw
  refine va_sld hx hb hX hbl hbA hS h1 dL_law_385 ?_
  refine lv_aload_n hx hb dL_law_386 rfl (lv_at hl 0 rfl) ?_
  refine lv_iload_n hx hb dL_law_387 rfl (lv_at hl 3 rfl) ?_
  refine lv_iconst (v := 2) hx hb dL_law_388 (by decide) ?_
  refine lv_iadd hx hb dL_law_389 ?_
  obtain ⟨h2, hw⟩ := hw
  refine va_sld hx hb hX hbl hbA hS h2 dL_law_390 ?_
  have hPc := va_P.mid (X := []) (wc := sysW I O a x) (Y := mdlW I d y) hP
  have hDc := va_D.mid (X := []) (wc := sysW I O a x) (Y := mdlW I d y) hD
  refine mc_i ([]) (mdlW I d y) (mv_V (As := [.int (xs (Int32.toNatClampNeg (i + 1))), .int (xs (Int32.toNatClampNeg (i + 2)))]) (rest := []) ⟨hx, hb, hml, hown, hts⟩ (kX2_hydrostaticAbove l D I O a H.size x (xs (Int32.toNatClampNeg (i + 1))) (xs (Int32.toNatClampNeg (i + 2))) _ hw) (cwV 2 hts gL_law_X2_hydrostaticAbove rfl rfl rfl hdVX2_hydrostaticAbove ⟨(Nat.le_of_ble_eq_true rfl), (Nat.le_of_ble_eq_true rfl)⟩) hK hPc hDc 0 2 rfl rfl rfl rfl hl.1 rfl (Nat.le_of_ble_eq_true rfl) dL_law_391 ⟨(Nat.le_of_ble_eq_true rfl), (Nat.le_of_ble_eq_true rfl)⟩) hP hD hS hA (fun r3 u4 H locs hw hP hD hS => ?_)
  have hP : va_P D vwCl (sysW I O a u4 ++ mdlW I d y) H := hP
  have hD : va_D ((fun q : Nat => s.heap.size ≤ q)) (sysW I O a u4 ++ mdlW I d y) := hD
  refine lv_aload_n hx hb dL_law_394 rfl (lv_at hl 2 rfl) ?_
  refine lv_aload_n hx hb dL_law_395 rfl (lv_at hl 0 rfl) ?_
  refine lv_iload_n hx hb dL_law_396 rfl (lv_at hl 3 rfl) ?_
  refine lv_iconst (v := 1) hx hb dL_law_397 (by decide) ?_
  refine lv_iadd hx hb dL_law_398 ?_
  obtain ⟨h5, hw⟩ := hw
  refine va_sld hx hb hX hbl hbA hS h5 dL_law_399 ?_
  refine lv_aload_n hx hb dL_law_400 rfl (lv_at hl 0 rfl) ?_
  refine lv_iload_n hx hb dL_law_401 rfl (lv_at hl 3 rfl) ?_
  refine lv_iconst (v := 2) hx hb dL_law_402 (by decide) ?_
  refine lv_iadd hx hb dL_law_403 ?_
  obtain ⟨h6, hw⟩ := hw
  refine va_sld hx hb hX hbl hbA hS h6 dL_law_404 ?_
  have hPc := va_P.mid (X := sysW I O a u4) (wc := mdlW I d y) (Y := []) hP
  have hDc := va_D.mid (X := sysW I O a u4) (wc := mdlW I d y) (Y := []) hD
  refine mc_i (sysW I O a u4) ([]) (mv_V (As := [.int (xs (Int32.toNatClampNeg (i + 1))), .int (xs (Int32.toNatClampNeg (i + 2)))]) (rest := [.int r3]) ⟨hx, hb, hml, hown, hts⟩ (kX3_hydrostaticAbove l D I O d H.size y (xs (Int32.toNatClampNeg (i + 1))) (xs (Int32.toNatClampNeg (i + 2))) _ hw) (cwV 2 hts gL_law_X3_hydrostaticAbove rfl rfl rfl hdVX3_hydrostaticAbove ⟨(Nat.le_of_ble_eq_true rfl), (Nat.le_of_ble_eq_true rfl)⟩) hK hPc hDc 0 3 rfl rfl rfl rfl hl.1 rfl (Nat.le_of_ble_eq_true rfl) dL_law_405 ⟨(Nat.le_of_ble_eq_true rfl), (Nat.le_of_ble_eq_true rfl)⟩) hP hD hS hA (fun r7 u8 H locs hw hP hD hS => ?_)
  have hP : va_P D vwCl (sysW I O a u4 ++ mdlW I d u8) H := hP
  have hD : va_D ((fun q : Nat => s.heap.size ≤ q)) (sysW I O a u4 ++ mdlW I d u8) := hD
  obtain ⟨c9, hw⟩ := hw
  refine lv_icmp_eq (tgt := 748) hx hb dL_law_408 (by decide) (fun _ => ?_) (fun cz => absurd c9 cz)
  exact hk u4 u8 a d H locs ls hP hD hS hl hw
def lq9 (L : Nat) (xs : Nat → Int32) (i : Int32) (x : Sys) (y : Mod) (K : Sys → Mod → Prop) : Prop := (qX2_drillPipePressure x (fun r1 => (qX3_drillPipePressure y (fun r2 => (r1 = r2 ∧ K x y)))))
set_option maxHeartbeats 4000000 in
set_option maxRecDepth 100000 in
theorem lc9 {p : Program} {l : Launch} {e : Env} {s : State} {m : MethodId} {below : List Frame} {meth : Method} {c : Code} {D : va_G} {I O : ClassId} {b L : Nat} {xs : Nat → Int32} (C0 : lw_At p s m meth c b L xs) (hK : sK D I O s) (i : Int32) (K : Sys → Mod → Prop) (hk : ∀ (x : Sys) (y : Mod) (a2 : SA) (d2 : MA) (H : Heap) (locs : List Loc) (ls : Array Slot), va_P D vwCl (sysW I O a2 x ++ mdlW I d2 y) H → va_D (fun q : Nat => s.heap.size ≤ q) (sysW I O a2 x ++ mdlW I d2 y) → va_S (fun q : Nat => s.heap.size ≤ q) s.heap H locs → lv_has ls 4 [(0, .ref b), (1, .ref a2.1), (2, .ref d2.1), (3, .int i)] → K x y → W p l e room_1 s m #[Value.ref b] below meth c H locs 50 39149 (lw_Z below #[Value.ref b] s) (F0 m 748 ls [])) (x : Sys) (y : Mod) (a : SA) (d : MA) (H : Heap) (locs : List Loc) (ls : Array Slot) (hP : va_P D vwCl (sysW I O a x ++ mdlW I d y) H) (hD : va_D (fun q : Nat => s.heap.size ≤ q) (sysW I O a x ++ mdlW I d y)) (hS : va_S (fun q : Nat => s.heap.size ≤ q) s.heap H locs) (hl : lv_has ls 4 [(0, .ref b), (1, .ref a.1), (2, .ref d.1), (3, .int i)]) (hw : lq9 L xs i x y K) : W p l e room_1 s m #[Value.ref b] below meth c H locs 50 39149 (lw_Z below #[Value.ref b] s) (F0 m 413 ls []) := by
  obtain ⟨hx, hb, hr, hml, hown, hts0, hX, hbl, hlocks, hgv⟩ := C0
  have hts := fun w h => hts0 w (wsL_law_in w h)
  have hown : s.vm.findClass RL = some m.cls := hown
  have hA : ∀ q : Nat, s.heap.size ≤ q → (fun q : Nat => s.heap.size ≤ q) q := fun _ h => h
  have hbA : ¬ (fun q : Nat => s.heap.size ≤ q) b := Nat.not_le.mpr hbl
  unfold lq9 at hw
  refine lv_aload_n hx hb dL_law_413 rfl (lv_at hl 1 rfl) ?_
  have hPc := va_P.mid (X := []) (wc := sysW I O a x) (Y := mdlW I d y) hP
  have hDc := va_D.mid (X := []) (wc := sysW I O a x) (Y := mdlW I d y) hD
  refine mc_i ([]) (mdlW I d y) (mv_V (As := []) (rest := []) ⟨hx, hb, hml, hown, hts⟩ (kX2_drillPipePressure l D I O a H.size x _ hw) (cwV 0 hts gL_law_X2_drillPipePressure rfl rfl rfl hdVX2_drillPipePressure ⟨(Nat.le_of_ble_eq_true rfl), (Nat.le_of_ble_eq_true rfl)⟩) hK hPc hDc 0 2 rfl rfl rfl rfl hl.1 rfl (Nat.le_of_ble_eq_true rfl) dL_law_414 ⟨(Nat.le_of_ble_eq_true rfl), (Nat.le_of_ble_eq_true rfl)⟩) hP hD hS hA (fun r1 _ H locs hw hP hD hS => ?_)
  have hP : va_P D vwCl (sysW I O a x ++ mdlW I d y) H := hP
  have hD : va_D ((fun q : Nat => s.heap.size ≤ q)) (sysW I O a x ++ mdlW I d y) := hD
  refine lv_aload_n hx hb dL_law_417 rfl (lv_at hl 2 rfl) ?_
  have hPc := va_P.mid (X := sysW I O a x) (wc := mdlW I d y) (Y := []) hP
  have hDc := va_D.mid (X := sysW I O a x) (wc := mdlW I d y) (Y := []) hD
  refine mc_i (sysW I O a x) ([]) (mv_V (As := []) (rest := [.int r1]) ⟨hx, hb, hml, hown, hts⟩ (kX3_drillPipePressure l D I O d H.size y _ hw) (cwV 0 hts gL_law_X3_drillPipePressure rfl rfl rfl hdVX3_drillPipePressure ⟨(Nat.le_of_ble_eq_true rfl), (Nat.le_of_ble_eq_true rfl)⟩) hK hPc hDc 0 3 rfl rfl rfl rfl hl.1 rfl (Nat.le_of_ble_eq_true rfl) dL_law_418 ⟨(Nat.le_of_ble_eq_true rfl), (Nat.le_of_ble_eq_true rfl)⟩) hP hD hS hA (fun r2 _ H locs hw hP hD hS => ?_)
  have hP : va_P D vwCl (sysW I O a x ++ mdlW I d y) H := hP
  have hD : va_D ((fun q : Nat => s.heap.size ≤ q)) (sysW I O a x ++ mdlW I d y) := hD
  obtain ⟨c3, hw⟩ := hw
  refine lv_icmp_eq (tgt := 748) hx hb dL_law_421 (by decide) (fun _ => ?_) (fun cz => absurd c3 cz)
  exact hk x y a d H locs ls hP hD hS hl hw
def lq10 (L : Nat) (xs : Nat → Int32) (i : Int32) (x : Sys) (y : Mod) (K : Sys → Mod → Prop) : Prop := (qX2_casingPressure x (fun r1 => (qX3_casingPressure y (fun r2 => (r1 = r2 ∧ K x y)))))
set_option maxHeartbeats 4000000 in
set_option maxRecDepth 100000 in
theorem lc10 {p : Program} {l : Launch} {e : Env} {s : State} {m : MethodId} {below : List Frame} {meth : Method} {c : Code} {D : va_G} {I O : ClassId} {b L : Nat} {xs : Nat → Int32} (C0 : lw_At p s m meth c b L xs) (hK : sK D I O s) (i : Int32) (K : Sys → Mod → Prop) (hk : ∀ (x : Sys) (y : Mod) (a2 : SA) (d2 : MA) (H : Heap) (locs : List Loc) (ls : Array Slot), va_P D vwCl (sysW I O a2 x ++ mdlW I d2 y) H → va_D (fun q : Nat => s.heap.size ≤ q) (sysW I O a2 x ++ mdlW I d2 y) → va_S (fun q : Nat => s.heap.size ≤ q) s.heap H locs → lv_has ls 4 [(0, .ref b), (1, .ref a2.1), (2, .ref d2.1), (3, .int i)] → K x y → W p l e room_1 s m #[Value.ref b] below meth c H locs 50 39149 (lw_Z below #[Value.ref b] s) (F0 m 748 ls [])) (x : Sys) (y : Mod) (a : SA) (d : MA) (H : Heap) (locs : List Loc) (ls : Array Slot) (hP : va_P D vwCl (sysW I O a x ++ mdlW I d y) H) (hD : va_D (fun q : Nat => s.heap.size ≤ q) (sysW I O a x ++ mdlW I d y)) (hS : va_S (fun q : Nat => s.heap.size ≤ q) s.heap H locs) (hl : lv_has ls 4 [(0, .ref b), (1, .ref a.1), (2, .ref d.1), (3, .int i)]) (hw : lq10 L xs i x y K) : W p l e room_1 s m #[Value.ref b] below meth c H locs 50 39149 (lw_Z below #[Value.ref b] s) (F0 m 426 ls []) := by
  obtain ⟨hx, hb, hr, hml, hown, hts0, hX, hbl, hlocks, hgv⟩ := C0
  have hts := fun w h => hts0 w (wsL_law_in w h)
  have hown : s.vm.findClass RL = some m.cls := hown
  have hA : ∀ q : Nat, s.heap.size ≤ q → (fun q : Nat => s.heap.size ≤ q) q := fun _ h => h
  have hbA : ¬ (fun q : Nat => s.heap.size ≤ q) b := Nat.not_le.mpr hbl
  unfold lq10 at hw
  refine lv_aload_n hx hb dL_law_426 rfl (lv_at hl 1 rfl) ?_
  have hPc := va_P.mid (X := []) (wc := sysW I O a x) (Y := mdlW I d y) hP
  have hDc := va_D.mid (X := []) (wc := sysW I O a x) (Y := mdlW I d y) hD
  refine mc_i ([]) (mdlW I d y) (mv_V (As := []) (rest := []) ⟨hx, hb, hml, hown, hts⟩ (kX2_casingPressure l D I O a H.size x _ hw) (cwV 0 hts gL_law_X2_casingPressure rfl rfl rfl hdVX2_casingPressure ⟨(Nat.le_of_ble_eq_true rfl), (Nat.le_of_ble_eq_true rfl)⟩) hK hPc hDc 0 2 rfl rfl rfl rfl hl.1 rfl (Nat.le_of_ble_eq_true rfl) dL_law_427 ⟨(Nat.le_of_ble_eq_true rfl), (Nat.le_of_ble_eq_true rfl)⟩) hP hD hS hA (fun r1 _ H locs hw hP hD hS => ?_)
  have hP : va_P D vwCl (sysW I O a x ++ mdlW I d y) H := hP
  have hD : va_D ((fun q : Nat => s.heap.size ≤ q)) (sysW I O a x ++ mdlW I d y) := hD
  refine lv_aload_n hx hb dL_law_430 rfl (lv_at hl 2 rfl) ?_
  have hPc := va_P.mid (X := sysW I O a x) (wc := mdlW I d y) (Y := []) hP
  have hDc := va_D.mid (X := sysW I O a x) (wc := mdlW I d y) (Y := []) hD
  refine mc_i (sysW I O a x) ([]) (mv_V (As := []) (rest := [.int r1]) ⟨hx, hb, hml, hown, hts⟩ (kX3_casingPressure l D I O d H.size y _ hw) (cwV 0 hts gL_law_X3_casingPressure rfl rfl rfl hdVX3_casingPressure ⟨(Nat.le_of_ble_eq_true rfl), (Nat.le_of_ble_eq_true rfl)⟩) hK hPc hDc 0 3 rfl rfl rfl rfl hl.1 rfl (Nat.le_of_ble_eq_true rfl) dL_law_431 ⟨(Nat.le_of_ble_eq_true rfl), (Nat.le_of_ble_eq_true rfl)⟩) hP hD hS hA (fun r2 _ H locs hw hP hD hS => ?_)
  have hP : va_P D vwCl (sysW I O a x ++ mdlW I d y) H := hP
  have hD : va_D ((fun q : Nat => s.heap.size ≤ q)) (sysW I O a x ++ mdlW I d y) := hD
  obtain ⟨c3, hw⟩ := hw
  refine lv_icmp_eq (tgt := 748) hx hb dL_law_434 (by decide) (fun _ => ?_) (fun cz => absurd c3 cz)
  exact hk x y a d H locs ls hP hD hS hl hw
def lq11 (L : Nat) (xs : Nat → Int32) (i : Int32) (x : Sys) (y : Mod) (K : Sys → Mod → Prop) : Prop := (qX2_standpipePressure x (fun r1 => (qX3_standpipePressure y (fun r2 => (r1 = r2 ∧ K x y)))))
set_option maxHeartbeats 4000000 in
set_option maxRecDepth 100000 in
theorem lc11 {p : Program} {l : Launch} {e : Env} {s : State} {m : MethodId} {below : List Frame} {meth : Method} {c : Code} {D : va_G} {I O : ClassId} {b L : Nat} {xs : Nat → Int32} (C0 : lw_At p s m meth c b L xs) (hK : sK D I O s) (i : Int32) (K : Sys → Mod → Prop) (hk : ∀ (x : Sys) (y : Mod) (a2 : SA) (d2 : MA) (H : Heap) (locs : List Loc) (ls : Array Slot), va_P D vwCl (sysW I O a2 x ++ mdlW I d2 y) H → va_D (fun q : Nat => s.heap.size ≤ q) (sysW I O a2 x ++ mdlW I d2 y) → va_S (fun q : Nat => s.heap.size ≤ q) s.heap H locs → lv_has ls 4 [(0, .ref b), (1, .ref a2.1), (2, .ref d2.1), (3, .int i)] → K x y → W p l e room_1 s m #[Value.ref b] below meth c H locs 50 39149 (lw_Z below #[Value.ref b] s) (F0 m 748 ls [])) (x : Sys) (y : Mod) (a : SA) (d : MA) (H : Heap) (locs : List Loc) (ls : Array Slot) (hP : va_P D vwCl (sysW I O a x ++ mdlW I d y) H) (hD : va_D (fun q : Nat => s.heap.size ≤ q) (sysW I O a x ++ mdlW I d y)) (hS : va_S (fun q : Nat => s.heap.size ≤ q) s.heap H locs) (hl : lv_has ls 4 [(0, .ref b), (1, .ref a.1), (2, .ref d.1), (3, .int i)]) (hw : lq11 L xs i x y K) : W p l e room_1 s m #[Value.ref b] below meth c H locs 50 39149 (lw_Z below #[Value.ref b] s) (F0 m 439 ls []) := by
  obtain ⟨hx, hb, hr, hml, hown, hts0, hX, hbl, hlocks, hgv⟩ := C0
  have hts := fun w h => hts0 w (wsL_law_in w h)
  have hown : s.vm.findClass RL = some m.cls := hown
  have hA : ∀ q : Nat, s.heap.size ≤ q → (fun q : Nat => s.heap.size ≤ q) q := fun _ h => h
  have hbA : ¬ (fun q : Nat => s.heap.size ≤ q) b := Nat.not_le.mpr hbl
  unfold lq11 at hw
  refine lv_aload_n hx hb dL_law_439 rfl (lv_at hl 1 rfl) ?_
  have hPc := va_P.mid (X := []) (wc := sysW I O a x) (Y := mdlW I d y) hP
  have hDc := va_D.mid (X := []) (wc := sysW I O a x) (Y := mdlW I d y) hD
  refine mc_i ([]) (mdlW I d y) (mv_V (As := []) (rest := []) ⟨hx, hb, hml, hown, hts⟩ (kX2_standpipePressure l D I O a H.size x _ hw) (cwV 0 hts gL_law_X2_standpipePressure rfl rfl rfl hdVX2_standpipePressure ⟨(Nat.le_of_ble_eq_true rfl), (Nat.le_of_ble_eq_true rfl)⟩) hK hPc hDc 0 2 rfl rfl rfl rfl hl.1 rfl (Nat.le_of_ble_eq_true rfl) dL_law_440 ⟨(Nat.le_of_ble_eq_true rfl), (Nat.le_of_ble_eq_true rfl)⟩) hP hD hS hA (fun r1 _ H locs hw hP hD hS => ?_)
  have hP : va_P D vwCl (sysW I O a x ++ mdlW I d y) H := hP
  have hD : va_D ((fun q : Nat => s.heap.size ≤ q)) (sysW I O a x ++ mdlW I d y) := hD
  refine lv_aload_n hx hb dL_law_443 rfl (lv_at hl 2 rfl) ?_
  have hPc := va_P.mid (X := sysW I O a x) (wc := mdlW I d y) (Y := []) hP
  have hDc := va_D.mid (X := sysW I O a x) (wc := mdlW I d y) (Y := []) hD
  refine mc_i (sysW I O a x) ([]) (mv_V (As := []) (rest := [.int r1]) ⟨hx, hb, hml, hown, hts⟩ (kX3_standpipePressure l D I O d H.size y _ hw) (cwV 0 hts gL_law_X3_standpipePressure rfl rfl rfl hdVX3_standpipePressure ⟨(Nat.le_of_ble_eq_true rfl), (Nat.le_of_ble_eq_true rfl)⟩) hK hPc hDc 0 3 rfl rfl rfl rfl hl.1 rfl (Nat.le_of_ble_eq_true rfl) dL_law_444 ⟨(Nat.le_of_ble_eq_true rfl), (Nat.le_of_ble_eq_true rfl)⟩) hP hD hS hA (fun r2 _ H locs hw hP hD hS => ?_)
  have hP : va_P D vwCl (sysW I O a x ++ mdlW I d y) H := hP
  have hD : va_D ((fun q : Nat => s.heap.size ≤ q)) (sysW I O a x ++ mdlW I d y) := hD
  obtain ⟨c3, hw⟩ := hw
  refine lv_icmp_eq (tgt := 748) hx hb dL_law_447 (by decide) (fun _ => ?_) (fun cz => absurd c3 cz)
  exact hk x y a d H locs ls hP hD hS hl hw
def lq12 (L : Nat) (xs : Nat → Int32) (i : Int32) (x : Sys) (y : Mod) (K : Sys → Mod → Prop) : Prop := (qX2_shoePressure x (fun r1 => (qX3_shoePressure y (fun r2 => (r1 = r2 ∧ K x y)))))
set_option maxHeartbeats 4000000 in
set_option maxRecDepth 100000 in
theorem lc12 {p : Program} {l : Launch} {e : Env} {s : State} {m : MethodId} {below : List Frame} {meth : Method} {c : Code} {D : va_G} {I O : ClassId} {b L : Nat} {xs : Nat → Int32} (C0 : lw_At p s m meth c b L xs) (hK : sK D I O s) (i : Int32) (K : Sys → Mod → Prop) (hk : ∀ (x : Sys) (y : Mod) (a2 : SA) (d2 : MA) (H : Heap) (locs : List Loc) (ls : Array Slot), va_P D vwCl (sysW I O a2 x ++ mdlW I d2 y) H → va_D (fun q : Nat => s.heap.size ≤ q) (sysW I O a2 x ++ mdlW I d2 y) → va_S (fun q : Nat => s.heap.size ≤ q) s.heap H locs → lv_has ls 4 [(0, .ref b), (1, .ref a2.1), (2, .ref d2.1), (3, .int i)] → K x y → W p l e room_1 s m #[Value.ref b] below meth c H locs 50 39149 (lw_Z below #[Value.ref b] s) (F0 m 748 ls [])) (x : Sys) (y : Mod) (a : SA) (d : MA) (H : Heap) (locs : List Loc) (ls : Array Slot) (hP : va_P D vwCl (sysW I O a x ++ mdlW I d y) H) (hD : va_D (fun q : Nat => s.heap.size ≤ q) (sysW I O a x ++ mdlW I d y)) (hS : va_S (fun q : Nat => s.heap.size ≤ q) s.heap H locs) (hl : lv_has ls 4 [(0, .ref b), (1, .ref a.1), (2, .ref d.1), (3, .int i)]) (hw : lq12 L xs i x y K) : W p l e room_1 s m #[Value.ref b] below meth c H locs 50 39149 (lw_Z below #[Value.ref b] s) (F0 m 452 ls []) := by
  obtain ⟨hx, hb, hr, hml, hown, hts0, hX, hbl, hlocks, hgv⟩ := C0
  have hts := fun w h => hts0 w (wsL_law_in w h)
  have hown : s.vm.findClass RL = some m.cls := hown
  have hA : ∀ q : Nat, s.heap.size ≤ q → (fun q : Nat => s.heap.size ≤ q) q := fun _ h => h
  have hbA : ¬ (fun q : Nat => s.heap.size ≤ q) b := Nat.not_le.mpr hbl
  unfold lq12 at hw
  refine lv_aload_n hx hb dL_law_452 rfl (lv_at hl 1 rfl) ?_
  have hPc := va_P.mid (X := []) (wc := sysW I O a x) (Y := mdlW I d y) hP
  have hDc := va_D.mid (X := []) (wc := sysW I O a x) (Y := mdlW I d y) hD
  refine mc_i ([]) (mdlW I d y) (mv_V (As := []) (rest := []) ⟨hx, hb, hml, hown, hts⟩ (kX2_shoePressure l D I O a H.size x _ hw) (cwV 0 hts gL_law_X2_shoePressure rfl rfl rfl hdVX2_shoePressure ⟨(Nat.le_of_ble_eq_true rfl), (Nat.le_of_ble_eq_true rfl)⟩) hK hPc hDc 0 2 rfl rfl rfl rfl hl.1 rfl (Nat.le_of_ble_eq_true rfl) dL_law_453 ⟨(Nat.le_of_ble_eq_true rfl), (Nat.le_of_ble_eq_true rfl)⟩) hP hD hS hA (fun r1 _ H locs hw hP hD hS => ?_)
  have hP : va_P D vwCl (sysW I O a x ++ mdlW I d y) H := hP
  have hD : va_D ((fun q : Nat => s.heap.size ≤ q)) (sysW I O a x ++ mdlW I d y) := hD
  refine lv_aload_n hx hb dL_law_456 rfl (lv_at hl 2 rfl) ?_
  have hPc := va_P.mid (X := sysW I O a x) (wc := mdlW I d y) (Y := []) hP
  have hDc := va_D.mid (X := sysW I O a x) (wc := mdlW I d y) (Y := []) hD
  refine mc_i (sysW I O a x) ([]) (mv_V (As := []) (rest := [.int r1]) ⟨hx, hb, hml, hown, hts⟩ (kX3_shoePressure l D I O d H.size y _ hw) (cwV 0 hts gL_law_X3_shoePressure rfl rfl rfl hdVX3_shoePressure ⟨(Nat.le_of_ble_eq_true rfl), (Nat.le_of_ble_eq_true rfl)⟩) hK hPc hDc 0 3 rfl rfl rfl rfl hl.1 rfl (Nat.le_of_ble_eq_true rfl) dL_law_457 ⟨(Nat.le_of_ble_eq_true rfl), (Nat.le_of_ble_eq_true rfl)⟩) hP hD hS hA (fun r2 _ H locs hw hP hD hS => ?_)
  have hP : va_P D vwCl (sysW I O a x ++ mdlW I d y) H := hP
  have hD : va_D ((fun q : Nat => s.heap.size ≤ q)) (sysW I O a x ++ mdlW I d y) := hD
  obtain ⟨c3, hw⟩ := hw
  refine lv_icmp_eq (tgt := 748) hx hb dL_law_460 (by decide) (fun _ => ?_) (fun cz => absurd c3 cz)
  exact hk x y a d H locs ls hP hD hS hl hw
def lq13 (L : Nat) (xs : Nat → Int32) (i : Int32) (x : Sys) (y : Mod) (K : Sys → Mod → Prop) : Prop := (qX2_allowedCasingPressure x (fun r1 => (qX3_allowedCasingPressure y (fun r2 => (r1 = r2 ∧ K x y)))))
set_option maxHeartbeats 4000000 in
set_option maxRecDepth 100000 in
theorem lc13 {p : Program} {l : Launch} {e : Env} {s : State} {m : MethodId} {below : List Frame} {meth : Method} {c : Code} {D : va_G} {I O : ClassId} {b L : Nat} {xs : Nat → Int32} (C0 : lw_At p s m meth c b L xs) (hK : sK D I O s) (i : Int32) (K : Sys → Mod → Prop) (hk : ∀ (x : Sys) (y : Mod) (a2 : SA) (d2 : MA) (H : Heap) (locs : List Loc) (ls : Array Slot), va_P D vwCl (sysW I O a2 x ++ mdlW I d2 y) H → va_D (fun q : Nat => s.heap.size ≤ q) (sysW I O a2 x ++ mdlW I d2 y) → va_S (fun q : Nat => s.heap.size ≤ q) s.heap H locs → lv_has ls 4 [(0, .ref b), (1, .ref a2.1), (2, .ref d2.1), (3, .int i)] → K x y → W p l e room_1 s m #[Value.ref b] below meth c H locs 50 39149 (lw_Z below #[Value.ref b] s) (F0 m 748 ls [])) (x : Sys) (y : Mod) (a : SA) (d : MA) (H : Heap) (locs : List Loc) (ls : Array Slot) (hP : va_P D vwCl (sysW I O a x ++ mdlW I d y) H) (hD : va_D (fun q : Nat => s.heap.size ≤ q) (sysW I O a x ++ mdlW I d y)) (hS : va_S (fun q : Nat => s.heap.size ≤ q) s.heap H locs) (hl : lv_has ls 4 [(0, .ref b), (1, .ref a.1), (2, .ref d.1), (3, .int i)]) (hw : lq13 L xs i x y K) : W p l e room_1 s m #[Value.ref b] below meth c H locs 50 39149 (lw_Z below #[Value.ref b] s) (F0 m 465 ls []) := by
  obtain ⟨hx, hb, hr, hml, hown, hts0, hX, hbl, hlocks, hgv⟩ := C0
  have hts := fun w h => hts0 w (wsL_law_in w h)
  have hown : s.vm.findClass RL = some m.cls := hown
  have hA : ∀ q : Nat, s.heap.size ≤ q → (fun q : Nat => s.heap.size ≤ q) q := fun _ h => h
  have hbA : ¬ (fun q : Nat => s.heap.size ≤ q) b := Nat.not_le.mpr hbl
  unfold lq13 at hw
  refine lv_aload_n hx hb dL_law_465 rfl (lv_at hl 1 rfl) ?_
  have hPc := va_P.mid (X := []) (wc := sysW I O a x) (Y := mdlW I d y) hP
  have hDc := va_D.mid (X := []) (wc := sysW I O a x) (Y := mdlW I d y) hD
  refine mc_i ([]) (mdlW I d y) (mv_V (As := []) (rest := []) ⟨hx, hb, hml, hown, hts⟩ (kX2_allowedCasingPressure l D I O a H.size x _ hw) (cwV 0 hts gL_law_X2_allowedCasingPressure rfl rfl rfl hdVX2_allowedCasingPressure ⟨(Nat.le_of_ble_eq_true rfl), (Nat.le_of_ble_eq_true rfl)⟩) hK hPc hDc 0 2 rfl rfl rfl rfl hl.1 rfl (Nat.le_of_ble_eq_true rfl) dL_law_466 ⟨(Nat.le_of_ble_eq_true rfl), (Nat.le_of_ble_eq_true rfl)⟩) hP hD hS hA (fun r1 _ H locs hw hP hD hS => ?_)
  have hP : va_P D vwCl (sysW I O a x ++ mdlW I d y) H := hP
  have hD : va_D ((fun q : Nat => s.heap.size ≤ q)) (sysW I O a x ++ mdlW I d y) := hD
  refine lv_aload_n hx hb dL_law_469 rfl (lv_at hl 2 rfl) ?_
  have hPc := va_P.mid (X := sysW I O a x) (wc := mdlW I d y) (Y := []) hP
  have hDc := va_D.mid (X := sysW I O a x) (wc := mdlW I d y) (Y := []) hD
  refine mc_i (sysW I O a x) ([]) (mv_V (As := []) (rest := [.int r1]) ⟨hx, hb, hml, hown, hts⟩ (kX3_allowedCasingPressure l D I O d H.size y _ hw) (cwV 0 hts gL_law_X3_allowedCasingPressure rfl rfl rfl hdVX3_allowedCasingPressure ⟨(Nat.le_of_ble_eq_true rfl), (Nat.le_of_ble_eq_true rfl)⟩) hK hPc hDc 0 3 rfl rfl rfl rfl hl.1 rfl (Nat.le_of_ble_eq_true rfl) dL_law_470 ⟨(Nat.le_of_ble_eq_true rfl), (Nat.le_of_ble_eq_true rfl)⟩) hP hD hS hA (fun r2 _ H locs hw hP hD hS => ?_)
  have hP : va_P D vwCl (sysW I O a x ++ mdlW I d y) H := hP
  have hD : va_D ((fun q : Nat => s.heap.size ≤ q)) (sysW I O a x ++ mdlW I d y) := hD
  obtain ⟨c3, hw⟩ := hw
  refine lv_icmp_eq (tgt := 748) hx hb dL_law_473 (by decide) (fun _ => ?_) (fun cz => absurd c3 cz)
  exact hk x y a d H locs ls hP hD hS hl hw
