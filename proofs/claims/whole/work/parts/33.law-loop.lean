/-- the case that a word asks for -/
def lqc (L : Nat) (xs : Nat → Int32) (i : Int32) (x : Sys) (y : Mod) (K : Sys → Mod → Prop) : Nat → Prop
  | 0 => lq0 L xs i x y K
  | 1 => lq1 L xs i x y K
  | 2 => lq2 L xs i x y K
  | 3 => lq3 L xs i x y K
  | 4 => lq4 L xs i x y K
  | 5 => lq5 L xs i x y K
  | 6 => lq6 L xs i x y K
  | 7 => lq7 L xs i x y K
  | 8 => lq8 L xs i x y K
  | 9 => lq9 L xs i x y K
  | 10 => lq10 L xs i x y K
  | 11 => lq11 L xs i x y K
  | 12 => lq12 L xs i x y K
  | 13 => lq13 L xs i x y K
  | 14 => lq14 L xs i x y K
  | 15 => lq15 L xs i x y K
  | 16 => lq16 L xs i x y K
  | 17 => lq17 L xs i x y K
  | 18 => lq18 L xs i x y K
  | 19 => lq19 L xs i x y K
  | 20 => lq20 L xs i x y K
  | 21 => lq21 L xs i x y K
  | 22 => lq22 L xs i x y K
  | 23 => lq23 L xs i x y K
  | 24 => lq24 L xs i x y K
  | 25 => lq25 L xs i x y K
  | 26 => lq26 L xs i x y K
  | _ => K x y
/-- the law over what is left of the script -/
def lq (L : Nat) (xs : Nat → Int32) : Nat → Int32 → Sys → Mod → Prop
  | 0, _, _, _ => False
  | n + 1, i, x, y => (¬ nI L - 5 < i → (vp_in i L ∧ ∀ k : Nat, k < 32 → xs (Int32.toNatClampNeg i) &&& 31 = nI k → lqc L xs i x y (fun x y => lq L xs n (i + 5) x y) k))
set_option maxHeartbeats 4000000 in
set_option maxRecDepth 100000 in
/-- THE LAW'S LOOP -/
theorem law_loop {p : Program} {l : Launch} {e : Env} {s : State} {m : MethodId} {below : List Frame} {meth : Method} {c : Code} {D : va_G} {I O : ClassId} {b L : Nat} {xs : Nat → Int32} (C0 : lw_At p s m meth c b L xs) (hK : sK D I O s) (hL : L ≤ 2560) : ∀ (n : Nat) (i : Int32) (x : Sys) (y : Mod) (a : SA) (d : MA) (H : Heap) (locs : List Loc) (ls : Array Slot), va_P D vwCl (sysW I O a x ++ mdlW I d y) H → va_D (fun q : Nat => s.heap.size ≤ q) (sysW I O a x ++ mdlW I d y) → va_S (fun q : Nat => s.heap.size ≤ q) s.heap H locs → lv_has ls 4 [(0, .ref b), (1, .ref a.1), (2, .ref d.1), (3, .int i)] → lq L xs n i x y → W p l e room_1 s m #[Value.ref b] below meth c H locs 50 39149 (lw_Z below #[Value.ref b] s) (F0 m 18 ls []) := by
  intro n
  induction n with
  | zero =>
    intro i x y a d H locs ls hP hD hS hl hw
    exact hw.elim
  | succ n ih =>
    intro i x y a d H locs ls hP hD hS hl hw
    obtain ⟨hx, hb, hr, hml, hown, hts0, hX, hbl, hlocks, hgv⟩ := id C0
    have hA : ∀ q : Nat, s.heap.size ≤ q → (fun q : Nat => s.heap.size ≤ q) q := fun _ h => h
    have hbA : ¬ (fun q : Nat => s.heap.size ≤ q) b := Nat.not_le.mpr hbl
    unfold lq at hw
    refine lv_iload_n hx hb dL_law_18 rfl (lv_at hl 3 rfl) ?_
    refine lv_aload_n hx hb dL_law_19 rfl (lv_at hl 0 rfl) ?_
    refine va_slen hx hb hX hbl hbA hS dL_law_20 ?_
    refine lv_iconst (v := 5) hx hb dL_law_21 (by decide) ?_
    refine lv_isub hx hb dL_law_22 ?_
    refine lv_icmp_gt (tgt := 754) hx hb dL_law_23 (by decide) (fun c1 => ?_) (fun c1 => ?_)
    · refine lv_iconst (v := 1) hx hb dL_law_754 (by decide) ?_
      refine va_forget (fun q hq => hS.2.2 q hq) ?_
      refine W.widen (k := 600000) (n := 7302250) (Nat.le_of_ble_eq_true rfl) (Nat.le_of_ble_eq_true rfl) ?_
      exact lw_ret hx hb hr hlocks dL_law_755
    · obtain ⟨h1, hw⟩ := hw c1
      refine lv_aload_n hx hb dL_law_26 rfl (lv_at hl 0 rfl) ?_
      refine lv_iload_n hx hb dL_law_27 rfl (lv_at hl 3 rfl) ?_
      refine va_sld hx hb hX hbl hbA hS h1 dL_law_28 ?_
      refine lv_bipush (v := 31) hx hb dL_law_29 (by decide) ?_
      refine lv_iand hx hb dL_law_31 ?_
      obtain ⟨k, hk, ek⟩ := pk_andE (xs (Int32.toNatClampNeg i)) (m := 31) 5 (by decide)
      have hw := hw k hk ek
      rw [ek]
      have hk2 : ∀ (x : Sys) (y : Mod) (a2 : SA) (d2 : MA) (H : Heap) (locs : List Loc) (ls : Array Slot), va_P D vwCl (sysW I O a2 x ++ mdlW I d2 y) H → va_D (fun q : Nat => s.heap.size ≤ q) (sysW I O a2 x ++ mdlW I d2 y) → va_S (fun q : Nat => s.heap.size ≤ q) s.heap H locs → lv_has ls 4 [(0, .ref b), (1, .ref a2.1), (2, .ref d2.1), (3, .int i)] → lq L xs n (i + 5) x y → W p l e room_1 s m #[Value.ref b] below meth c H locs 50 39149 (lw_Z below #[Value.ref b] s) (F0 m 748 ls []) := by
        intro x y a2 d2 H locs ls hP hD hS hl hw
        refine lv_iinc (v := i + 5) (lv' := [(3, .int (i + 5)), (0, .ref b), (1, .ref a2.1), (2, .ref d2.1)]) hx hb dL_law_748 hl (k := 3) rfl (congrArg (fun z => i + z) (show Int32.ofInt 5 = 5 from by decide)) (by decide) rfl (fun ls hl => ?_)
        refine lv_goto (tgt := 18) hx hb dL_law_751 (by decide) ?_
        exact ih (i + 5) x y a2 d2 H locs ls hP hD hS (lv_sub hl [1, 2, 3, 0] rfl) hw
      match k, hk, hw with
      | 0, _, hw =>
        refine lv_tableIn (off := 124) (tgt := 156) hx hb dL_law_32 (by decide) (by decide) (by decide) (by decide) ?_
        exact lc0 C0 hK i _ hk2 x y a d H locs ls hP hD hS hl hw
      | 1, _, hw =>
        refine lv_tableIn (off := 177) (tgt := 209) hx hb dL_law_32 (by decide) (by decide) (by decide) (by decide) ?_
        exact lc1 C0 hK i _ hk2 x y a d H locs ls hP hD hS hl hw
      | 2, _, hw =>
        refine lv_tableIn (off := 200) (tgt := 232) hx hb dL_law_32 (by decide) (by decide) (by decide) (by decide) ?_
        exact lc2 C0 hK i _ hk2 x y a d H locs ls hP hD hS hl hw
      | 3, _, hw =>
        refine lv_tableIn (off := 223) (tgt := 255) hx hb dL_law_32 (by decide) (by decide) (by decide) (by decide) ?_
        exact lc3 C0 hK i _ hk2 x y a d H locs ls hP hD hS hl hw
      | 4, _, hw =>
        refine lv_tableIn (off := 246) (tgt := 278) hx hb dL_law_32 (by decide) (by decide) (by decide) (by decide) ?_
        exact lc4 C0 hK i _ hk2 x y a d H locs ls hP hD hS hl hw
      | 5, _, hw =>
        refine lv_tableIn (off := 269) (tgt := 301) hx hb dL_law_32 (by decide) (by decide) (by decide) (by decide) ?_
        exact lc5 C0 hK i _ hk2 x y a d H locs ls hP hD hS hl hw
      | 6, _, hw =>
        refine lv_tableIn (off := 292) (tgt := 324) hx hb dL_law_32 (by decide) (by decide) (by decide) (by decide) ?_
        exact lc6 C0 hK i _ hk2 x y a d H locs ls hP hD hS hl hw
      | 7, _, hw =>
        refine lv_tableIn (off := 325) (tgt := 357) hx hb dL_law_32 (by decide) (by decide) (by decide) (by decide) ?_
        exact lc7 C0 hK i _ hk2 x y a d H locs ls hP hD hS hl hw
      | 8, _, hw =>
        refine lv_tableIn (off := 348) (tgt := 380) hx hb dL_law_32 (by decide) (by decide) (by decide) (by decide) ?_
        exact lc8 C0 hK i _ hk2 x y a d H locs ls hP hD hS hl hw
      | 9, _, hw =>
        refine lv_tableIn (off := 381) (tgt := 413) hx hb dL_law_32 (by decide) (by decide) (by decide) (by decide) ?_
        exact lc9 C0 hK i _ hk2 x y a d H locs ls hP hD hS hl hw
      | 10, _, hw =>
        refine lv_tableIn (off := 394) (tgt := 426) hx hb dL_law_32 (by decide) (by decide) (by decide) (by decide) ?_
        exact lc10 C0 hK i _ hk2 x y a d H locs ls hP hD hS hl hw
      | 11, _, hw =>
        refine lv_tableIn (off := 407) (tgt := 439) hx hb dL_law_32 (by decide) (by decide) (by decide) (by decide) ?_
        exact lc11 C0 hK i _ hk2 x y a d H locs ls hP hD hS hl hw
      | 12, _, hw =>
        refine lv_tableIn (off := 420) (tgt := 452) hx hb dL_law_32 (by decide) (by decide) (by decide) (by decide) ?_
        exact lc12 C0 hK i _ hk2 x y a d H locs ls hP hD hS hl hw
      | 13, _, hw =>
        refine lv_tableIn (off := 433) (tgt := 465) hx hb dL_law_32 (by decide) (by decide) (by decide) (by decide) ?_
        exact lc13 C0 hK i _ hk2 x y a d H locs ls hP hD hS hl hw
      | 14, _, hw =>
        refine lv_tableIn (off := 446) (tgt := 478) hx hb dL_law_32 (by decide) (by decide) (by decide) (by decide) ?_
        exact lc14 C0 hK i _ hk2 x y a d H locs ls hP hD hS hl hw
      | 15, _, hw =>
        refine lv_tableIn (off := 459) (tgt := 491) hx hb dL_law_32 (by decide) (by decide) (by decide) (by decide) ?_
        exact lc15 C0 hK i _ hk2 x y a d H locs ls hP hD hS hl hw
      | 16, _, hw =>
        refine lv_tableIn (off := 492) (tgt := 524) hx hb dL_law_32 (by decide) (by decide) (by decide) (by decide) ?_
        exact lc16 C0 hK i _ hk2 x y a d H locs ls hP hD hS hl hw
      | 17, _, hw =>
        refine lv_tableIn (off := 515) (tgt := 547) hx hb dL_law_32 (by decide) (by decide) (by decide) (by decide) ?_
        exact lc17 C0 hK i _ hk2 x y a d H locs ls hP hD hS hl hw
      | 18, _, hw =>
        refine lv_tableIn (off := 538) (tgt := 570) hx hb dL_law_32 (by decide) (by decide) (by decide) (by decide) ?_
        exact lc18 C0 hK i _ hk2 x y a d H locs ls hP hD hS hl hw
      | 19, _, hw =>
        refine lv_tableIn (off := 561) (tgt := 593) hx hb dL_law_32 (by decide) (by decide) (by decide) (by decide) ?_
        exact lc19 C0 hK i _ hk2 x y a d H locs ls hP hD hS hl hw
      | 20, _, hw =>
        refine lv_tableIn (off := 594) (tgt := 626) hx hb dL_law_32 (by decide) (by decide) (by decide) (by decide) ?_
        exact lc20 C0 hK i _ hk2 x y a d H locs ls hP hD hS hl hw
      | 21, _, hw =>
        refine lv_tableIn (off := 627) (tgt := 659) hx hb dL_law_32 (by decide) (by decide) (by decide) (by decide) ?_
        exact lc21 C0 hK i _ hk2 x y a d H locs ls hP hD hS hl hw
      | 22, _, hw =>
        refine lv_tableIn (off := 640) (tgt := 672) hx hb dL_law_32 (by decide) (by decide) (by decide) (by decide) ?_
        exact lc22 C0 hK i _ hk2 x y a d H locs ls hP hD hS hl hw
      | 23, _, hw =>
        refine lv_tableIn (off := 653) (tgt := 685) hx hb dL_law_32 (by decide) (by decide) (by decide) (by decide) ?_
        exact lc23 C0 hK i _ hk2 x y a d H locs ls hP hD hS hl hw
      | 24, _, hw =>
        refine lv_tableIn (off := 666) (tgt := 698) hx hb dL_law_32 (by decide) (by decide) (by decide) (by decide) ?_
        exact lc24 C0 hK i _ hk2 x y a d H locs ls hP hD hS hl hw
      | 25, _, hw =>
        refine lv_tableIn (off := 679) (tgt := 711) hx hb dL_law_32 (by decide) (by decide) (by decide) (by decide) ?_
        exact lc25 C0 hK i _ hk2 x y a d H locs ls hP hD hS hl hw
      | 26, _, hw =>
        refine lv_tableIn (off := 702) (tgt := 734) hx hb dL_law_32 (by decide) (by decide) (by decide) (by decide) ?_
        exact lc26 C0 hK i _ hk2 x y a d H locs ls hP hD hS hl hw
      | k + 27, hk, hw =>
        refine lv_tableOut (tgt := 748) hx hb dL_law_32 (Or.inr (by rw [nI_toInt (by omega)]; omega)) (by decide) ?_
        exact hk2 x y a d H locs ls hP hD hS hl hw
