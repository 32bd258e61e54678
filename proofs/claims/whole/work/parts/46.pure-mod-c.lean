/-! the reference: pressures, the kill density, rows of pumpings -/
def colT (w : PW) (c : Nat) : Ly := if c = 0 then (gP w).reverse else gA w
theorem colT_rep {f : Nat → Int32} {w : PW} {c : Nat} (h : repN f w) (hc : c ≤ 1) : colR f (16 + 2200 * c) (colT w c) ∧ f (11 + c) = nI (colT w c).length ∧ f (1 + c) = nI (gS w (1 + c)) := by
  obtain ⟨⟨s1, -⟩, ⟨n1, n2⟩, cP, cA⟩ := h
  rcases (show c = 0 ∨ c = 1 by omega) with rfl | rfl
  · exact ⟨cP, by rw [show (colT w 0).length = (gP w).length by simp [colT]]; exact n1, s1 1 (by decide)⟩
  · exact ⟨cA, n2, s1 2 (by decide)⟩
theorem colT_fit {w : PW} (h : okW w) (c : Nat) : fit (colT w c) := by
  unfold colT; split
  · exact fit_rev h.2.1.1
  · exact h.2.2.1
theorem partP_eq {w : PW} {c m : Nat} (hc : c ≤ 1) : partP w c m = hyd (ld (m * gS w (1 + c)) (colT w c)) (gS w (1 + c)) := by
  rcases (show c = 0 ∨ c = 1 by omega) with rfl | rfl <;> rfl
theorem part_whole {w : PW} {c : Nat} (h : okW w) (hc : c ≤ 1) : partP w c (gS w 0) = wholeP w c := by
  rcases (show c = 0 ∨ c = 1 by omega) with rfl | rfl
  · show hyd (ld (gS w 0 * gS w 1) (gP w).reverse) (gS w 1) = hyd (lload (gP w)) (gS w 1)
    rw [← h.2.1.2.2, ← lsum_rev (gP w), ld_all, lload_rev]
  · show hyd (ld (gS w 0 * gS w 2) (gA w)) (gS w 2) = hyd (lload (gA w)) (gS w 2)
    rw [← h.2.2.2.2, ld_all]
theorem press_L {x : Mod} {c : Nat} {T : Ly} {K : Int32 → Int64 → Int32 → Prop} (hc : c ≤ 1) (cR : colR (mN x) (16 + 2200 * c) T) (cn : mN x (11 + c) = nI T.length) (hl : T.length ≤ 1100) : ∀ (s : Ly) (i v sm m : Nat), T.drop i = s → i ≤ T.length → fit s → lsum s ≤ 1000000 → v ≤ 1000000 → s.length < m → (∀ i' j', K i' (lN (sm + ld v s)) j') → qX3_pressureOf_L17 (nI c) x K m (nI i) (lN sm) (nI v) := by
  intro s
  induction s with
  | nil =>
    intro i v sm m hd hi fs hss hv hm hk
    obtain ⟨m, rfl⟩ : ∃ k, m = k + 1 := ⟨m - 1, by omega⟩
    unfold qX3_pressureOf_L17
    have := drop_nil hd
    rw [show (11 : Int32) = nI 11 from rfl, nI_add, clmp (by omega), cn, show i = T.length by omega]
    exact ⟨vpn (by omega) (by decide), fun _ => hk _ _, fun c => absurd (nI_le (Nat.le_refl _) (by omega)) c⟩
  | cons a t ih =>
    intro i v sm m hd hi fs hss hv hm hk
    obtain ⟨m, rfl⟩ : ∃ k, m = k + 1 := ⟨m - 1, by omega⟩
    obtain ⟨h1, h2, h3⟩ := drop_cons hd
    obtain ⟨ha, hft⟩ := fit_cons.mp fs
    have hg := cR i a h1
    unfold qX3_pressureOf_L17
    rw [lsum] at hss
    simp only [List.length_cons] at hm
    rw [show (11 : Int32) = nI 11 from rfl, nI_add, clmp (by omega), cn]
    refine ⟨vpn (by omega) (by decide), fun cc => absurd cc (nI_ge h3 (by omega)), fun _ => ⟨fun cc => ?_, fun cc => ?_⟩⟩
    · have v0 := (le0 (by omega)).mp cc
      subst v0
      have := hk (nI i) (nI 0)
      rw [ld_0 _ fs, Nat.add_zero] at this
      exact this
    · have v0 : v ≠ 0 := fun z => cc ((le0 (by omega)).mpr z)
      refine vac ⟨vpn (by omega) (by decide), ?_⟩
      rw [clmp (by omega), hg.1, nI_1]
      rw [ld] at hk
      refine ⟨fun c2 => ?_, fun c2 => ?_⟩
      · have c3 := (nI_leI (by omega) (by omega)).mp c2
        refine dac ⟨vpn (by omega) (by decide), fun y hy z hz => ?_⟩
        rw [clmp (by omega), show 1116 + 2200 * c + i = 16 + 2200 * c + 1100 + i by omega, hg.2, nI_l (by omega), nI_l (by omega), lN_mul, lN_add] at hy
        rw [subI (Nat.le_refl _), Nat.sub_self] at hz
        rw [hy, hz]
        refine ih (i + 1) 0 (sm + v * a.2) m h2 (by omega) hft (by omega) (by omega) (by omega) (fun i' j' => ?_)
        rw [ld_0 _ hft, Nat.add_zero]
        by_cases c4 : a.1 ≤ v
        · rw [if_pos c4, show v - a.1 = 0 by omega, ld_0 _ hft, Nat.add_zero] at hk
          rw [show v = a.1 by omega]
          exact hk i' j'
        · rw [if_neg c4] at hk
          exact hk i' j'
      · have c3 : ¬ v ≤ a.1 := fun z => c2 ((nI_leI (by omega) (by omega)).mpr z)
        refine vac ⟨vpn (by omega) (by decide), fun u hu => ?_⟩
        rw [clmp (by omega), hg.1] at hu
        subst hu
        refine dac ⟨vpn (by omega) (by decide), fun y hy z hz => ?_⟩
        rw [clmp (by omega), show 1116 + 2200 * c + i = 16 + 2200 * c + 1100 + i by omega, hg.2, nI_l (by omega), nI_l (by omega), lN_mul, lN_add] at hy
        rw [subI (by omega)] at hz
        rw [hy, hz]
        rw [if_pos (by omega)] at hk
        exact ih (i + 1) (v - a.1) (sm + a.1 * a.2) m h2 (by omega) hft (by omega) (by omega) (by omega) (fun i' j' => by rw [Nat.add_assoc]; exact hk i' j')
theorem pressM_ok {x : Mod} {w : PW} {c m : Nat} {Q : Int32 → Prop} (h : repN (mN x) w) (ho : okW w) (hl : (gP w).length ≤ 1100 ∧ (gA w).length ≤ 1100) (hc : c ≤ 1) (hm : m ≤ gS w 0) (hk : Q (nI (partP w c m))) : qX3_pressureOf x (nI c) (nI m) Q := by
  obtain ⟨cR, cn, cc⟩ := colT_rep h hc
  have hv := vol_lt ho.1
  obtain ⟨h0, h1, h2, -⟩ := ho.1
  have hcap : 1 ≤ gS w (1 + c) ∧ gS w (1 + c) ≤ 60 ∧ gS w 0 * gS w (1 + c) ≤ 180000 := by
    rcases (show c = 0 ∨ c = 1 by omega) with rfl | rfl
    · exact ⟨h1.1, by show gS w 1 ≤ 60; omega, by show gS w 0 * gS w 1 ≤ 180000; omega⟩
    · exact ⟨by show 1 ≤ gS w 2; omega, h2.2, by show gS w 0 * gS w 2 ≤ 180000; omega⟩
  have hTs : lsum (colT w c) ≤ 1000000 := by
    unfold colT; split
    · rw [lsum_rev, ho.2.1.2.2]; omega
    · rw [ho.2.2.2.2]; omega
  have hTl : (colT w c).length ≤ 1100 := by
    unfold colT; split
    · simp; exact hl.1
    · exact hl.2
  have a1 : m * gS w (1 + c) ≤ gS w 0 * gS w (1 + c) := Nat.mul_le_mul_right _ hm
  have l1 := ld_le (colT w c) (m * gS w (1 + c)) (colT_fit ho c)
  unfold qX3_pressureOf
  rw [show (1 : Int32) = nI 1 from rfl, nI_add]
  refine ⟨vpn (by omega) (by decide), fun u hu => ⟨(colT w c).length + 1, ?_⟩⟩
  rw [clmp (by omega), cc, pk_mul] at hu
  subst hu
  rw [show (0 : Int32) = nI 0 from rfl, show (0 : Int64) = lN 0 from rfl]
  refine press_L hc cR cn hTl (colT w c) 0 (m * gS w (1 + c)) 0 _ rfl (Nat.zero_le _) (colT_fit ho c) hTs (by omega) (by omega) (fun i' j' => ?_)
  rw [clmp (by omega), cc, nI_l (by omega), show (100000 : Int64) = lN 100000 from rfl, show (981 : Int64) = lN 981 from rfl, lN_mul, lN_mul, Nat.zero_add]
  refine ⟨vpn (by omega) (by decide), fun z => ?_, ?_⟩
  · rw [pk_lEQ (by omega) (by decide)] at z; omega
  · rw [pk_lDiv (by omega) (by omega) (by omega), lN_i]
    rw [partP_eq hc] at hk
    exact hk
theorem lack_ok {x : Mod} {w : PW} {c : Nat} {Q : Int32 → Prop} (h : repN (mN x) w) (ho : okW w) (hl : (gP w).length ≤ 1100 ∧ (gA w).length ≤ 1100) (hc : c ≤ 1) (hk : Q (nI (gS w 5 - wholeP w c))) : qX3_lacking x (nI c) Q := by
  have h5 := ho.1.2.2.2.2.2.1
  have hw := wholeP_le ho c
  unfold qX3_lacking
  rw [tN0, tN5, h.1.1 0 (by decide), h.1.1 5 (by decide)]
  refine pressM_ok h ho hl hc (Nat.le_refl _) ?_
  rw [part_whole ho hc]
  intro u hu
  subst hu
  refine ⟨fun c => ?_, fun c => ?_⟩
  · have c1 := (np_sub (by omega) (by omega)).mp c
    rw [show gS w 5 - wholeP w _ = 0 by omega] at hk
    exact hk
  · have c1 : ¬ gS w 5 ≤ wholeP w _ := fun z => c ((np_sub (by omega) (by omega)).mpr z)
    rw [subI (by omega)]
    exact hk
theorem shoeM_ok {x : Mod} {w : PW} {Q : Int32 → Prop} (h : repN (mN x) w) (ho : okW w) (hl : (gP w).length ≤ 1100 ∧ (gA w).length ≤ 1100) (hk : Q (nI (atS w))) : qX3_atShoe x Q := by
  unfold qX3_atShoe
  rw [show (1 : Int32) = nI 1 from rfl]
  refine lack_ok h ho hl (by decide) ?_
  rw [tN3, h.1.1 3 (by decide)]
  refine pressM_ok h ho hl (by decide) ho.1.2.2.2.1.2 ?_
  rw [nI_add]
  exact hk
theorem rep_set {f : Nat → Int32} {w : PW} {b m : Int32} (h : repN f w) (hl : (gP w).length ≤ 1100 ∧ (gA w).length ≤ 1100) : repN (upd (upd f 9 b) 10 m) (gS w, gG w, b, m, gP w, gA w) := by
  obtain ⟨⟨s1, s2⟩, ⟨n1, n2⟩, cP, cA⟩ := h
  refine ⟨⟨fun j hj => ?_, ?_, ?_, ?_⟩, ⟨?_, ?_⟩, fun j b hjb => ?_, fun j b hjb => ?_⟩
  · rw [pk_un (by omega), pk_un (by omega)]; exact s1 j hj
  · rw [pk_un (by omega), pk_un (by omega)]; exact s2.1
  · rw [pk_un (by omega), pk_us]
  · rw [pk_us]
  · rw [pk_un (by omega), pk_un (by omega)]; exact n1
  · rw [pk_un (by omega), pk_un (by omega)]; exact n2
  · rw [pk_un (by omega), pk_un (by omega), pk_un (by omega), pk_un (by omega)]; exact cP j b hjb
  · rw [pk_un (by omega), pk_un (by omega), pk_un (by omega), pk_un (by omega)]; exact cA j b hjb
theorem add00 (x : Int32) : x + 0 = x := by
  apply Int32.toBitVec_inj.1
  show x.toBitVec + 0#32 = x.toBitVec
  simp
theorem nlt_le (a b : Int32) : ¬ a < b ↔ b ≤ a := by
  rw [Int32.lt_iff_toInt_lt, Int32.le_iff_toInt_le]; omega
theorem checkM_ok {x : Mod} {w : PW} {Q : Mod → Prop} (h : repN (mN x) w) (ho : okW w) (hl : (gP w).length ≤ 1100 ∧ (gA w).length ≤ 1100) (hk : ∀ f, repN f (chk w) → Q (wN x f)) : qX3_check x Q := by
  have h7 := ho.1.2.2.2.2.2.2.2
  have hs := atS_le ho
  unfold qX3_check
  rw [tN7, tN9, tN10, h.1.1 7 (by decide)]
  refine shoeM_ok h ho hl ⟨fun c => ?_, fun c => ?_⟩
  · have c1 := (nI_leI (by omega) (by omega)).mp c
    rw [add00, pk_un (by omega)]
    refine ⟨fun c2 => ?_, fun c2 => ?_⟩
    · apply hk
      have := rep_set (b := mN x 9) (m := mN x 10) h hl
      rw [h.1.2.2.1, h.1.2.2.2] at this
      rw [h.1.2.2.1, h.1.2.2.2]
      unfold chk
      rw [if_pos c1, if_neg ((nlt_le _ _).mpr (by rw [h.1.2.2.2] at c2; exact c2))]
      exact this
    · apply hk
      have := rep_set (b := mN x 9) (m := nI (atS w)) h hl
      rw [h.1.2.2.1] at this
      rw [h.1.2.2.1]
      unfold chk
      rw [if_pos c1, if_pos (Classical.byContradiction fun z => c2 (by rw [h.1.2.2.2]; exact (nlt_le _ _).mp z))]
      exact this
  · have c1 : ¬ atS w ≤ gS w 7 := fun z => c ((nI_leI (by omega) (by omega)).mpr z)
    rw [pk_un (by omega)]
    refine ⟨fun c2 => ?_, fun c2 => ?_⟩
    · apply hk
      have := rep_set (b := mN x 9 + 1) (m := mN x 10) h hl
      rw [h.1.2.2.1, h.1.2.2.2] at this
      rw [h.1.2.2.1, h.1.2.2.2]
      unfold chk
      rw [if_neg c1, if_neg ((nlt_le _ _).mpr (by rw [h.1.2.2.2] at c2; exact c2))]
      exact this
    · apply hk
      have := rep_set (b := mN x 9 + 1) (m := nI (atS w)) h hl
      rw [h.1.2.2.1] at this
      rw [h.1.2.2.1]
      unfold chk
      rw [if_neg c1, if_pos (Classical.byContradiction fun z => c2 (by rw [h.1.2.2.2]; exact (nlt_le _ _).mp z))]
      exact this
theorem volM0 {x : Mod} {w : PW} {Q : Int32 → Prop} (h : repN (mN x) w) (hk : Q (nI (gS w 0 * gS w 1))) : qX3_volumeOf x 0 Q := by
  unfold qX3_volumeOf
  rw [show (1 : Int32) + 0 = 1 from by decide, tN0, tN1, h.1.1 0 (by decide), h.1.1 1 (by decide), pk_mul]
  exact ⟨vp_c 1 4416 (by decide), hk⟩
theorem volM1 {x : Mod} {w : PW} {Q : Int32 → Prop} (h : repN (mN x) w) (hk : Q (nI (gS w 0 * gS w 2))) : qX3_volumeOf x 1 Q := by
  unfold qX3_volumeOf
  rw [show (1 : Int32) + 1 = 2 from by decide, tN0, tN2, h.1.1 0 (by decide), h.1.1 2 (by decide), pk_mul]
  exact ⟨vp_c 2 4416 (by decide), hk⟩
/-- where the least density stops -/
theorem kil_lt {w : PW} (ho : okW w) (d : Nat) : 981 * (d * (gS w 0 * gS w 1)) / (100000 * gS w 1) < gS w 5 ↔ d < kil w := by
  obtain ⟨h0, h1, -⟩ := ho.1
  have e1 : 981 * (d * (gS w 0 * gS w 1)) = (981 * (d * gS w 0)) * gS w 1 := by
    rw [← Nat.mul_assoc d, Nat.mul_assoc 981]
  rw [e1, Nat.mul_div_mul_right _ _ (by omega), Nat.div_lt_iff_lt_mul (by decide)]
  unfold kil
  rw [← Nat.succ_le_iff (m := d), Nat.le_div_iff_mul_le (by omega)]
  have e2 : 981 * (d * gS w 0) = d * (981 * gS w 0) := by
    rw [← Nat.mul_assoc, Nat.mul_comm 981 d, Nat.mul_assoc]
  have e3 : d.succ * (981 * gS w 0) = d * (981 * gS w 0) + 981 * gS w 0 := Nat.succ_mul _ _
  rw [e2, e3]
  omega
theorem least_L {x : Mod} {w : PW} {Q : Int32 → Prop} {K : Int32 → Prop} (h : repN (mN x) w) (ho : okW w) (hK : ∀ i, ¬ kil w ≤ 2500 → K i) (hQ : kil w ≤ 2500 → Q (nI (if kil w < 1 then 1 else kil w))) : ∀ (n d m : Nat), d + n = 2501 → 1 ≤ d → (d = 1 ∨ d ≤ kil w) → n < m → qX3_leastDensity_L2 x Q K m (nI d) := by
  have hv := vol_lt ho.1
  have h5 := ho.1.2.2.2.2.2.1
  obtain ⟨h0, h1, -⟩ := id ho.1
  intro n
  induction n with
  | zero =>
    intro d m hd h1 hc hm
    obtain ⟨m, rfl⟩ : ∃ k, m = k + 1 := ⟨m - 1, by omega⟩
    unfold qX3_leastDensity_L2
    refine ⟨fun _ => hK _ (by omega), fun c => absurd ?_ c⟩
    rw [show (2500 : Int32) = nI 2500 from rfl]
    exact nI_lt (by omega) (by omega)
  | succ n ih =>
    intro d m hd hd1 hc hm
    obtain ⟨m, rfl⟩ : ∃ k, m = k + 1 := ⟨m - 1, by omega⟩
    have hm1 : d * (gS w 0 * gS w 1) ≤ 2500 * 60000 := Nat.mul_le_mul (by omega) hv.1
    unfold qX3_leastDensity_L2
    refine ⟨fun c => absurd c ?_, fun _ => volM0 h (fun y hy => ?_)⟩
    · rw [show (2500 : Int32) = nI 2500 from rfl]
      exact nI_nlt (by omega) (by omega)
    · rw [nI_l (by omega), nI_l (by omega), lN_mul] at hy
      subst hy
      rw [tN1, tN5, h.1.1 1 (by decide), h.1.1 5 (by decide), nI_l (by omega), nI_l (by omega), show (100000 : Int64) = lN 100000 from rfl, show (981 : Int64) = lN 981 from rfl, lN_mul, lN_mul, pk_lDiv (by omega) (by omega) (by omega)]
      refine ⟨fun z => ?_, ?_⟩
      · rw [show (0 : Int64) = lN 0 from rfl, pk_lEQ (by omega) (by decide)] at z; omega
      · have hle := Nat.div_le_self (981 * (d * (gS w 0 * gS w 1))) (100000 * gS w 1)
        rw [lg_cmp_lt, pk_lLT (by omega) (by omega), kil_lt ho, nI_1]
        refine ⟨fun c => ih (d + 1) m (by omega) (by omega) (Or.inr (by omega)) (by omega), fun c => ?_⟩
        have e : d = if kil w < 1 then 1 else kil w := by
          split <;> omega
        rw [e]
        exact hQ (by omega)
theorem leastM_ok {x : Mod} {w : PW} {Q : Int32 → Prop} (h : repN (mN x) w) (ho : okW w) (hk : Q (kilI w)) : qX3_leastDensity x Q := by
  unfold kilI at hk
  refine ⟨2501, ?_⟩
  rw [show (1 : Int32) = nI 1 from rfl]
  exact least_L h ho (fun i c => by rw [if_neg c] at hk; exact hk) (fun c => by rw [if_pos c] at hk; exact hk) 2500 1 _ (by decide) (by decide) (Or.inl rfl) (by decide)
/-- the greatest pressure over a row of pumpings -/
def grt (v d : Nat) : Nat → PW → Int32 → Int32
  | 0, _, g => g
  | n + 1, w, g => grt v d n (pmp v d w) (if g < nI (atS (pmp v d w)) then nI (atS (pmp v d w)) else g)
def pmI (v d : Nat) : Nat → PW → PW
  | 0, w => w
  | n + 1, w => pmI v d n (pmp v d w)
theorem grt_chk (v d : Nat) : ∀ (n : Nat) (w : PW) (b m g : Int32), grt v d n (gS w, gG w, b, m, gP w, gA w) g = grt v d n w g
  | 0, _, _, _, _ => rfl
  | n + 1, w, b, m, g => by
    rw [grt, grt]
    exact grt_chk v d n (pmp v d w) b m _
theorem gM_stp (v d : Nat) : ∀ (n : Nat) (w : PW), gM (stp v d n w) = grt v d n w (gM w)
  | 0, _ => rfl
  | n + 1, w => by
    rw [stp, gM_stp v d n, grt]
    exact grt_chk v d n (pmp v d w) _ _ _
theorem stp_eq (v d : Nat) : ∀ (n : Nat) (w : PW), gS (stp v d n w) = gS (pmI v d n w) ∧ gP (stp v d n w) = gP (pmI v d n w) ∧ gA (stp v d n w) = gA (pmI v d n w)
  | 0, _ => ⟨rfl, rfl, rfl⟩
  | n + 1, w => by
    have key : ∀ (n : Nat) (w : PW) (b m : Int32), gS (pmI v d n (gS w, gG w, b, m, gP w, gA w)) = gS (pmI v d n w) ∧ gP (pmI v d n (gS w, gG w, b, m, gP w, gA w)) = gP (pmI v d n w) ∧ gA (pmI v d n (gS w, gG w, b, m, gP w, gA w)) = gA (pmI v d n w) := by
      intro n
      induction n with
      | zero => intro w b m; exact ⟨rfl, rfl, rfl⟩
      | succ n ih => intro w b m; exact ih (pmp v d w) b m
    obtain ⟨i1, i2, i3⟩ := stp_eq v d n (chk (pmp v d w))
    obtain ⟨k1, k2, k3⟩ := key n (pmp v d w) (gB (chk (pmp v d w))) (gM (chk (pmp v d w)))
    exact ⟨i1.trans k1, i2.trans k2, i3.trans k3⟩
theorem okW_pmI {v d : Nat} (hv : 0 < v) (hd : 1 ≤ d ∧ d ≤ 2500) : ∀ (n : Nat) (w : PW), okW w → v ≤ gS w 0 * gS w 1 → v ≤ gS w 0 * gS w 2 → okW (pmI v d n w) ∧ gS (pmI v d n w) = gS w ∧ rmB d (pmI v d n w) ≤ rmB d w
  | 0, w, h, _, _ => ⟨h, rfl, Nat.le_refl _⟩
  | n + 1, w, h, hp, ha => by
    obtain ⟨i1, i2, i3⟩ := okW_pmI hv hd n (pmp v d w) (okW_pmp h hv hp ha hd) hp ha
    exact ⟨i1, i2, Nat.le_trans i3 (rmB_pmp h hv hp ha)⟩
theorem all_L {l v d : Nat} {K : Int32 → Int32 → Mod → Prop} (hl : l ≤ 1000000) (hv : 0 < v) (hv2 : v ≤ 10000) (hd : 1 ≤ d ∧ d ≤ 2500) : ∀ (n i : Nat) (g : Int32) (x : Mod) (w : PW) (m : Nat), repN (mN x) w → okW w → v ≤ gS w 0 * gS w 1 → v ≤ gS w 0 * gS w 2 → rmB d w ≤ 517 → i + n = cnt l v → n < m → (∀ i' f, repN f (pmI v d n w) → K i' (grt v d n w g) (wN x f)) → qX3_pumpAll_L7 (nI l) (nI v) (nI d) K m (nI (i * v)) g x := by
  have hc : ∀ i, i < cnt l v ↔ i * v < l := by
    intro i
    unfold cnt
    rw [← Nat.succ_le_iff, Nat.le_div_iff_mul_le hv, Nat.succ_mul]
    omega
  intro n
  induction n with
  | zero =>
    intro i g x w m h ho hp ha hr hi hm hk
    obtain ⟨m, rfl⟩ : ∃ k, m = k + 1 := ⟨m - 1, by omega⟩
    have h1 : ¬ i * v < l := fun z => by have := (hc i).mpr z; omega
    have h2 : i * v < 1010000 := by
      by_cases i0 : i = 0
      · subst i0; omega
      · have h3 := (hc (i - 1)).mp (by omega)
        have h4 : i * v = (i - 1) * v + v := by
          have : i = (i - 1) + 1 := by omega
          calc i * v = ((i - 1) + 1) * v := by rw [← this]
            _ = (i - 1) * v + v := Nat.succ_mul _ _
        omega
    unfold qX3_pumpAll_L7
    exact ⟨fun _ => hk _ _ h, fun c => absurd (nI_le (by omega) (by omega)) c⟩
  | succ n ih =>
    intro i g x w m h ho hp ha hr hi hm hk
    obtain ⟨m, rfl⟩ : ∃ k, m = k + 1 := ⟨m - 1, by omega⟩
    have h1 := (hc i).mp (by omega)
    have hlen := rmB_len (d := d) ho
    have o1 := okW_pmp ho hv hp ha hd
    have r1 := rmB_pmp (d := d) ho hv hp ha
    have hlen1 := rmB_len (d := d) o1
    unfold qX3_pumpAll_L7
    refine ⟨fun c => absurd c (nI_ge h1 (by omega)), fun _ => ?_⟩
    refine pumpM_ok h ho hv hp ha hd (by omega) (fun f hf => ?_)
    refine shoeM_ok (x := wN x f) hf o1 ⟨by omega, by omega⟩ ?_
    have e : i * v + v = (i + 1) * v := (Nat.succ_mul _ _).symm
    rw [nI_add, e]
    refine ⟨fun c u hu => ?_, fun c u hu => ?_⟩
    · subst hu
      refine ih (i + 1) g (wN x f) (pmp v d w) m hf o1 hp ha (by omega) (by omega) (by omega) (fun i' f' hf' => ?_)
      have := hk i' f' hf'
      rw [grt, if_neg ((nlt_le _ _).mpr c)] at this
      exact this
    · subst hu
      refine ih (i + 1) _ (wN x f) (pmp v d w) m hf o1 hp ha (by omega) (by omega) (by omega) (fun i' f' hf' => ?_)
      have := hk i' f' hf'
      rw [grt, if_pos (Classical.byContradiction fun z => c ((nlt_le _ _).mp z))] at this
      exact this
theorem all_ok {l v d : Nat} {g : Int32} {x : Mod} {w : PW} {Q : Int32 → Mod → Prop} (h : repN (mN x) w) (ho : okW w) (hl : l ≤ 1000000) (hv : 0 < v) (hv2 : v ≤ 10000) (hd : 1 ≤ d ∧ d ≤ 2500) (hp : v ≤ gS w 0 * gS w 1) (ha : v ≤ gS w 0 * gS w 2) (hr : rmB d w ≤ 517) (hk : ∀ f, repN f (pmI v d (cnt l v) w) → Q (grt v d (cnt l v) w g) (wN x f)) : qX3_pumpAll x (nI l) (nI v) (nI d) g Q := by
  refine ⟨cnt l v + 1, ?_⟩
  rw [show (0 : Int32) = nI (0 * v) by rw [Nat.zero_mul]; rfl]
  exact all_L hl hv hv2 hd (cnt l v) 0 g x w _ h ho hp ha hr (by omega) (by omega) (fun _ f hf => hk f hf)
