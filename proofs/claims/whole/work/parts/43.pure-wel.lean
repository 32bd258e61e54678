/-! a well: its settings, the gain, the breaks, the greatest pressure, the two columns -/
abbrev PW : Type := (Nat → Nat) × Int32 × Int32 × Int32 × Ly × Ly
abbrev gS (w : PW) : Nat → Nat := w.1
abbrev gG (w : PW) : Int32 := w.2.1
abbrev gB (w : PW) : Int32 := w.2.2.1
abbrev gM (w : PW) : Int32 := w.2.2.2.1
abbrev gP (w : PW) : Ly := w.2.2.2.2.1
abbrev gA (w : PW) : Ly := w.2.2.2.2.2
def okS (S : Nat → Nat) : Prop := (100 ≤ S 0 ∧ S 0 ≤ 3000) ∧ (1 ≤ S 1 ∧ S 1 ≤ 20) ∧ (5 ≤ S 2 ∧ S 2 ≤ 60) ∧ (1 ≤ S 3 ∧ S 3 ≤ S 0) ∧ (1 ≤ S 4 ∧ S 4 ≤ 2500) ∧ S 5 ≤ 60000 ∧ S 6 ≤ 9999 ∧ S 7 ≤ 60000
def okW (w : PW) : Prop := okS (gS w) ∧ (fit (gP w) ∧ nrm (gP w) ∧ lsum (gP w) = gS w 0 * gS w 1) ∧ (fit (gA w) ∧ nrm (gA w) ∧ lsum (gA w) = gS w 0 * gS w 2)
def repW (x : Wel) (w : PW) : Prop := (y0 x = nI (gS w 0) ∧ y1 x = nI (gS w 1) ∧ y2 x = nI (gS w 2) ∧ y3 x = nI (gS w 3) ∧ y4 x = nI (gS w 4) ∧ y5 x = nI (gS w 5) ∧ y6 x = nI (gS w 6) ∧ y7 x = nI (gS w 7)) ∧ (y8 x = gG w ∧ y9 x = gB w ∧ y10 x = gM w) ∧ repC 1 (yP x) (gP w) ∧ repC 0 (yA x) (gA w)
def flg (x : Wel) : Prop := zF (yP x) = 1 ∧ zF (yA x) = 0
theorem repW.flg {x : Wel} {w : PW} (h : repW x w) : flg x := ⟨h.2.2.1.1, h.2.2.2.1⟩
theorem vol_lt {S : Nat → Nat} (h : okS S) : S 0 * S 1 ≤ 60000 ∧ S 0 * S 2 ≤ 180000 ∧ 100 ≤ S 0 * S 1 ∧ 500 ≤ S 0 * S 2 := by
  obtain ⟨h0, h1, h2, -⟩ := h
  have a1 : S 0 * S 1 ≤ 3000 * 20 := Nat.mul_le_mul h0.2 h1.2
  have a2 : S 0 * S 2 ≤ 3000 * 60 := Nat.mul_le_mul h0.2 h2.2
  have a3 : 100 * 1 ≤ S 0 * S 1 := Nat.mul_le_mul h0.1 h1.1
  have a4 : 100 * 5 ≤ S 0 * S 2 := Nat.mul_le_mul h0.1 h2.1
  omega
theorem okW.ne {w : PW} (h : okW w) : gP w ≠ [] ∧ gA w ≠ [] := by
  have hv := vol_lt h.1
  refine ⟨fun e => ?_, fun e => ?_⟩
  · have := h.2.1.2.2; rw [e] at this; simp [lsum] at this; omega
  · have := h.2.2.2.2; rw [e] at this; simp [lsum] at this; omega
theorem mx1 {c : Nat} (h : 1 ≤ c) (h2 : c < 2 ^ 31) : (if (1 : Int32) < nI c then nI c else 1) = nI c := by
  by_cases e : c = 1
  · subst e; rfl
  · rw [if_pos]
    rw [show (1 : Int32) = nI 1 from rfl, nI_ltI (by decide) h2]; omega
/-- the pressure of a load -/
def hyd (l c : Nat) : Nat := 981 * l / (100000 * c)
theorem hyd_le {l c : Nat} (hl : l ≤ 450000000) (hc : 1 ≤ c) : hyd l c ≤ 4414500 := by
  unfold hyd
  have h1 : 981 * l / (100000 * c) ≤ 981 * l / 100000 := Nat.div_le_div_left (by omega) (by decide)
  omega
theorem prs_ok {l c : Nat} {Q : Int32 → Prop} (hl : l ≤ 450000000) (hc : 1 ≤ c) (hc2 : c ≤ 60) (hk : Q (nI (hyd l c))) : qX1_pressureOf (lN l) (nI c) Q := by
  unfold qX1_pressureOf
  rw [mx1 hc (by omega), nI_l (by omega), show (100000 : Int64) = lN 100000 from rfl, show (981 : Int64) = lN 981 from rfl, lN_mul, lN_mul]
  refine ⟨fun z => ?_, ?_⟩
  · rw [show (0 : Int64) = lN 0 from rfl, pk_lEQ (by omega) (by decide)] at z; omega
  · rw [pk_lDiv (by omega) (by omega) (by omega), lN_i]; exact hk
theorem load_le {q : Ly} {n : Nat} (hf : fit q) (hs : lsum q = n) (hn : n ≤ 180000) : lload q ≤ 450000000 := by
  have := lload_le q hf; omega
def wholeP (w : PW) (c : Nat) : Nat := if c = 0 then hyd (lload (gP w)) (gS w 1) else hyd (lload (gA w)) (gS w 2)
def partP (w : PW) (c m : Nat) : Nat := if c = 0 then hyd (ld (m * gS w 1) (gP w).reverse) (gS w 1) else hyd (ld (m * gS w 2) (gA w)) (gS w 2)
theorem whole_ok {x : Wel} {w : PW} {c : Nat} {Q : Int32 → Prop} (h : repW x w) (ho : okW w) (hc : c ≤ 1) (hk : Q (nI (wholeP w c))) : qX1_pressureOfWhole x (nI c) Q := by
  obtain ⟨hy, -, ⟨-, o1, -, -, -, -, hL1, -⟩, ⟨-, o2, -, -, -, -, hL2, -⟩⟩ := h
  have hv := vol_lt ho.1
  have l1 := load_le ho.2.1.1 ho.2.1.2.2 (by omega)
  have l2 := load_le ho.2.2.1 ho.2.2.2.2 (by omega)
  obtain ⟨-, h1, h2, -⟩ := ho.1
  unfold qX1_pressureOfWhole qX1_capacity
  unfold wholeP at hk
  refine ⟨fun c0 => ⟨fun z => absurd c0 z, fun _ => ?_⟩, fun c0 => ⟨fun _ => ?_, fun z => absurd z c0⟩⟩
  · rw [if_pos ((eq0 (by omega)).mp c0)] at hk
    rw [hL1, hy.2.1]
    exact prs_ok l1 h1.1 (by omega) hk
  · rw [if_neg (fun z => c0 ((eq0 (by omega)).mpr z))] at hk
    rw [hL2, hy.2.2.1]
    exact prs_ok l2 (by omega) h2.2 hk
theorem part_ok {x : Wel} {w : PW} {c m : Nat} {Q : Int32 → Prop} (h : repW x w) (ho : okW w) (hc : c ≤ 1) (hm : m ≤ gS w 0) (hk : Q (nI (partP w c m))) : qX1_pressureOfPart x (nI c) (nI m) Q := by
  obtain ⟨hy, -, hP, hA⟩ := h
  have hv := vol_lt ho.1
  obtain ⟨h0, h1, h2, -⟩ := ho.1
  have a1 : m * gS w 1 ≤ gS w 0 * gS w 1 := Nat.mul_le_mul_right _ hm
  have a2 : m * gS w 2 ≤ gS w 0 * gS w 2 := Nat.mul_le_mul_right _ hm
  unfold qX1_pressureOfPart qX1_capacity
  unfold partP at hk
  refine ⟨fun c0 => ⟨fun z => absurd z c0, fun _ => ?_⟩, fun c0 => ⟨fun _ => ?_, fun z => absurd c0 z⟩⟩
  · rw [if_neg (fun z => c0 ((eq0 (by omega)).mpr z))] at hk
    rw [hy.2.2.1, pk_mul]
    refine above_ok hA ho.2.2.1 (by rw [ho.2.2.2.2]; omega) (by omega) ?_
    refine prs_ok ?_ (by omega) h2.2 hk
    have := ld_le (top 0 (gA w)) (m * gS w 2) (fit_top ho.2.2.1); omega
  · rw [if_pos ((eq0 (by omega)).mp c0)] at hk
    rw [hy.2.1, pk_mul]
    refine above_ok hP ho.2.1.1 (by rw [ho.2.1.2.2]; omega) (by omega) ?_
    refine prs_ok ?_ h1.1 (by omega) hk
    have := ld_le (top 1 (gP w)) (m * gS w 1) (fit_top ho.2.1.1); omega
theorem wholeP_le {w : PW} (ho : okW w) (c : Nat) : wholeP w c ≤ 4414500 := by
  have hv := vol_lt ho.1
  obtain ⟨-, h1, h2, -⟩ := ho.1
  unfold wholeP
  split
  · exact hyd_le (load_le ho.2.1.1 ho.2.1.2.2 (by omega)) h1.1
  · exact hyd_le (load_le ho.2.2.1 ho.2.2.2.2 (by omega)) (by omega)
theorem partP_le {w : PW} (ho : okW w) (c m : Nat) (hm : m ≤ gS w 0) : partP w c m ≤ 4414500 := by
  have hv := vol_lt ho.1
  obtain ⟨h0, h1, h2, -⟩ := ho.1
  have a1 : m * gS w 1 ≤ gS w 0 * gS w 1 := Nat.mul_le_mul_right _ hm
  have a2 : m * gS w 2 ≤ gS w 0 * gS w 2 := Nat.mul_le_mul_right _ hm
  unfold partP
  split
  · have := ld_le (gP w).reverse (m * gS w 1) (fit_rev ho.2.1.1)
    exact hyd_le (by omega) h1.1
  · have := ld_le (gA w) (m * gS w 2) ho.2.2.1
    exact hyd_le (by omega) (by omega)
def atP (w : PW) : Nat := gS w 5 - wholeP w 0
def atC (w : PW) : Nat := gS w 5 - wholeP w 1
def atS (w : PW) : Nat := atC w + partP w 1 (gS w 3)
theorem pipe_ok {x : Wel} {w : PW} {Q : Int32 → Prop} (h : repW x w) (ho : okW w) (hk : Q (nI (atP w))) : qX1_pressureAtPipe x Q := by
  have h5 := ho.1.2.2.2.2.2.1
  have := wholeP_le ho 0
  unfold qX1_pressureAtPipe
  rw [show (0 : Int32) = nI 0 from rfl]
  refine whole_ok h ho (by decide) ?_
  rw [h.1.2.2.2.2.2.1, show nI 0 = (0 : Int32) from rfl, pos_sub (by omega) (by omega)]
  exact hk
theorem casing_ok {x : Wel} {w : PW} {Q : Int32 → Prop} (h : repW x w) (ho : okW w) (hk : Q (nI (atC w))) : qX1_pressureAtCasing x Q := by
  have h5 := ho.1.2.2.2.2.2.1
  have := wholeP_le ho 1
  unfold qX1_pressureAtCasing
  rw [show (1 : Int32) = nI 1 from rfl]
  refine whole_ok h ho (by decide) ?_
  rw [h.1.2.2.2.2.2.1, pos_sub (by omega) (by omega)]
  exact hk
theorem stand_ok {x : Wel} {w : PW} {Q : Int32 → Prop} (h : repW x w) (ho : okW w) (hk : Q (nI (gS w 6 + atP w))) : qX1_pressureAtStandpipe x Q := by
  refine pipe_ok h ho ?_
  rw [h.1.2.2.2.2.2.2.1, nI_add]
  exact hk
theorem shoe_ok {x : Wel} {w : PW} {Q : Int32 → Prop} (h : repW x w) (ho : okW w) (hk : Q (nI (atS w))) : qX1_pressureAtShoe x Q := by
  refine casing_ok h ho ?_
  rw [h.1.2.2.2.1, show (1 : Int32) = nI 1 from rfl]
  refine part_ok h ho (by decide) ho.1.2.2.2.1.2 ?_
  rw [nI_add]
  exact hk
theorem atS_le {w : PW} (ho : okW w) : atS w ≤ 5000000 := by
  have h5 := ho.1.2.2.2.2.2.1
  have := partP_le ho 1 (gS w 3) ho.1.2.2.2.1.2
  unfold atS atC; omega
/-- the shoe is looked at once -/
def chk (w : PW) : PW := (gS w, gG w, if atS w ≤ gS w 7 then gB w else gB w + 1, if gM w < nI (atS w) then nI (atS w) else gM w, gP w, gA w)
theorem okW_chk {w : PW} (h : okW w) : okW (chk w) := h
theorem check_ok {x : Wel} {w : PW} {Q : Wel → Prop} (h : repW x w) (ho : okW w) (hk : ∀ x', repW x' (chk w) → Q x') : qX1_checkShoe x Q := by
  have h7 := ho.1.2.2.2.2.2.2.2
  have hs := atS_le ho
  refine shoe_ok h ho ⟨fun c => ?_, fun c => ?_⟩
  · rw [h.1.2.2.2.2.2.2.2] at c
    have c1 := (nI_leI (by omega) (by omega)).mp c
    apply hk
    refine ⟨h.1, ⟨h.2.1.1, ?_, ?_⟩, h.2.2⟩
    · show y9 x = if _ then _ else _
      rw [if_pos c1]; exact h.2.1.2.1
    · show (if y10 x < _ then _ else y10 x) = _
      rw [h.2.1.2.2]; rfl
  · rw [h.1.2.2.2.2.2.2.2] at c
    have c1 : ¬ atS w ≤ gS w 7 := fun z => c ((nI_leI (by omega) (by omega)).mpr z)
    apply hk
    refine ⟨h.1, ⟨h.2.1.1, ?_, ?_⟩, h.2.2⟩
    · show y9 x + 1 = if _ then _ else _
      rw [if_neg c1, h.2.1.2.1]
    · show (if y10 x < _ then _ else y10 x) = _
      rw [h.2.1.2.2]; rfl
def pmp (v d : Nat) (w : PW) : PW := (gS w, gG w, gB w, gM w, pmpP v d (gP w), pmpA v (gP w) (gA w))
theorem okW_pmp {w : PW} {v d : Nat} (h : okW w) (hv : 0 < v) (hp : v ≤ gS w 0 * gS w 1) (ha : v ≤ gS w 0 * gS w 2) (hd : 1 ≤ d ∧ d ≤ 2500) : okW (pmp v d w) := by
  obtain ⟨h0, ⟨f1, n1, s1⟩, ⟨f2, n2, s2⟩⟩ := h
  refine ⟨h0, ⟨fit_ent (fit_drp _ _ f1) ⟨hv, hd.1, hd.2⟩, nrm_ent _ _ (nrm_drp _ _ n1), ?_⟩, ⟨fit_catM _ _ (fit_drp _ _ f2) (fit_tak _ _ f1), nrm_catM _ _ (nrm_drp _ _ n2), ?_⟩⟩
  · show lsum (pmpP v d (gP w)) = gS w 0 * gS w 1
    rw [pmpP, lsum_ent, lsum_drp _ _ (by omega), s1]
    dsimp only; omega
  · show lsum (pmpA v (gP w) (gA w)) = gS w 0 * gS w 2
    rw [pmpA, lsum_catM, lsum_drp _ _ (by omega), lsum_tak _ _ (by omega), s2]
    omega
theorem circ_ok {x : Wel} {w : PW} {v d : Nat} {Q : Wel → Prop} (h : repW x w) (ho : okW w) (hv : 0 < v) (hp : v ≤ gS w 0 * gS w 1) (ha : v ≤ gS w 0 * gS w 2) (hd : 1 ≤ d ∧ d ≤ 2500) (hl : (gP w).length + (gA w).length < 520) (hk : ∀ x', repW x' (pmp v d w) → Q x') : qX1_circulate x (nI v) (nI d) Q := by
  have hvl := vol_lt ho.1
  obtain ⟨h0, ⟨f1, n1, s1⟩, ⟨f2, n2, s2⟩⟩ := ho
  have hlen := len_drp (gA w) v
  refine release_ok h.2.2.2 f2 (by omega) (by omega) (fun a1 ra1 => ?_)
  refine into_ok h.2.2.1 ra1 f1 (fit_drp _ _ f2) (by omega) (by omega) (by omega) (fun p1 a2 rp1 ra2 => ?_)
  have hlen2 := len_drp (gP w) v
  refine enter_ok rp1 (fit_drp _ _ f1) (by omega) (by omega) (by omega) (fun p2 rp2 => ?_)
  exact hk _ ⟨h.1, h.2.1, rp2, ra2⟩
def inx (v d : Nat) (w : PW) : PW := (gS w, gG w + nI v, gB w, gM w, gP w, ent (drp v (gA w)) (v, d))
theorem okW_inx {w : PW} {v d : Nat} (h : okW w) (hv : 0 < v) (ha : v ≤ gS w 0 * gS w 2) (hd : 1 ≤ d ∧ d ≤ 2500) : okW (inx v d w) := by
  obtain ⟨h0, h1, ⟨f2, n2, s2⟩⟩ := h
  refine ⟨h0, h1, ⟨fit_ent (fit_drp _ _ f2) ⟨hv, hd.1, hd.2⟩, nrm_ent _ _ (nrm_drp _ _ n2), ?_⟩⟩
  show lsum (ent (drp v (gA w)) (v, d)) = gS w 0 * gS w 2
  rw [lsum_ent, lsum_drp _ _ (by omega), s2]
  dsimp only; omega
theorem letin_ok {x : Wel} {w : PW} {v d : Nat} {Q : Wel → Prop} (h : repW x w) (ho : okW w) (ha : v ≤ gS w 0 * gS w 2) (hd : d ≤ 2500) (hl : (gA w).length < 520) (hk : ∀ x', repW x' (inx v d w) → Q x') : qX1_letIn x (nI v) (nI d) Q := by
  have hvl := vol_lt ho.1
  obtain ⟨h0, h1, ⟨f2, n2, s2⟩⟩ := ho
  have hlen := len_drp (gA w) v
  refine release_ok h.2.2.2 f2 (by omega) (by omega) (fun a1 ra1 => ?_)
  refine enter_ok ra1 (fit_drp _ _ f2) (by omega) (by omega) hd (fun a2 ra2 => ?_)
  refine hk _ ⟨h.1, ⟨?_, h.2.1.2⟩, h.2.2.1, ra2⟩
  show y8 x + nI v = gG w + nI v
  rw [h.2.1.1]
def anew (S : Nat → Nat) : PW := (S, 0, 0, 0, [(S 0 * S 1, S 4)], [(S 0 * S 2, S 4)])
theorem okW_anew {S : Nat → Nat} (h : okS S) : okW (anew S) := by
  have hv := vol_lt h
  obtain ⟨-, -, -, -, h4, -⟩ := id h
  refine ⟨h, ⟨fit_cons.mpr ⟨⟨by dsimp only; omega, h4.1, h4.2⟩, fit_nil⟩, trivial, ?_⟩, ⟨fit_cons.mpr ⟨⟨by dsimp only; omega, h4.1, h4.2⟩, fit_nil⟩, trivial, ?_⟩⟩
  · rfl
  · rfl
theorem start_ok {x : Wel} {S : Nat → Nat} {Q : Wel → Prop} (hy : y0 x = nI (S 0) ∧ y1 x = nI (S 1) ∧ y2 x = nI (S 2) ∧ y3 x = nI (S 3) ∧ y4 x = nI (S 4) ∧ y5 x = nI (S 5) ∧ y6 x = nI (S 6) ∧ y7 x = nI (S 7)) (hf : flg x) (ho : okS S) (hk : ∀ x', repW x' (anew S) → Q x') : qX1_startAnew x Q := by
  have hv := vol_lt ho
  obtain ⟨-, -, -, -, h4, -⟩ := id ho
  unfold qX1_startAnew qX1_pipeVolume qX1_annulusVolume
  refine clear_ok hf.1 (fun p1 rp1 => ?_)
  have e1 : y0 x * y1 x = nI (S 0 * S 1) := by rw [hy.1, hy.2.1, pk_mul]
  have e2 : y0 x * y2 x = nI (S 0 * S 2) := by rw [hy.1, hy.2.2.1, pk_mul]
  show qX0_enter p1 (y0 x * y1 x) (y4 x) _
  rw [e1, hy.2.2.2.2.1]
  refine enter_ok rp1 fit_nil (by decide) (by omega) h4.2 (fun p2 rp2 => ?_)
  refine clear_ok hf.2 (fun a1 ra1 => ?_)
  show qX0_enter a1 (y0 x * y2 x) (nI (S 4)) _
  rw [e2]
  refine enter_ok ra1 fit_nil (by decide) (by omega) h4.2 (fun a2 ra2 => ?_)
  exact hk _ ⟨⟨hy.1, hy.2.1, hy.2.2.1, hy.2.2.2.1, rfl, hy.2.2.2.2.2⟩, ⟨rfl, rfl, rfl⟩, rp2, ra2⟩
theorem copyW_ok {z x : Wel} {w : PW} {Q : Wel → Prop} (h : repW z w) (ho : okW w) (hf : flg x) (hl : (gP w).length < 520 ∧ (gA w).length < 520) (hk : ∀ x', repW x' w → Q x') : qX1_copyFrom z x Q := by
  have hv := vol_lt ho.1
  obtain ⟨h0, ⟨f1, n1, s1⟩, ⟨f2, n2, s2⟩⟩ := ho
  refine copy_ok h.2.2.1 hf.1 f1 n1 (by omega) hl.1 (fun p1 rp => ?_)
  refine copy_ok h.2.2.2 hf.2 f2 n2 (by omega) hl.2 (fun a1 ra => ?_)
  exact hk _ ⟨h.1, h.2.1, rp, ra⟩
/-- the room that a row of pumpings of one density needs -/
def rmB (d : Nat) (w : PW) : Nat := (catM (gA w) (gP w)).length + (if d = topd (gP w) then 0 else 1)
theorem rmB_len {d : Nat} {w : PW} (h : okW w) : (gP w).length + (gA w).length ≤ rmB d w + 1 := by
  have := len_join_le (gP w) (gA w) h.2.1.2.1 h.ne.1
  unfold rmB; omega
theorem rmB_pmp {v d : Nat} {w : PW} (h : okW w) (hv : 0 < v) (hp : v ≤ gS w 0 * gS w 1) (ha : v ≤ gS w 0 * gS w 2) : rmB d (pmp v d w) ≤ rmB d w := by
  have h1 := pmp_len (d := d) hv (by rw [h.2.1.2.2]; exact hp) (by rw [h.2.2.2.2]; exact ha) h.2.1.1 h.2.2.1 h.2.1.2.1 h.ne.1
  have h2 : topd (pmpP v d (gP w)) = d := by rw [pmpP, topd_ent]
  unfold rmB
  show (catM (pmpA v (gP w) (gA w)) (pmpP v d (gP w))).length + (if d = topd (pmpP v d (gP w)) then 0 else 1) ≤ _
  rw [h2, if_pos rfl]
  exact h1
def stp (v d : Nat) : Nat → PW → PW
  | 0, w => w
  | n + 1, w => stp v d n (chk (pmp v d w))
theorem okW_stp {v d : Nat} (hv : 0 < v) (hd : 1 ≤ d ∧ d ≤ 2500) : ∀ (n : Nat) (w : PW), okW w → v ≤ gS w 0 * gS w 1 → v ≤ gS w 0 * gS w 2 → okW (stp v d n w) ∧ gS (stp v d n w) = gS w ∧ rmB d (stp v d n w) ≤ rmB d w
  | 0, w, h, _, _ => ⟨h, rfl, Nat.le_refl _⟩
  | n + 1, w, h, hp, ha => by
    obtain ⟨i1, i2, i3⟩ := okW_stp hv hd n (chk (pmp v d w)) (okW_chk (okW_pmp h hv hp ha hd)) hp ha
    exact ⟨i1, i2, Nat.le_trans i3 (rmB_pmp h hv hp ha)⟩
theorem steps_L {v d N : Nat} {K : Int32 → Wel → Prop} (hv : 0 < v) (hd : 1 ≤ d ∧ d ≤ 2500) (hN : N < 2 ^ 30) : ∀ (n i : Nat) (x : Wel) (w : PW) (m : Nat), repW x w → okW w → v ≤ gS w 0 * gS w 1 → v ≤ gS w 0 * gS w 2 → rmB d w ≤ 517 → i + n = N → n < m → (∀ i' x', repW x' (stp v d n w) → K i' x') → qX1_circulateInSteps_L10 (nI v) (nI d) (nI N) K m (nI i) x := by
  intro n
  induction n with
  | zero =>
    intro i x w m h ho hp ha hr hi hm hk
    obtain ⟨m, rfl⟩ : ∃ k, m = k + 1 := ⟨m - 1, by omega⟩
    unfold qX1_circulateInSteps_L10
    rw [show i = N by omega]
    exact ⟨fun _ => hk _ _ h, fun c => absurd (nI_le (Nat.le_refl _) (by omega)) c⟩
  | succ n ih =>
    intro i x w m h ho hp ha hr hi hm hk
    obtain ⟨m, rfl⟩ : ∃ k, m = k + 1 := ⟨m - 1, by omega⟩
    unfold qX1_circulateInSteps_L10
    have hl := rmB_len (d := d) ho
    refine ⟨fun c => absurd c (nI_ge (by omega) (by omega)), fun _ => ?_⟩
    refine circ_ok h ho hv hp ha hd (by omega) (fun x1 h1 => ?_)
    have o1 := okW_pmp ho hv hp ha hd
    refine check_ok h1 o1 (fun x2 h2 => ?_)
    rw [nI_1]
    exact ih (i + 1) x2 (chk (pmp v d w)) m h2 (okW_chk o1) hp ha (Nat.le_trans (rmB_pmp ho hv hp ha) hr) (by omega) (by omega) hk
/-- how many portions -/
def cnt (l v : Nat) : Nat := (l + v - 1) / v
theorem portions_ok {l v : Nat} {Q : Int32 → Prop} (hl : l ≤ 1000000) (hv : 1 ≤ v) (hv2 : v ≤ 1000000) (hk : Q (nI (cnt l v))) : qX2_portionsFor (nI l) (nI v) Q := by
  intro u hu
  rw [mx1 hv (by omega)] at hu
  subst hu
  refine ⟨fun z => by have := (eq0 (by omega)).mp z; omega, ?_⟩
  rw [nI_add, show (1 : Int32) = nI 1 from rfl, subI (by omega), pk_div (by omega) (by omega) (by omega)]
  exact hk
theorem cnt_le {l v : Nat} (hl : l ≤ 1000000) (hv : 1 ≤ v) (hv2 : v ≤ 1000000) : cnt l v ≤ 2000000 := by
  unfold cnt
  have := Nat.div_le_self (l + v - 1) v
  omega
theorem steps_ok {l v d : Nat} {x : Wel} {w : PW} {Q : Wel → Prop} (h : repW x w) (ho : okW w) (hl : l ≤ 1000000) (hv : 0 < v) (hv2 : v ≤ 1000000) (hd : 1 ≤ d ∧ d ≤ 2500) (hp : v ≤ gS w 0 * gS w 1) (ha : v ≤ gS w 0 * gS w 2) (hr : rmB d w ≤ 517) (hk : ∀ x', repW x' (stp v d (cnt l v) w) → Q x') : qX1_circulateInSteps x (nI l) (nI v) (nI d) Q := by
  have hc := cnt_le hl hv hv2
  refine portions_ok hl hv hv2 ⟨cnt l v + 1, ?_⟩
  rw [show (0 : Int32) = nI 0 from rfl]
  exact steps_L hv hd (by omega) (cnt l v) 0 x w _ h ho hp ha hr (by omega) (by omega) (fun _ x' h' => hk x' h')
/-- the kill density, as far as numbers go -/
def kil (w : PW) : Nat := (100000 * gS w 5 + 981 * gS w 0 - 1) / (981 * gS w 0)
def kilI (w : PW) : Int32 := if kil w ≤ 2500 then nI (if kil w < 1 then 1 else kil w) else -4
theorem kil_le {w : PW} (ho : okW w) : kil w ≤ 61163 := by
  have h5 := ho.1.2.2.2.2.2.1
  have h0 := ho.1.1
  unfold kil
  have h1 : (100000 * gS w 5 + 981 * gS w 0 - 1) / (981 * gS w 0) ≤ (100000 * 60000 + 981 * gS w 0) / (981 * gS w 0) := Nat.div_le_div_right (by omega)
  have h2 : (100000 * 60000 + 981 * gS w 0) / (981 * gS w 0) = 100000 * 60000 / (981 * gS w 0) + 1 := by
    rw [Nat.add_div_right _ (by omega)]
  have h3 : 100000 * 60000 / (981 * gS w 0) ≤ 100000 * 60000 / (981 * 100) := Nat.div_le_div_left (by omega) (by decide)
  omega
theorem kill_ok {x : Wel} {w : PW} {Q : Int32 → Prop} (h : repW x w) (ho : okW w) (hk : Q (kilI w)) : qX1_densityToKill x Q := by
  have h5 := ho.1.2.2.2.2.2.1
  have h0 := ho.1.1
  have hkl := kil_le ho
  intro u hu
  rw [h.1.1, mx1 (by omega) (by omega), nI_l (by omega), show (981 : Int64) = lN 981 from rfl, lN_mul] at hu
  subst hu
  refine ⟨fun z => ?_, fun t ht => ?_⟩
  · rw [show (0 : Int64) = lN 0 from rfl, pk_lEQ (by omega) (by decide)] at z; omega
  · rw [h.1.2.2.2.2.2.1, nI_l (by omega), show (100000 : Int64) = lN 100000 from rfl, lN_mul, lN_add, show (1 : Int64) = lN 1 from rfl, lN_sub (by omega), pk_lDiv (by omega) (by omega) (by omega)] at ht
    have et : t = lN (kil w) := ht
    subst et
    unfold kilI at hk
    refine ⟨fun c => ?_, fun c => ?_⟩
    · rw [lg_cmp_le, show (2500 : Int64) = lN 2500 from rfl, pk_lLE (by omega) (by decide)] at c
      rw [if_pos c] at hk
      by_cases c1 : kil w < 1
      · rw [if_pos ((show (1 : Int64) = lN 1 from rfl) ▸ (pk_lLT (by omega) (by decide)).mpr c1)]
        rw [if_pos c1] at hk
        exact hk
      · rw [if_neg (fun z => c1 ((pk_lLT (by omega) (by decide)).mp ((show (1 : Int64) = lN 1 from rfl) ▸ z))), lN_i]
        rw [if_neg c1] at hk
        exact hk
    · rw [lg_cmp_le, show (2500 : Int64) = lN 2500 from rfl, pk_lLE (by omega) (by decide)] at c
      rw [if_neg c] at hk
      exact hk
/-- the hash over a well -/
def mixI (h : Int64) (v : Int32) : Int64 := 31 * h + Int32.toInt64 v
def mixSet (h : Int64) (w : PW) : Int64 := mixI (mixI (mixI (mixI (mixI (mixI (mixI (mixI h (nI (gS w 0))) (nI (gS w 1))) (nI (gS w 2))) (nI (gS w 3))) (nI (gS w 4))) (nI (gS w 5))) (nI (gS w 6))) (nI (gS w 7))
def mixRd (h : Int64) (w : PW) : Int64 := mixI (mixI (mixI (mixI (mixI (mixI (mixI h (nI (atP w))) (nI (atC w))) (nI (gS w 6 + atP w))) (nI (atS w))) (gG w)) (gB w)) (gM w)
theorem mixSet_ok {x : Wel} {w : PW} {h : Int64} {Q : Int64 → Prop} (hx : repW x w) (hk : Q (mixSet h w)) : qX1_mixedSettings x h Q := by
  obtain ⟨⟨e0, e1, e2, e3, e4, e5, e6, e7⟩, -⟩ := hx
  unfold qX1_mixedSettings
  rw [e0, e1, e2, e3, e4, e5, e6, e7]
  exact hk
theorem mixRd_ok {x : Wel} {w : PW} {h : Int64} {Q : Int64 → Prop} (hx : repW x w) (ho : okW w) (hk : Q (mixRd h w)) : qX1_mixedReadings x h Q := by
  obtain ⟨-, ⟨e8, e9, e10⟩, -⟩ := id hx
  unfold qX1_mixedReadings
  rw [e8, e9, e10]
  simp only [qX2_mixed]
  refine pipe_ok hx ho ?_
  refine casing_ok hx ho ?_
  refine stand_ok hx ho ?_
  exact shoe_ok hx ho hk
theorem can_ok {x : Wel} {w : PW} {v : Int32} {Q : Int32 → Prop} (h : repW x w) (h1 : v ≤ nI (gS w 0 * gS w 1) → v ≤ nI (gS w 0 * gS w 2) → Q 1) (h0 : ¬ (v ≤ nI (gS w 0 * gS w 1) ∧ v ≤ nI (gS w 0 * gS w 2)) → Q 0) : qX1_canCirculate x v Q := by
  unfold qX1_canCirculate qX1_pipeVolume qX1_annulusVolume
  rw [h.1.1, h.1.2.1, h.1.2.2.1, pk_mul, pk_mul]
  refine ⟨fun c => h0 (fun z => ?_), fun c => ⟨fun c2 => h0 (fun z => ?_), fun c2 => h1 ?_ ?_⟩⟩
  · rw [Int32.lt_iff_toInt_lt] at c; rw [Int32.le_iff_toInt_le] at z; omega
  · rw [Int32.lt_iff_toInt_lt] at c2; rw [Int32.le_iff_toInt_le, Int32.le_iff_toInt_le] at z; omega
  · rw [Int32.lt_iff_toInt_lt] at c; rw [Int32.le_iff_toInt_le]; omega
  · rw [Int32.lt_iff_toInt_lt] at c2; rw [Int32.le_iff_toInt_le]; omega
