/-! the calls, side by side -/
theorem in_y {p lo hi : Int32} {Q : Int32 → Prop} (h1 : lo ≤ p) (h2 : p ≤ hi) (hq : Q 1) : qX3_in p lo hi Q := in_ok3 (fun _ _ => hq) (fun z => absurd ⟨h1, h2⟩ z)
theorem in_n {p lo hi : Int32} {Q : Int32 → Prop} (h : ¬ (lo ≤ p ∧ p ≤ hi)) (hq : Q 0) : qX3_in p lo hi Q := in_ok3 (fun a b => absurd ⟨a, b⟩ h) (fun _ => hq)
theorem col_y {p : Int32} {Q : Int32 → Prop} (h1 : 0 ≤ p) (h2 : p ≤ 1) (hq : Q 1) : qX3_isColumn p Q := in_y h1 h2 ⟨rfl, hq⟩
theorem col_n {p : Int32} {Q : Int32 → Prop} (h : ¬ (0 ≤ p ∧ p ≤ 1)) (hq : Q 0) : qX3_isColumn p Q := in_n h ⟨rfl, hq⟩
theorem ref2 {x : Sys} {σ : PS} {Q : Int32 → Sys → Prop} (h : repS x σ) (hk : ∀ x', repS x' (er σ 0) → Q (-2) x') : qX2_refuse x (-2) Q := refuse_ok 0 (by decide) (by decide) (by decide) (by decide) h hk
theorem ref3 {x : Sys} {σ : PS} {Q : Int32 → Sys → Prop} (h : repS x σ) (hk : ∀ x', repS x' (er σ 1) → Q (-3) x') : qX2_refuse x (-3) Q := refuse_ok 1 (by decide) (by decide) (by decide) (by decide) h hk
theorem ref4 {x : Sys} {σ : PS} {Q : Int32 → Sys → Prop} (h : repS x σ) (hk : ∀ x', repS x' (er σ 2) → Q (-4) x') : qX2_refuse x (-4) Q := refuse_ok 2 (by decide) (by decide) (by decide) (by decide) h hk
theorem err2 {y : Mod} {σ : PS} {Q : Int32 → Mod → Prop} (h : repM y σ) (hk : ∀ y', repM y' (er σ 0) → Q (-2) y') : qX3_error y (-2) Q := error_ok 0 (by decide) (by decide) h hk
theorem err3 {y : Mod} {σ : PS} {Q : Int32 → Mod → Prop} (h : repM y σ) (hk : ∀ y', repM y' (er σ 1) → Q (-3) y') : qX3_error y (-3) Q := error_ok 1 (by decide) (by decide) h hk
theorem err4 {y : Mod} {σ : PS} {Q : Int32 → Mod → Prop} (h : repM y σ) (hk : ∀ y', repM y' (er σ 2) → Q (-4) y') : qX3_error y (-4) Q := error_ok 2 (by decide) (by decide) h hk
theorem n10 : ¬ (1 : Int32) = 0 := by decide
def cpl (x : Sys) (y : Mod) (σ : PS) (n : Nat) : Prop := repS x σ ∧ repM y σ ∧ inv n σ ∧ n ≤ 511
/-- what a call of both gives -/
def gvs (n : Nat) (q : (Int32 → Mod → Prop) → Prop) (Q2 : Int32 → Sys → Prop) : Prop := ∀ (r : Int32) (σ' : PS), inv (n + 1) σ' → (∀ Q : Int32 → Mod → Prop, (∀ y', repM y' σ' → Q r y') → q Q) → ∀ x', repS x' σ' → Q2 r x'
section
variable {x : Sys} {y : Mod} {σ : PS} {n : Nat} {Q2 : Int32 → Sys → Prop}
theorem inv.up (h : inv n σ) : inv (n + 1) σ := h.mono (by omega)
theorem s_hydrostatic {p : Int32} (h : cpl x y σ n) (H : gvs n (qX3_hydrostatic y p) Q2) : qX2_hydrostatic x p Q2 := by
  obtain ⟨hs, hm, hi, hn⟩ := h
  have hl := lens hi.1 (by omega)
  refine in_ok (fun h1 h2 => ⟨fun _ => ?_, fun z => absurd z n10⟩) (fun hc => ⟨fun z => absurd rfl z, fun _ => ref2 hs (H _ _ (inv_er 0 hi) (fun Q hk => col_n hc ⟨fun _ => err2 hm hk, fun z => absurd rfl z⟩))⟩)
  refine btw (a := 0) (b := 1) (by decide) (by decide) h1 h2 |>.elim (fun c hc => ?_)
  obtain ⟨-, hc, rfl⟩ := hc
  refine whole_ok hs.1 hi.1.1 hc (H _ σ hi.up (fun Q hk => col_y h1 h2 ⟨fun z => absurd z n10, fun _ => ?_⟩) x hs)
  rw [tN0, hm.1.1.1 0 (by decide)]
  refine pressM_ok hm.1 hi.1.1 hl hc (Nat.le_refl _) ?_
  rw [part_whole hi.1.1 hc]; exact hk y hm
theorem s_above {p q : Int32} (h : cpl x y σ n) (H : gvs n (qX3_hydrostaticAbove y p q) Q2) : qX2_hydrostaticAbove x p q Q2 := by
  obtain ⟨hs, hm, hi, hn⟩ := h
  have hl := lens hi.1 (by omega)
  have h0 := hi.1.1.1.1
  refine in_ok (fun h1 h2 => ⟨fun z => absurd z n10, fun _ => ?_⟩) (fun hc => ⟨fun _ => ref2 hs (H _ _ (inv_er 0 hi) (fun Q hk => col_n hc ⟨fun _ => err2 hm hk, fun z => absurd rfl z⟩)), fun z => absurd rfl z⟩)
  rw [hs.1.1.1]
  refine in_ok (fun h3 h4 => ⟨fun _ => ?_, fun z => absurd z n10⟩) (fun hc => ⟨fun z => absurd rfl z, fun _ => ref2 hs (H _ _ (inv_er 0 hi) (fun Q hk => col_y h1 h2 ⟨fun z => absurd z n10, fun _ => by
    rw [tN0, hm.1.1.1 0 (by decide)]
    exact in_n hc ⟨fun _ => err2 hm hk, fun z => absurd rfl z⟩⟩))⟩)
  obtain ⟨c, -, hc, rfl⟩ := btw (a := 0) (b := 1) (by decide) (by decide) h1 h2
  obtain ⟨m, -, hmm, rfl⟩ := btw (a := 0) (b := gS σ.1 0) (by decide) (by omega) h3 h4
  refine part_ok hs.1 hi.1.1 hc hmm (H _ σ hi.up (fun Q hk => col_y h1 h2 ⟨fun z => absurd z n10, fun _ => ?_⟩) x hs)
  rw [tN0, hm.1.1.1 0 (by decide)]
  refine in_y h3 h4 ⟨fun z => absurd z n10, fun _ => ?_⟩
  exact pressM_ok hm.1 hi.1.1 hl hc hmm (hk y hm)
theorem s_pipe {Q : Int32 → Prop} (h : cpl x y σ n) (H : ∀ r, (∀ Q3 : Int32 → Prop, Q3 r → qX3_drillPipePressure y Q3) → Q r) : qX2_drillPipePressure x Q := by
  obtain ⟨hs, hm, hi, hn⟩ := h
  exact pipe_ok hs.1 hi.1.1 (H _ (fun Q3 hk => lack_ok (c := 0) hm.1 hi.1.1 (lens hi.1 (by omega)) (by decide) hk))
theorem s_casing {Q : Int32 → Prop} (h : cpl x y σ n) (H : ∀ r, (∀ Q3 : Int32 → Prop, Q3 r → qX3_casingPressure y Q3) → Q r) : qX2_casingPressure x Q := by
  obtain ⟨hs, hm, hi, hn⟩ := h
  exact casing_ok hs.1 hi.1.1 (H _ (fun Q3 hk => lack_ok (c := 1) hm.1 hi.1.1 (lens hi.1 (by omega)) (by decide) hk))
theorem s_stand {Q : Int32 → Prop} (h : cpl x y σ n) (H : ∀ r, (∀ Q3 : Int32 → Prop, Q3 r → qX3_standpipePressure y Q3) → Q r) : qX2_standpipePressure x Q := by
  obtain ⟨hs, hm, hi, hn⟩ := h
  refine stand_ok hs.1 hi.1.1 (H _ (fun Q3 hk => lack_ok (c := 0) hm.1 hi.1.1 (lens hi.1 (by omega)) (by decide) ?_))
  rw [tN6, hm.1.1.1 6 (by decide), nI_add]; exact hk
theorem s_shoe {Q : Int32 → Prop} (h : cpl x y σ n) (H : ∀ r, (∀ Q3 : Int32 → Prop, Q3 r → qX3_shoePressure y Q3) → Q r) : qX2_shoePressure x Q := by
  obtain ⟨hs, hm, hi, hn⟩ := h
  exact shoe_ok hs.1 hi.1.1 (H _ (fun Q3 hk => shoeM_ok hm.1 hi.1.1 (lens hi.1 (by omega)) hk))
theorem s_allowed {Q : Int32 → Prop} (h : cpl x y σ n) (H : ∀ r, (∀ Q3 : Int32 → Prop, Q3 r → qX3_allowedCasingPressure y Q3) → Q r) : qX2_allowedCasingPressure x Q := by
  obtain ⟨hs, hm, hi, hn⟩ := h
  unfold qX2_allowedCasingPressure
  rw [hs.1.1.2.2.2.1, hs.1.1.2.2.2.2.2.2.2]
  refine part_ok (c := 1) hs.1 hi.1.1 (by decide) hi.1.1.1.2.2.2.1.2 (H _ (fun Q3 hk => ?_))
  unfold qX3_allowedCasingPressure
  rw [tN3, tN7, hm.1.1.1 3 (by decide), hm.1.1.1 7 (by decide)]
  exact pressM_ok (c := 1) hm.1 hi.1.1 (lens hi.1 (by omega)) (by decide) hi.1.1.1.2.2.2.1.2 hk
theorem s_kill (h : cpl x y σ n) (H : gvs n (qX3_killDensity y) Q2) : qX2_killDensity x Q2 := by
  obtain ⟨hs, hm, hi, hn⟩ := h
  refine kill_ok hs.1 hi.1.1 ⟨fun c => H _ σ hi.up (fun Q hk => leastM_ok hm.1 hi.1.1 ⟨fun _ => hk y hm, fun z => absurd z c⟩) x hs, fun c => ?_⟩
  exact ref4 hs (H _ _ (inv_er 2 hi) (fun Q hk => leastM_ok hm.1 hi.1.1 ⟨fun z => absurd c z, fun _ => err4 hm hk⟩))
theorem s_schedule {p : Int32} (h : cpl x y σ n) (H : gvs n (qX3_schedule y p) Q2) : qX2_schedule x p Q2 := by
  obtain ⟨hs, hm, hi, hn⟩ := h
  have hl := lens hi.1 (by omega)
  obtain ⟨-, -, -, -, o4, -⟩ := hi.1.1.1
  refine in_ok (fun h1 h2 => ⟨fun _ => ?_, fun z => absurd z n10⟩) (fun hc => ⟨fun z => absurd rfl z, fun _ => ref2 hs (H _ _ (inv_er 0 hi) (fun Q hk => in_n hc ⟨fun z => absurd rfl z, fun _ => err2 hm hk⟩))⟩)
  refine kill_ok hs.1 hi.1.1 ⟨fun c => ?_, fun c => ref4 hs (H _ _ (inv_er 2 hi) (fun Q hk => in_y h1 h2 ⟨fun _ => leastM_ok hm.1 hi.1.1 ⟨fun z => absurd c z, fun _ => err4 hm hk⟩, fun z => absurd z n10⟩))⟩
  have hnz : ¬ Int32.toInt64 (nI (gS σ.1 4)) = 0 := by
    rw [nI_l (by omega), show (0 : Int64) = lN 0 from rfl, pk_lEQ (by omega) (by decide)]; omega
  rw [hs.1.1.2.2.2.2.1, hs.1.1.2.2.2.2.2.2.1, mx1 o4.1 (by omega)]
  refine stand_ok hs.1 hi.1.1 (fun v6 h6 => ⟨hnz, fun v8 h8 => H _ σ hi.up (fun Q hk => in_y h1 h2 ⟨fun _ => leastM_ok hm.1 hi.1.1 ⟨fun _ => ?_, fun z => absurd z c⟩, fun z => absurd z n10⟩) x hs⟩)
  refine lack_ok (c := 0) hm.1 hi.1.1 hl (by decide) ?_
  rw [tN4, tN6, hm.1.1.1 4 (by decide), hm.1.1.1 6 (by decide), nI_add]
  intro v6' h6'
  have e6 : v6' = v6 := h6'.trans h6.symm
  refine ⟨hnz, fun v8' h8' => ?_⟩
  rw [h8'.trans h8.symm, e6]
  exact hk y hm
theorem s_strokes {p : Int32} (h : cpl x y σ n) (H : gvs n (qX3_strokesToBit y p) Q2) : qX2_strokesToBit x p Q2 := by
  obtain ⟨hs, hm, hi, hn⟩ := h
  have hv := vol_lt hi.1.1.1
  refine in_ok (fun h1 h2 => ⟨fun _ => ?_, fun z => absurd z n10⟩) (fun hc => ⟨fun z => absurd rfl z, fun _ => ref2 hs (H _ _ (inv_er 0 hi) (fun Q hk => in_n hc ⟨fun _ => err2 hm hk, fun z => absurd rfl z⟩))⟩)
  obtain ⟨c, hc1, hc2, rfl⟩ := btw (a := 1) (b := 100) (by decide) (by decide) h1 h2
  unfold qX1_pipeVolume
  rw [hs.1.1.1, hs.1.1.2.1, pk_mul]
  refine portions_ok (by omega) hc1 (by omega) (H _ σ hi.up (fun Q hk => in_y h1 h2 ⟨fun z => absurd z n10, fun _ => volM0 hm.1 ⟨nI_ne0 (by omega) (by omega), ?_⟩⟩) x hs)
  rw [nI_add, show (1 : Int32) = nI 1 from rfl, subI (by omega), pk_div (by omega) (by omega) (by omega)]
  exact hk y hm
theorem s_layers {p : Int32} (h : cpl x y σ n) (H : gvs n (qX3_layers y p) Q2) : qX2_layers x p Q2 := by
  obtain ⟨hs, hm, hi, hn⟩ := h
  obtain ⟨-, o1, -, -, hN1, -⟩ := hs.1.2.2.1
  obtain ⟨-, o2, -, -, hN2, -⟩ := hs.1.2.2.2
  refine in_ok (fun h1 h2 => ⟨fun _ => ?_, fun z => absurd z n10⟩) (fun hc => ⟨fun z => absurd rfl z, fun _ => ref2 hs (H _ _ (inv_er 0 hi) (fun Q hk => col_n hc ⟨fun _ => err2 hm hk, fun z => absurd rfl z⟩))⟩)
  rw [hN1, hN2]
  refine ⟨fun c => ?_, fun c => ?_⟩
  · refine H _ σ hi.up (fun Q hk => col_y h1 h2 ⟨fun z => absurd z n10, fun _ => ?_⟩) x hs
    rw [c, show (11 : Int32) + 0 = 11 from by decide, tN11, hm.1.2.1.1]
    exact ⟨vp_c 11 4416 (by decide), hk y hm⟩
  · obtain ⟨d, -, hd, rfl⟩ := btw (a := 0) (b := 1) (by decide) (by decide) h1 h2
    have e1 : d = 1 := by
      have : d ≠ 0 := fun z => c (by rw [z]; rfl)
      omega
    subst e1
    refine H _ σ hi.up (fun Q hk => col_y h1 h2 ⟨fun z => absurd z n10, fun _ => ?_⟩) x hs
    rw [show (11 : Int32) + nI 1 = 12 from by decide, tN12, hm.1.2.1.2]
    exact ⟨vp_c 12 4416 (by decide), hk y hm⟩
theorem s_undo (h : cpl x y σ n) (H : gvs n (qX3_undo y) Q2) : qX2_undo x Q2 := by
  obtain ⟨hs, hm, hi, hn⟩ := h
  obtain ⟨w, sv, e⟩ := σ
  rcases List.eq_nil_or_concat sv with hz | ⟨r, v, hz⟩
  · subst hz
    exact undoS_no hs (H _ _ (inv_er 3 hi) (fun Q hk => undoM_no hm hk))
  · have hz : sv = r ++ [v] := by rw [hz]; simp
    subst hz
    have i2 : inv (n + 1) (v, r, e) := ⟨(hi.2.2 v (by simp)).mono (by omega), by
      have := hi.2.1
      simp only [List.length_append, List.length_singleton] at this
      show r.length ≤ 4
      omega, fun u hu => (hi.2.2 u (List.mem_append_left _ hu)).mono (by omega)⟩
    exact undoS_ok hs hi.2.1 (H _ _ i2 (fun Q hk => undoM_ok hm hi (by omega) hk))
theorem four {p : Int32} (h1 : (-5) ≤ p) (h2 : p ≤ (-2)) : ∃ c : Nat, c < 4 ∧ (-2) - p = nI c := by
  rw [Int32.le_iff_toInt_le, show (-5 : Int32).toInt = -5 from by decide] at h1
  rw [Int32.le_iff_toInt_le, show (-2 : Int32).toInt = -2 from by decide] at h2
  rcases (show p.toInt = -5 ∨ p.toInt = -4 ∨ p.toInt = -3 ∨ p.toInt = -2 by omega) with e | e | e | e
  · rw [show p = -5 from Int32.toInt_inj.mp (e.trans (by decide))]; exact ⟨3, by decide, by decide⟩
  · rw [show p = -4 from Int32.toInt_inj.mp (e.trans (by decide))]; exact ⟨2, by decide, by decide⟩
  · rw [show p = -3 from Int32.toInt_inj.mp (e.trans (by decide))]; exact ⟨1, by decide, by decide⟩
  · rw [show p = -2 from Int32.toInt_inj.mp (e.trans (by decide))]; exact ⟨0, by decide, by decide⟩
theorem s_errors {p : Int32} (h : cpl x y σ n) (H : gvs n (qX3_errorCount y p) Q2) : qX2_errorCount x p Q2 := by
  obtain ⟨hs, hm, hi, hn⟩ := h
  refine in_ok (fun h1 h2 => ⟨fun _ => ?_, fun z => absurd z n10⟩) (fun hc => ⟨fun z => absurd rfl z, fun _ => ref2 hs (H _ _ (inv_er 0 hi) (fun Q hk => in_n hc ⟨fun _ => err2 hm hk, fun z => absurd rfl z⟩))⟩)
  obtain ⟨c, hc, e⟩ := four h1 h2
  rw [e, clmp (by omega), hs.2.2.2.1 c hc]
  refine ⟨vpn hc (by decide), H _ σ hi.up (fun Q hk => in_y h1 h2 ⟨fun z => absurd z n10, fun _ => ?_⟩) x hs⟩
  rw [e, clmp (by omega), hm.2.2.2 c hc]
  exact ⟨vpn hc (by decide), hk y hm⟩
theorem s_gain {Q : Int32 → Prop} (h : cpl x y σ n) (H : ∀ r, (∀ Q3 : Int32 → Prop, Q3 r → qX3_gain y Q3) → Q r) : qX2_gain x Q := by
  obtain ⟨hs, hm, hi, hn⟩ := h
  unfold qX2_gain
  rw [hs.1.2.1.1]
  exact H _ (fun Q3 hk => by unfold qX3_gain; rw [tN8, hm.1.1.2.1]; exact hk)
theorem s_breaks {Q : Int32 → Prop} (h : cpl x y σ n) (H : ∀ r, (∀ Q3 : Int32 → Prop, Q3 r → qX3_breaks y Q3) → Q r) : qX2_breaks x Q := by
  obtain ⟨hs, hm, hi, hn⟩ := h
  unfold qX2_breaks
  rw [hs.1.2.1.2.1]
  exact H _ (fun Q3 hk => by unfold qX3_breaks; rw [tN9, hm.1.1.2.2.1]; exact hk)
theorem s_greatest {Q : Int32 → Prop} (h : cpl x y σ n) (H : ∀ r, (∀ Q3 : Int32 → Prop, Q3 r → qX3_greatestShoePressure y Q3) → Q r) : qX2_greatestShoePressure x Q := by
  obtain ⟨hs, hm, hi, hn⟩ := h
  unfold qX2_greatestShoePressure
  rw [hs.1.2.1.2.2]
  exact H _ (fun Q3 hk => by unfold qX3_greatestShoePressure; rw [tN10, hm.1.1.2.2.2]; exact hk)
end
