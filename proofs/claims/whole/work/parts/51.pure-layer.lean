/-! the layers asked for, and the digest -/
theorem layerE_ok {x : Sys} {w : PW} {p1 p2 : Int32} {Q : Int32 → Prop} (h : repW (sW x) w) (hl : (gP w).length ≤ 1100 ∧ (gA w).length ≤ 1100) (e2 : ¬ (0 ≤ p1 ∧ p1 ≤ 1) → Q (-2)) (e3 : 0 ≤ p1 → p1 ≤ 1 → ¬ 0 ≤ p2 → Q (-2)) (e4 : ∀ c, c ≤ 1 → p1 = nI c → 0 ≤ p2 → nI (colT w c).length ≤ p2 → Q (-4)) (e0 : ∀ c i a, c ≤ 1 → p1 = nI c → p2 = nI i → (colT w c)[i]? = some a → Q 0) : qX2_layerError x p1 p2 Q := by
  obtain ⟨-, o1, -, -, hN1, -⟩ := h.2.2.1
  obtain ⟨-, o2, -, -, hN2, -⟩ := h.2.2.2
  refine in_ok (fun a b => ⟨fun z => absurd z n10, fun _ => ⟨fun d => ?_, e3 a b⟩⟩) (fun hc => ⟨fun _ => e2 hc, fun z => absurd rfl z⟩)
  obtain ⟨c, -, hc, rfl⟩ := btw (a := 0) (b := 1) (by decide) (by decide) a b
  have key : ∀ T : Ly, colT w c = T → T.length ≤ 1100 → ((nI T.length ≤ p2 → Q (-4)) ∧ (¬ nI T.length ≤ p2 → Q 0)) := by
    intro T hT hTl
    refine ⟨fun z => e4 c hc rfl d (by rw [hT]; exact z), fun z => ?_⟩
    rcases pk_ix p2 (n := T.length) (by omega) with g | g | ⟨i, hi, rfl⟩
    · exact absurd g ((nlt_le _ _).mpr d)
    · exact absurd g z
    · exact e0 c i T[i] hc rfl rfl (by rw [hT]; exact List.getElem?_eq_getElem hi)
  rw [hN1, hN2]
  refine ⟨fun z => ?_, fun z => ?_⟩
  · have c0 := (eq0 (by omega)).mp z
    subst c0
    have := key (gP w).reverse rfl (by rw [List.length_reverse]; omega)
    rw [List.length_reverse] at this
    exact this
  · have c1 : c = 1 := by
      have : c ≠ 0 := fun e => z (by rw [e]; rfl)
      omega
    subst c1
    exact key (gA w) rfl hl.2
theorem ofL_n {y : Mod} {p1 p2 p3 : Int32} {Q : Int32 → Mod → Prop} (hc : ¬ (0 ≤ p1 ∧ p1 ≤ 1)) (h : qX3_error y (-2) Q) : qX3_ofLayer y p1 p2 p3 Q := col_n hc ⟨fun _ => h, fun z => absurd rfl z⟩
theorem ofL_m {y : Mod} {p1 p2 p3 : Int32} {Q : Int32 → Mod → Prop} (a : 0 ≤ p1) (b : p1 ≤ 1) (hc : ¬ 0 ≤ p2) (h : qX3_error y (-2) Q) : qX3_ofLayer y p1 p2 p3 Q := col_y a b ⟨fun z => absurd z n10, fun _ => ⟨fun z => absurd z hc, fun _ => h⟩⟩
theorem c01 {c : Nat} (hc : c ≤ 1) : 0 ≤ nI c ∧ nI c ≤ 1 := btw_of (a := 0) (b := 1) (by decide) (by omega) hc
theorem ofL_4 {y : Mod} {w : PW} {c : Nat} {p2 p3 : Int32} {Q : Int32 → Mod → Prop} (hm : repN (mN y) w) (hc : c ≤ 1) (d : 0 ≤ p2) (g : nI (colT w c).length ≤ p2) (h : qX3_error y (-4) Q) : qX3_ofLayer y (nI c) p2 p3 Q := by
  refine col_y (c01 hc).1 (c01 hc).2 ⟨fun z => absurd z n10, fun _ => ⟨fun _ => ?_, fun z => absurd d z⟩⟩
  rw [show (11 : Int32) = nI 11 from rfl, nI_add, clmp (by omega), (colT_rep hm hc).2.1]
  exact ⟨vpn (by omega) (by decide), fun _ => h, fun z => absurd g z⟩
theorem ofL_0 {y : Mod} {w : PW} {c i t : Nat} {r : Int32} {Q : Int32 → Mod → Prop} (hm : repN (mN y) w) (hc : c ≤ 1) (hi : i < (colT w c).length) (hl : (colT w c).length ≤ 1100) (ht : t ≤ 1100) (hr : mN y (16 + 2200 * c + i + t) = r) (h : Q r y) : qX3_ofLayer y (nI c) (nI i) (nI t) Q := by
  refine col_y (c01 hc).1 (c01 hc).2 ⟨fun z => absurd z n10, fun _ => ⟨fun _ => ?_, fun z => absurd (ge0 (by omega)) z⟩⟩
  rw [show (11 : Int32) = nI 11 from rfl, nI_add, clmp (by omega), (colT_rep hm hc).2.1]
  refine ⟨vpn (by omega) (by decide), fun z => absurd z (nI_ge hi (by omega)), fun _ => ?_⟩
  refine vac ?_
  rw [nI_add, clmp (by omega), hr]
  exact ⟨vpn (by omega) (by decide), h⟩
theorem colT_len {w : PW} (hl : (gP w).length ≤ 1100 ∧ (gA w).length ≤ 1100) (c : Nat) : (colT w c).length ≤ 1100 := by
  unfold colT
  split
  · rw [List.length_reverse]; exact hl.1
  · exact hl.2
section
variable {x : Sys} {y : Mod} {σ : PS} {n : Nat} {Q2 : Int32 → Sys → Prop}
theorem s_layerVolume {p q : Int32} (h : cpl x y σ n) (H : gvs n (qX3_layerVolume y p q) Q2) : qX2_layerVolume x p q Q2 := by
  obtain ⟨hs, hm, hi, hn⟩ := h
  have hl := lens hi.1 (by omega)
  refine layerE_ok hs.1 hl (fun hc => ⟨fun z => absurd z (by decide), fun _ => ref2 hs (H _ _ (inv_er 0 hi) (fun Q hk => ofL_n hc (err2 hm hk)))⟩) (fun a b hc => ⟨fun z => absurd z (by decide), fun _ => ref2 hs (H _ _ (inv_er 0 hi) (fun Q hk => ofL_m a b hc (err2 hm hk)))⟩) (fun c hc e d g => ⟨fun z => absurd z (by decide), fun _ => ref4 hs (H _ _ (inv_er 2 hi) (fun Q hk => ?_))⟩) (fun c i a hc e1 e2 hg => ⟨fun _ => ?_, fun z => absurd rfl z⟩)
  · subst e; exact ofL_4 hm.1 hc d g (err4 hm hk)
  · subst e1; subst e2
    have hlt := (List.getElem?_eq_some_iff.mp hg).1
    have key : ∀ Q : Int32 → Mod → Prop, (∀ y', repM y' σ → Q (nI a.1) y') → qX3_layerVolume y (nI c) (nI i) Q := fun Q hk => ofL_0 (t := 0) hm.1 hc hlt (colT_len hl c) (by omega) ((colT_rep hm.1 hc).1 i a hg).1 (hk y hm)
    refine ⟨fun z => ?_, fun z => ?_⟩
    · have c0 := (eq0 (by omega)).mp z
      subst c0
      exact vol_ok hs.1.2.2.1 hg (H _ σ hi.up key x hs)
    · have c1 : c = 1 := by
        have : c ≠ 0 := fun e => z (by rw [e]; rfl)
        omega
      subst c1
      exact vol_ok hs.1.2.2.2 hg (H _ σ hi.up key x hs)
theorem s_layerDensity {p q : Int32} (h : cpl x y σ n) (H : gvs n (qX3_layerDensity y p q) Q2) : qX2_layerDensity x p q Q2 := by
  obtain ⟨hs, hm, hi, hn⟩ := h
  have hl := lens hi.1 (by omega)
  refine layerE_ok hs.1 hl (fun hc => ⟨fun z => absurd z (by decide), fun _ => ref2 hs (H _ _ (inv_er 0 hi) (fun Q hk => ofL_n hc (err2 hm hk)))⟩) (fun a b hc => ⟨fun z => absurd z (by decide), fun _ => ref2 hs (H _ _ (inv_er 0 hi) (fun Q hk => ofL_m a b hc (err2 hm hk)))⟩) (fun c hc e d g => ⟨fun z => absurd z (by decide), fun _ => ref4 hs (H _ _ (inv_er 2 hi) (fun Q hk => ?_))⟩) (fun c i a hc e1 e2 hg => ⟨fun _ => ?_, fun z => absurd rfl z⟩)
  · subst e; exact ofL_4 hm.1 hc d g (err4 hm hk)
  · subst e1; subst e2
    have hlt := (List.getElem?_eq_some_iff.mp hg).1
    have key : ∀ Q : Int32 → Mod → Prop, (∀ y', repM y' σ → Q (nI a.2) y') → qX3_layerDensity y (nI c) (nI i) Q := fun Q hk => ofL_0 (t := 1100) hm.1 hc hlt (colT_len hl c) (by omega) (by rw [show 16 + 2200 * c + i + 1100 = 16 + 2200 * c + 1100 + i by omega]; exact ((colT_rep hm.1 hc).1 i a hg).2) (hk y hm)
    refine ⟨fun z => ?_, fun z => ?_⟩
    · have c0 := (eq0 (by omega)).mp z
      subst c0
      exact den_ok hs.1.2.2.1 hg (H _ σ hi.up key x hs)
    · have c1 : c = 1 := by
        have : c ≠ 0 := fun e => z (by rw [e]; rfl)
        omega
      subst c1
      exact den_ok hs.1.2.2.2 hg (H _ σ hi.up key x hs)
end
theorem mixI_l {h : Int64} {n : Nat} (hn : n < 2 ^ 31) : mixI h (nI n) = 31 * h + lN n := by unfold mixI; rw [nI_l hn]
theorem mix_c {N A P : Nat → Int32} {S : Int32} {E : Nat → Int32} {hh p : Int64} {v : Int32} {Q : Mod → Prop} (hp : p = Int32.toInt64 v) (h : Q (N, A, P, S, E, mixI hh v)) : qX3_mix (N, A, P, S, E, hh) p Q := by
  subst hp; exact h
theorem digP_L {w : PW} {N A P : Nat → Int32} {S : Int32} {E : Nat → Int32} {K : Int32 → Mod → Prop} (hr : repN N w) (ho : okW w) (hl : (gP w).length ≤ 1100) : ∀ (s : Ly) (i : Nat) (hh : Int64) (m : Nat), (gP w).reverse.drop i = s → i ≤ (gP w).length → s.length < m → (∀ i', K i' (N, A, P, S, E, mixS hh s)) → qX3_digest_L79 K m (nI i) (N, A, P, S, E, hh) := by
  have hv := vol_lt ho.1
  intro s
  induction s with
  | nil =>
    intro i hh m hd hi hm hk
    obtain ⟨m, rfl⟩ : ∃ k, m = k + 1 := ⟨m - 1, by omega⟩
    unfold qX3_digest_L79
    have := drop_nil hd
    rw [List.length_reverse] at this
    show (N (Int32.toNatClampNeg 11) ≤ nI i → _) ∧ (¬ N (Int32.toNatClampNeg 11) ≤ nI i → _)
    rw [tN11, hr.2.1.1, show i = (gP w).length by omega]
    exact ⟨fun _ => hk _, fun c => absurd (nI_le (Nat.le_refl _) (by omega)) c⟩
  | cons a t ih =>
    intro i hh m hd hi hm hk
    obtain ⟨m, rfl⟩ : ∃ k, m = k + 1 := ⟨m - 1, by omega⟩
    obtain ⟨h1, h2, h3⟩ := drop_cons hd
    rw [List.length_reverse] at h3
    have h4 := get_le h1
    rw [lsum_rev, ho.2.1.2.2] at h4
    have h5 := get_fit (fit_rev ho.2.1.1) h1
    have hg := hr.2.2.1 i a h1
    unfold qX3_digest_L79
    simp only [List.length_cons] at hm
    show (N (Int32.toNatClampNeg 11) ≤ nI i → _) ∧ (¬ N (Int32.toNatClampNeg 11) ≤ nI i → _)
    rw [tN11, hr.2.1.1]
    refine ⟨fun c => absurd c (nI_ge h3 (by omega)), fun _ => ?_⟩
    refine va0 ⟨vpn (by omega) (by decide), ?_⟩
    refine mix_c (v := nI a.1) (by rw [clmp (by omega)]; exact congrArg _ hg.1) ?_
    refine da0 ⟨vpn (by omega) (by decide), ?_⟩
    refine mix_c (v := nI a.2) (by rw [clmp (by omega), show 1116 + i = 16 + 1100 + i by omega]; exact congrArg _ hg.2) ?_
    rw [nI_1, mixI_l (by omega), mixI_l (by omega)]
    exact ih (i + 1) _ m h2 (by omega) (by omega) hk
theorem digA_L {w : PW} {N A P : Nat → Int32} {S : Int32} {E : Nat → Int32} {K : Int32 → Mod → Prop} (hr : repN N w) (ho : okW w) (hl : (gA w).length ≤ 1100) : ∀ (s : Ly) (i : Nat) (hh : Int64) (m : Nat), (gA w).drop i = s → i ≤ (gA w).length → s.length < m → (∀ i', K i' (N, A, P, S, E, mixS hh s)) → qX3_digest_L79b K m (nI i) (N, A, P, S, E, hh) := by
  have hv := vol_lt ho.1
  intro s
  induction s with
  | nil =>
    intro i hh m hd hi hm hk
    obtain ⟨m, rfl⟩ : ∃ k, m = k + 1 := ⟨m - 1, by omega⟩
    unfold qX3_digest_L79b
    have := drop_nil hd
    show (N (Int32.toNatClampNeg 12) ≤ nI i → _) ∧ (¬ N (Int32.toNatClampNeg 12) ≤ nI i → _)
    rw [tN12, hr.2.1.2, show i = (gA w).length by omega]
    exact ⟨fun _ => hk _, fun c => absurd (nI_le (Nat.le_refl _) (by omega)) c⟩
  | cons a t ih =>
    intro i hh m hd hi hm hk
    obtain ⟨m, rfl⟩ : ∃ k, m = k + 1 := ⟨m - 1, by omega⟩
    obtain ⟨h1, h2, h3⟩ := drop_cons hd
    have h4 := get_le h1
    rw [ho.2.2.2.2] at h4
    have h5 := get_fit ho.2.2.1 h1
    have hg := hr.2.2.2 i a h1
    unfold qX3_digest_L79b
    simp only [List.length_cons] at hm
    show (N (Int32.toNatClampNeg 12) ≤ nI i → _) ∧ (¬ N (Int32.toNatClampNeg 12) ≤ nI i → _)
    rw [tN12, hr.2.1.2]
    refine ⟨fun c => absurd c (nI_ge h3 (by omega)), fun _ => ?_⟩
    refine va1 ⟨vpn (by omega) (by decide), ?_⟩
    refine mix_c (v := nI a.1) (by rw [clmp (by omega)]; exact congrArg _ hg.1) ?_
    refine da1 ⟨vpn (by omega) (by decide), ?_⟩
    refine mix_c (v := nI a.2) (by rw [clmp (by omega), show 3316 + i = 2216 + 1100 + i by omega]; exact congrArg _ hg.2) ?_
    rw [nI_1, mixI_l (by omega), mixI_l (by omega)]
    exact ih (i + 1) _ m h2 (by omega) (by omega) hk
