/-! the pressure of a kill -/
theorem grt_cong (v d : Nat) : ∀ (n : Nat) (S : Nat → Nat) (G B M G' B' M' : Int32) (P A : Ly) (g : Int32), grt v d n (S, G, B, M, P, A) g = grt v d n (S, G', B', M', P, A) g
  | 0, _, _, _, _, _, _, _, _, _, _ => rfl
  | n + 1, S, G, B, M, G', B', M', P, A, g => grt_cong v d n S G B M G' B' M' (pmpP v d P) (pmpA v P A) _
theorem grt_congW {v d n : Nat} {w u : PW} {g : Int32} (h1 : gS w = gS u) (h2 : gP w = gP u) (h3 : gA w = gA u) : grt v d n w g = grt v d n u g := by
  obtain ⟨S, G, B, M, P, A⟩ := w
  obtain ⟨S', G', B', M', P', A'⟩ := u
  have h1 : S = S' := h1
  have h2 : P = P' := h2
  have h3 : A = A' := h3
  subst h1; subst h2; subst h3
  exact grt_cong v d n S G B M G' B' M' P A g
theorem pmI_cong (v d : Nat) : ∀ (n : Nat) (S : Nat → Nat) (G B M G' B' M' : Int32) (P A : Ly), gS (pmI v d n (S, G, B, M, P, A)) = gS (pmI v d n (S, G', B', M', P, A)) ∧ gP (pmI v d n (S, G, B, M, P, A)) = gP (pmI v d n (S, G', B', M', P, A)) ∧ gA (pmI v d n (S, G, B, M, P, A)) = gA (pmI v d n (S, G', B', M', P, A))
  | 0, _, _, _, _, _, _, _, _, _ => ⟨rfl, rfl, rfl⟩
  | n + 1, S, G, B, M, G', B', M', P, A => pmI_cong v d n S G B M G' B' M' (pmpP v d P) (pmpA v P A)
/-- the well of a trial: its greatest pressure begins anew -/
def tri (w : PW) : PW := (gS w, gG w, gB w, 0, gP w, gA w)
theorem tri_ok {w : PW} (h : okW w) : okW (tri w) := h
theorem rm_le (d : Nat) (w : PW) : rmB d w ≤ (gP w).length + (gA w).length + 1 := by
  have h1 := len_catM (gP w) (gA w)
  unfold rmB; split <;> omega
theorem rm_two (d e : Nat) (w : PW) : rmB d w ≤ rmB e w + 1 := by
  unfold rmB; split <;> split <;> omega
theorem kilI_of {w : PW} (h : ¬ kilI w = -4) : ∃ d : Nat, 1 ≤ d ∧ d ≤ 2500 ∧ kilI w = nI d := by
  unfold kilI at h ⊢
  by_cases c : kil w ≤ 2500
  · rw [if_pos c]
    by_cases c1 : kil w < 1
    · rw [if_pos c1]; exact ⟨1, by decide, by decide, rfl⟩
    · rw [if_neg c1]; exact ⟨kil w, by omega, c, rfl⟩
  · rw [if_neg c] at h; exact absurd rfl h
theorem setT {x : Sys} {σ : PS} {u : Wel} (h : repS x σ) (hu : flg u) : repS (sW x, u, s0 x, s1 x, s2 x, s3 x, sC x, sE x) σ := by
  obtain ⟨k1, k2, k3, k4, k5⟩ := h
  refine ⟨k1, k2, fun j v hj => ?_, k4, ⟨hu, k5.2⟩⟩
  have := k3 j v hj
  match j with
  | 0 => exact this
  | 1 => exact this
  | 2 => exact this
  | j + 3 => exact this
/-- the two ways -/
def way1 (v d : Nat) (w : PW) : Int32 := grt v d (cnt (gS w 0 * gS w 1 + gS w 0 * gS w 2) v) w 0
def way0 (v d : Nat) (w : PW) : Int32 := grt v d (cnt (gS w 0 * gS w 1 + gS w 0 * gS w 2) v) (pmI v (gS w 4) (cnt (gS w 0 * gS w 2) v) w) (grt v (gS w 4) (cnt (gS w 0 * gS w 2) v) w 0)
section
variable {x : Sys} {y : Mod} {σ : PS} {n : Nat}
/-- the trial of the class -/
theorem way1_S {u : Wel} {w : PW} {v d : Nat} {Q : Wel → Prop} (hu : repW u (tri w)) (ho : okW w) (hl : (gP w).length + (gA w).length ≤ 514) (hv : 0 < v) (hd : 1 ≤ d ∧ d ≤ 2500) (hp : v ≤ gS w 0 * gS w 1) (ha : v ≤ gS w 0 * gS w 2) (hk : ∀ u', y10 u' = way1 v d w → flg u' → Q u') : qX1_pipeVolume u (fun r13 => qX1_annulusVolume u (fun r14 => qX1_circulateInSteps u (r13 + r14) (nI v) (nI d) Q)) := by
  have hvl := vol_lt ho.1
  have hr := rm_le d (tri w)
  unfold qX1_pipeVolume qX1_annulusVolume
  rw [hu.1.1, hu.1.2.1, hu.1.2.2.1, pk_mul, pk_mul]
  show qX1_circulateInSteps u (nI (gS w 0 * gS w 1) + nI (gS w 0 * gS w 2)) (nI v) (nI d) Q
  rw [nI_add]
  refine steps_ok hu (tri_ok ho) (by show gS w 0 * gS w 1 + gS w 0 * gS w 2 ≤ _; omega) hv (by omega) hd hp ha (by have : rmB d (tri w) ≤ (gP w).length + (gA w).length + 1 := hr; omega) (fun u' hu' => hk u' ?_ hu'.flg)
  have e := hu'.2.1.2.2
  rw [gM_stp] at e
  rw [e]
  exact grt_congW rfl rfl rfl
theorem way0_S {u : Wel} {w : PW} {v d : Nat} {Q : Wel → Prop} (hu : repW u (tri w)) (ho : okW w) (hl : (gP w).length + (gA w).length ≤ 514) (hv : 0 < v) (hd : 1 ≤ d ∧ d ≤ 2500) (hp : v ≤ gS w 0 * gS w 1) (ha : v ≤ gS w 0 * gS w 2) (hk : ∀ u', y10 u' = way0 v d w → flg u' → Q u') : qX1_annulusVolume u (fun r16 => qX1_circulateInSteps u r16 (nI v) (nI (gS w 4)) (fun u17 => qX1_pipeVolume u17 (fun r18 => qX1_annulusVolume u17 (fun r19 => qX1_circulateInSteps u17 (r18 + r19) (nI v) (nI d) Q)))) := by
  have hvl := vol_lt ho.1
  have h4 := ho.1.2.2.2.2.1
  have hr : rmB (gS w 4) (tri w) ≤ (gP w).length + (gA w).length + 1 := rm_le (gS w 4) (tri w)
  unfold qX1_annulusVolume
  rw [hu.1.1, hu.1.2.2.1, pk_mul]
  refine steps_ok hu (tri_ok ho) (by show gS w 0 * gS w 2 ≤ _; omega) hv (by omega) h4 hp ha (by omega) (fun u1 hu1 => ?_)
  obtain ⟨o1, s1, r1⟩ := okW_stp hv h4 (cnt (gS (tri w) 0 * gS (tri w) 2) v) (tri w) (tri_ok ho) hp ha
  have s1 : gS (stp v (gS w 4) (cnt (gS (tri w) 0 * gS (tri w) 2) v) (tri w)) = gS w := s1
  have r2 := rm_two d (gS w 4) (stp v (gS w 4) (cnt (gS (tri w) 0 * gS (tri w) 2) v) (tri w))
  unfold qX1_pipeVolume
  rw [hu1.1.1, hu1.1.2.1, hu1.1.2.2.1, s1, pk_mul, pk_mul]
  show qX1_circulateInSteps u1 (nI (gS w 0 * gS w 1) + nI (gS w 0 * gS w 2)) (nI v) (nI d) Q
  rw [nI_add]
  refine steps_ok hu1 o1 (by omega) hv (by omega) hd (by rw [s1]; exact hp) (by rw [s1]; exact ha) (by omega) (fun u' hu' => hk u' ?_ hu'.flg)
  have e := hu'.2.1.2.2
  rw [gM_stp, gM_stp] at e
  rw [e]
  obtain ⟨e1, e2, e3⟩ := stp_eq v (gS w 4) (cnt (gS (tri w) 0 * gS (tri w) 2) v) (tri w)
  obtain ⟨k1, k2, k3⟩ := pmI_cong v (gS w 4) (cnt (gS (tri w) 0 * gS (tri w) 2) v) (gS w) (gG w) (gB w) 0 (gG w) (gB w) (gM w) (gP w) (gA w)
  have e4 : grt v (gS w 4) (cnt (gS (tri w) 0 * gS (tri w) 2) v) (tri w) (gM (tri w)) = grt v (gS w 4) (cnt (gS w 0 * gS w 2) v) w 0 := grt_congW rfl rfl rfl
  rw [e4]
  exact grt_congW (e1.trans k1) (e2.trans k2) (e3.trans k3)
end
section
variable {N A P : Nat → Int32} {S : Int32} {E : Nat → Int32} {hh : Int64}
theorem vol0T {w : PW} {Q : Int32 → Prop} (h : repN N w) (hk : Q (nI (gS w 0 * gS w 1))) : qX3_volumeOf (N, A, P, S, E, hh) 0 Q := volM0 (x := (N, A, P, S, E, hh)) h hk
theorem vol1T {w : PW} {Q : Int32 → Prop} (h : repN N w) (hk : Q (nI (gS w 0 * gS w 2))) : qX3_volumeOf (N, A, P, S, E, hh) 1 Q := volM1 (x := (N, A, P, S, E, hh)) h hk
theorem allT {l v d : Nat} {g : Int32} {w : PW} {Q : Int32 → Mod → Prop} (h : repN N w) (ho : okW w) (hl : l ≤ 1000000) (hv : 0 < v) (hv2 : v ≤ 10000) (hd : 1 ≤ d ∧ d ≤ 2500) (hp : v ≤ gS w 0 * gS w 1) (ha : v ≤ gS w 0 * gS w 2) (hr : rmB d w ≤ 517) (hk : ∀ f, repN f (pmI v d (cnt l v) w) → Q (grt v d (cnt l v) w g) (f, A, P, S, E, hh)) : qX3_pumpAll (N, A, P, S, E, hh) (nI l) (nI v) (nI d) g Q := all_ok (x := (N, A, P, S, E, hh)) h ho hl hv hv2 hd hp ha hr hk
theorem way1_M {w : PW} {v d : Nat} {Q : Int32 → Mod → Prop} (h : repN N w) (ho : okW w) (hl : (gP w).length + (gA w).length ≤ 514) (hv : 0 < v) (hv2 : v ≤ 9000) (hd : 1 ≤ d ∧ d ≤ 2500) (hp : v ≤ gS w 0 * gS w 1) (ha : v ≤ gS w 0 * gS w 2) (hk : ∀ f, Q (way1 v d w) (f, A, P, S, E, hh)) : qX3_volumeOf (N, A, P, S, E, hh) 0 (fun r17 => qX3_volumeOf (N, A, P, S, E, hh) 1 (fun r18 => qX3_pumpAll (N, A, P, S, E, hh) (r17 + r18) (nI v) (nI d) 0 Q)) := by
  have hvl := vol_lt ho.1
  have hr := rm_le d w
  refine vol0T h (vol1T h ?_)
  rw [nI_add]
  exact allT h ho (by omega) hv (by omega) hd hp ha (by omega) (fun f _ => hk f)
theorem way0_M {w : PW} {v d : Nat} {Q : Int32 → Mod → Prop} (h : repN N w) (ho : okW w) (hl : (gP w).length + (gA w).length ≤ 514) (hv : 0 < v) (hv2 : v ≤ 9000) (hd : 1 ≤ d ∧ d ≤ 2500) (hp : v ≤ gS w 0 * gS w 1) (ha : v ≤ gS w 0 * gS w 2) (hk : ∀ f, Q (way0 v d w) (f, A, P, S, E, hh)) : qX3_volumeOf (N, A, P, S, E, hh) 1 (fun r22 => qX3_pumpAll (N, A, P, S, E, hh) r22 (nI v) (nI (gS w 4)) 0 (fun r23 u24 => qX3_volumeOf u24 0 (fun r25 => qX3_volumeOf u24 1 (fun r26 => qX3_pumpAll u24 (r25 + r26) (nI v) (nI d) r23 Q)))) := by
  have hvl := vol_lt ho.1
  have h4 := ho.1.2.2.2.2.1
  have hr := rm_le (gS w 4) w
  refine vol1T h (allT h ho (by omega) hv (by omega) h4 hp ha (by omega) (fun f hf => ?_))
  obtain ⟨o1, s1, r1⟩ := okW_pmI hv h4 (cnt (gS w 0 * gS w 2) v) w ho hp ha
  have r2 := rm_two d (gS w 4) (pmI v (gS w 4) (cnt (gS w 0 * gS w 2) v) w)
  refine vol0T hf (vol1T hf ?_)
  rw [s1, nI_add]
  exact allT hf o1 (by omega) hv (by omega) hd (by rw [s1]; exact hp) (by rw [s1]; exact ha) (by omega) (fun f2 _ => hk f2)
end
theorem s_killShoe {x : Sys} {y : Mod} {σ : PS} {n : Nat} {Q2 : Int32 → Sys → Prop} {p q : Int32} (h : cpl x y σ n) (H : gvs n (qX3_killShoePressure y p q) Q2) : qX2_killShoePressure x p q Q2 := by
  obtain ⟨hs, hm, hi, hn⟩ := h
  have hl := hi.1.len (by omega)
  have hll := lens hi.1 (by omega)
  have ho := hi.1.1
  have hvl := vol_lt ho.1
  refine in_ok (fun a1 b1 => ⟨fun z => absurd z n10, fun _ => ?_⟩) (fun hc => ⟨fun _ => ref2 hs (H _ _ (inv_er 0 hi) (fun Q hk => in_n hc ⟨fun _ => err2 hm hk, fun z => absurd rfl z⟩)), fun z => absurd rfl z⟩)
  refine in_ok (fun a2 b2 => ⟨fun _ => ?_, fun z => absurd z n10⟩) (fun hc => ⟨fun z => absurd rfl z, fun _ => ref2 hs (H _ _ (inv_er 0 hi) (fun Q hk => in_y a1 b1 ⟨fun z => absurd z n10, fun _ => in_n hc ⟨fun z => absurd rfl z, fun _ => err2 hm hk⟩⟩))⟩)
  refine can_ok hs.1 (fun a b => ⟨fun _ => ?_, fun z => absurd z n10⟩) (fun hc => ⟨fun z => absurd rfl z, fun _ => ref3 hs (H _ _ (inv_er 1 hi) (fun Q hk => in_y a1 b1 ⟨fun z => absurd z n10, fun _ => in_y a2 b2 ⟨fun _ => volM0 hm.1 ⟨fun _ => err3 hm hk, fun c => volM1 hm.1 ⟨fun d => absurd ⟨(nlt_le _ _).mp c, d⟩ hc, fun _ => err3 hm hk⟩⟩, fun z => absurd z n10⟩⟩))⟩)
  have key : ∀ Q, qX3_leastDensity y (fun r13 => ((¬ r13 = (-4) → (qX3_copy 4416 4416 (mN y) (mA y) 0 0 (fun u15 => ((¬ p = 0 → (qX3_volumeOf (mN y, u15, mP y, mS y, mE y, mH y) 0 (fun r17 => (qX3_volumeOf (mN y, u15, mP y, mS y, mE y, mH y) 1 (fun r18 => (qX3_pumpAll (mN y, u15, mP y, mS y, mE y, mH y) (r17 + r18) q r13 0 (fun r19 u20 => (qX3_copy 4416 4416 (mA u20) (mN u20) 0 0 (fun u21 => Q r19 (u21, mA u20, mP u20, mS u20, mE u20, mH u20)))))))))) ∧ (p = 0 → (qX3_volumeOf (mN y, u15, mP y, mS y, mE y, mH y) 1 (fun r22 => (qX3_pumpAll (mN y, u15, mP y, mS y, mE y, mH y) r22 q ((mN y) (Int32.toNatClampNeg 4)) 0 (fun r23 u24 => (qX3_volumeOf u24 0 (fun r25 => (qX3_volumeOf u24 1 (fun r26 => (qX3_pumpAll u24 (r25 + r26) q r13 r23 (fun r27 u28 => (qX3_copy 4416 4416 (mA u28) (mN u28) 0 0 (fun u29 => Q r27 (u29, mA u28, mP u28, mS u28, mE u28, mH u28)))))))))))))))))) ∧ (r13 = (-4) → (qX3_error y (-4) (fun r30 u31 => Q r30 u31))))) → qX3_killShoePressure y p q Q := fun Q hq => in_y a1 b1 ⟨fun z => absurd z n10, fun _ => in_y a2 b2 ⟨fun _ => volM0 hm.1 ⟨fun c => absurd c ((nlt_le _ _).mpr a), fun c => volM1 hm.1 ⟨fun d => hq, fun z => absurd b z⟩⟩, fun z => absurd z n10⟩⟩
  refine kill_ok hs.1 ho ⟨fun c => ?_, fun c => ref4 hs (H _ _ (inv_er 2 hi) (fun Q hk => key Q (leastM_ok hm.1 ho ⟨fun z => absurd c z, fun _ => err4 hm hk⟩)))⟩
  obtain ⟨d, d1, d2, ed⟩ := kilI_of c
  obtain ⟨v, v1, v2, rfl⟩ := btw (a := 100) (b := 9000) (by decide) (by decide) a2 b2
  have hp : v ≤ gS σ.1 0 * gS σ.1 1 := (nI_leI (by omega) (by omega)).mp a
  have ha : v ≤ gS σ.1 0 * gS σ.1 2 := (nI_leI (by omega) (by omega)).mp b
  have k1z : repN (fun k => mN y (0 + k)) σ.1 := repN_cong hm.1 hll (fun k _ => by rw [Nat.zero_add])
  have e4m : mN y (Int32.toNatClampNeg 4) = nI (gS σ.1 4) := by rw [tN4]; exact hm.1.1.1 4 (by decide)
  have back : ∀ (Q : Int32 → Mod → Prop) (r : Int32) (t f : Nat → Int32), repN (fun k => t (0 + k)) σ.1 → (∀ y', repM y' σ → Q r y') → qX3_copy 4416 4416 t f 0 0 (fun u21 => Q r (u21, t, mP y, mS y, mE y, mH y)) := by
    intro Q r t f ht hk
    refine cp_ok (b := 0) (c := 0) ht hll (by decide) (by decide) (by decide) (by decide) (fun t2 h2 _ => hk _ ⟨?_, hm.2⟩)
    exact repN_cong h2 hll (fun k _ => by rw [Nat.zero_add])
  rw [ed]
  refine copyW_ok hs.1 ho hs.2.2.2.2.1 ⟨by omega, by omega⟩ (fun u hu => ⟨fun c0 => ?_, fun c0 => ?_⟩)
  · refine way1_S (w := σ.1) ⟨hu.1, ⟨hu.2.1.1, hu.2.1.2.1, rfl⟩, hu.2.2⟩ ho hl (by omega) ⟨d1, d2⟩ hp ha (fun u' e f' => ?_)
    rw [e]
    refine H _ σ hi.up (fun Q hk => key Q (leastM_ok hm.1 ho ⟨fun _ => ?_, fun z => absurd z c⟩)) _ (setT hs f')
    rw [ed]
    refine cp_ok (b := 0) (c := 0) k1z hll (by decide) (by decide) (by decide) (by decide) (fun t ht _ => ⟨fun _ => ?_, fun z => absurd z c0⟩)
    exact way1_M hm.1 ho hl (by omega) v2 ⟨d1, d2⟩ hp ha (fun f => back Q _ t f ht hk)
  · have e4 : y4 u = nI (gS σ.1 4) := hu.1.2.2.2.2.1
    rw [e4]
    refine way0_S (w := σ.1) ⟨⟨hu.1.1, hu.1.2.1, hu.1.2.2.1, hu.1.2.2.2.1, rfl, hu.1.2.2.2.2.2⟩, ⟨hu.2.1.1, hu.2.1.2.1, rfl⟩, hu.2.2⟩ ho hl (by omega) ⟨d1, d2⟩ hp ha (fun u' e f' => ?_)
    rw [e]
    refine H _ σ hi.up (fun Q hk => key Q (leastM_ok hm.1 ho ⟨fun _ => ?_, fun z => absurd z c⟩)) _ (setT hs f')
    rw [ed, e4m]
    refine cp_ok (b := 0) (c := 0) k1z hll (by decide) (by decide) (by decide) (by decide) (fun t ht _ => ⟨fun z => absurd c0 z, fun _ => ?_⟩)
    exact way0_M hm.1 ho hl (by omega) v2 ⟨d1, d2⟩ hp ha (fun f => back Q _ t f ht hk)
