/-! the digest, and the pressure of a kill -/
def he (e : Nat → Int32) : Int64 := mixI (mixI (mixI (mixI 2693 (e 0)) (e 1)) (e 2)) (e 3)
def dgP (w : PW) (h : Int64) : Int64 := mixS (31 * mixSet h w + lN (gP w).length) (gP w).reverse
def dgA (w : PW) (h : Int64) : Int64 := mixS (31 * dgP w h + lN (gA w).length) (gA w)
def dig (σ : PS) : Int64 := mixI (mixRd (dgA σ.1 (he σ.2.2)) σ.1) (nI σ.2.1.length)
section
variable {N A P : Nat → Int32} {S : Int32} {E : Nat → Int32} {hh g : Int64} {Q : Mod → Prop}
theorem mixE {k v : Int32} (hp : E (Int32.toNatClampNeg k) = v) (h : Q (N, A, P, S, E, mixI hh v)) : qX3_mix (N, A, P, S, E, hh) (Int32.toInt64 (mE (N, A, P, S, E, hh) (Int32.toNatClampNeg k))) Q := mix_c (congrArg Int32.toInt64 hp) h
theorem mixN {k v : Int32} (hp : N (Int32.toNatClampNeg k) = v) (h : Q (N, A, P, S, E, mixI hh v)) : qX3_mix (N, A, P, S, E, hh) (Int32.toInt64 (mN (N, A, P, S, E, hh) (Int32.toNatClampNeg k))) Q := mix_c (congrArg Int32.toInt64 hp) h
theorem mixN6 {k v r : Int32} (hp : N (Int32.toNatClampNeg k) + r = v) (h : Q (N, A, P, S, E, mixI hh v)) : qX3_mix (N, A, P, S, E, hh) (Int32.toInt64 (mN (N, A, P, S, E, hh) (Int32.toNatClampNeg k) + r)) Q := mix_c (congrArg Int32.toInt64 hp) h
theorem mixV {v : Int32} (hp : S = v) (h : Q (N, A, P, S, E, mixI hh v)) : qX3_mix (N, A, P, S, E, hh) (Int32.toInt64 (mS (N, A, P, S, E, hh))) Q := mix_c (congrArg Int32.toInt64 hp) h
theorem mixR {v : Int32} (h : Q (N, A, P, S, E, mixI hh v)) : qX3_mix (N, A, P, S, E, hh) (Int32.toInt64 v) Q := mix_c rfl h
theorem repM_of {σ : PS} (h1 : repN N σ.1) (h2 : S = nI σ.2.1.length) (h3 : ∀ (j : Nat) (w : PW), σ.2.1[j]? = some w → repN (fun k => P (4416 * j + k)) w) (h4 : ∀ k, k < 4 → E k = σ.2.2 k) : repM (N, A, P, S, E, hh) σ := ⟨h1, h2, h3, h4⟩
theorem lackT {w : PW} {c : Nat} {Q : Int32 → Prop} (h : repN N w) (ho : okW w) (hl : (gP w).length ≤ 1100 ∧ (gA w).length ≤ 1100) (hc : c ≤ 1) (hk : Q (nI (gS w 5 - wholeP w c))) : qX3_lacking (N, A, P, S, E, hh) (nI c) Q := lack_ok (x := (N, A, P, S, E, hh)) h ho hl hc hk
theorem shoeT {w : PW} {Q : Int32 → Prop} (h : repN N w) (ho : okW w) (hl : (gP w).length ≤ 1100 ∧ (gA w).length ≤ 1100) (hk : Q (nI (atS w))) : qX3_atShoe (N, A, P, S, E, hh) Q := shoeM_ok (x := (N, A, P, S, E, hh)) h ho hl hk
end
theorem mix2 {h : Int64} {v : Int32} {Q : Int64 → Prop} (hq : Q (mixI h v)) : qX2_mixed h (Int32.toInt64 v) Q := hq
theorem top1 (q : Ly) : top 1 q = q.reverse := if_neg n10
theorem top0 (q : Ly) : top 0 q = q := if_pos rfl
theorem dig_S {x : Sys} {σ : PS} {n : Nat} {Q2 : Int64 → Prop} (hs : repS x σ) (hi : inv n σ) (hk : Q2 (dig σ)) : qX2_digest x Q2 := by
  have ho := hi.1.1
  have hv := vol_lt ho.1
  unfold dig dgA dgP he at hk
  unfold qX2_digest
  rw [tN0, tN1, tN2, tN3, hs.2.2.2.1 0 (by decide), hs.2.2.2.1 1 (by decide), hs.2.2.2.1 2 (by decide), hs.2.2.2.1 3 (by decide), hs.2.1]
  refine mix2 (mix2 (mix2 (mix2 ?_)))
  refine mixSet_ok hs.1 ?_
  refine mixed_ok hs.1.2.2.1 ho.2.1.1 (by rw [ho.2.1.2.2]; omega) ?_
  refine mixed_ok hs.1.2.2.2 ho.2.2.1 (by rw [ho.2.2.2.2]; omega) ?_
  rw [top1, top0]
  refine mixRd_ok hs.1 ho ?_
  refine mix2 ?_
  exact hk
theorem dig_M {y : Mod} {σ : PS} {n : Nat} {Q : Int64 → Mod → Prop} (hm : repM y σ) (hi : inv n σ) (hn : n ≤ 511) (hk : ∀ y', repM y' σ → Q (dig σ) y') : qX3_digest y Q := by
  have hl := lens hi.1 (by omega)
  have ho := hi.1.1
  have E0 : mE y (Int32.toNatClampNeg 0) = σ.2.2 0 := by rw [tN0]; exact hm.2.2.2 0 (by decide)
  have E1 : mE y (Int32.toNatClampNeg 1) = σ.2.2 1 := by rw [tN1]; exact hm.2.2.2 1 (by decide)
  have E2 : mE y (Int32.toNatClampNeg 2) = σ.2.2 2 := by rw [tN2]; exact hm.2.2.2 2 (by decide)
  have E3 : mE y (Int32.toNatClampNeg 3) = σ.2.2 3 := by rw [tN3]; exact hm.2.2.2 3 (by decide)
  have hr := hm.1
  have S0 : mN y (Int32.toNatClampNeg 0) = nI (gS σ.1 0) := by rw [tN0]; exact hr.1.1 0 (by decide)
  have S1 : mN y (Int32.toNatClampNeg 1) = nI (gS σ.1 1) := by rw [tN1]; exact hr.1.1 1 (by decide)
  have S2 : mN y (Int32.toNatClampNeg 2) = nI (gS σ.1 2) := by rw [tN2]; exact hr.1.1 2 (by decide)
  have S3 : mN y (Int32.toNatClampNeg 3) = nI (gS σ.1 3) := by rw [tN3]; exact hr.1.1 3 (by decide)
  have S4 : mN y (Int32.toNatClampNeg 4) = nI (gS σ.1 4) := by rw [tN4]; exact hr.1.1 4 (by decide)
  have S5 : mN y (Int32.toNatClampNeg 5) = nI (gS σ.1 5) := by rw [tN5]; exact hr.1.1 5 (by decide)
  have S6 : mN y (Int32.toNatClampNeg 6) = nI (gS σ.1 6) := by rw [tN6]; exact hr.1.1 6 (by decide)
  have S7 : mN y (Int32.toNatClampNeg 7) = nI (gS σ.1 7) := by rw [tN7]; exact hr.1.1 7 (by decide)
  have S8 : mN y (Int32.toNatClampNeg 8) = gG σ.1 := by rw [tN8]; exact hr.1.2.1
  have S9 : mN y (Int32.toNatClampNeg 9) = gB σ.1 := by rw [tN9]; exact hr.1.2.2.1
  have S10 : mN y (Int32.toNatClampNeg 10) = gM σ.1 := by rw [tN10]; exact hr.1.2.2.2
  have S11 : mN y (Int32.toNatClampNeg 11) = nI (gP σ.1).length := by rw [tN11]; exact hr.2.1.1
  have S12 : mN y (Int32.toNatClampNeg 12) = nI (gA σ.1).length := by rw [tN12]; exact hr.2.1.2
  unfold qX3_digest
  refine mix_c (congrArg Int32.toInt64 E0) ?_
  refine mixE E1 ?_
  refine mixE E2 ?_
  refine mixE E3 ?_
  refine mixN S0 ?_
  refine mixN S1 ?_
  refine mixN S2 ?_
  refine mixN S3 ?_
  refine mixN S4 ?_
  refine mixN S5 ?_
  refine mixN S6 ?_
  refine mixN S7 ?_
  refine mixN S11 ?_
  refine ⟨(gP σ.1).length + 1, digP_L hr ho hl.1 (gP σ.1).reverse 0 _ _ rfl (Nat.zero_le _) (by rw [List.length_reverse]; omega) (fun _ => ?_)⟩
  rw [mixI_l (n := (gP σ.1).length) (by omega)]
  refine mixN (hh := dgP σ.1 (he σ.2.2)) S12 ?_
  refine ⟨(gA σ.1).length + 1, digA_L hr ho hl.2 (gA σ.1) 0 _ _ rfl (Nat.zero_le _) (by omega) (fun _ => ?_)⟩
  rw [mixI_l (n := (gA σ.1).length) (by omega)]
  refine lackT (c := 0) (hh := dgA σ.1 (he σ.2.2)) hr ho hl (by decide) ?_
  refine mixR (hh := dgA σ.1 (he σ.2.2)) (v := nI (atP σ.1)) ?_
  refine lackT (c := 1) hr ho hl (by decide) ?_
  refine mixR (v := nI (atC σ.1)) ?_
  refine lackT (c := 0) hr ho hl (by decide) ?_
  refine mixN6 (v := nI (gS σ.1 6 + atP σ.1)) (by rw [S6, nI_add]; rfl) ?_
  refine shoeT hr ho hl ?_
  refine mixR (v := nI (atS σ.1)) ?_
  refine mixN S8 ?_
  refine mixN S9 ?_
  refine mixN S10 ?_
  refine mixV hm.2.1 ?_
  exact hk _ (repM_of hr hm.2.1 hm.2.2.1 hm.2.2.2)
theorem s_digest {x : Sys} {y : Mod} {σ : PS} {n : Nat} {Q2 : Int64 → Prop} (h : cpl x y σ n) (H : ∀ r, (∀ Q : Int64 → Mod → Prop, (∀ y', repM y' σ → Q r y') → qX3_digest y Q) → Q2 r) : qX2_digest x Q2 := by
  obtain ⟨hs, hm, hi, hn⟩ := h
  exact dig_S hs hi (H _ (fun Q hk => dig_M hm hi hn hk))
