/-! the calls that change -/
def sS (S : Nat → Nat) (k v : Nat) : Nat → Nat := fun j => if j = k then v else S j
def stw (k v : Nat) (w : PW) : PW := (sS (gS w) k v, gG w, gB w, gM w, gP w, gA w)
theorem upd_sS {f : Nat → Int32} {S : Nat → Nat} {k v : Nat} (h : ∀ j, j < 8 → f j = nI (S j)) : ∀ j, j < 8 → upd f k (nI v) j = nI (sS S k v j) := by
  intro j hj
  unfold sS
  by_cases e : j = k
  · rw [e, pk_us, if_pos rfl]
  · rw [pk_un e, if_neg e]; exact h j hj
theorem rep_stw {f : Nat → Int32} {w : PW} {k v : Nat} (h : repN f w) (hk : k < 8) : repN (upd f k (nI v)) (stw k v w) := by
  obtain ⟨⟨s1, s2⟩, ⟨n1, n2⟩, cP, cA⟩ := h
  refine ⟨⟨upd_sS s1, ?_, ?_, ?_⟩, ⟨?_, ?_⟩, ?_, ?_⟩
  · rw [pk_un (by omega)]; exact s2.1
  · rw [pk_un (by omega)]; exact s2.2.1
  · rw [pk_un (by omega)]; exact s2.2.2
  · rw [pk_un (by omega)]; exact n1
  · rw [pk_un (by omega)]; exact n2
  · intro j a hj
    rw [pk_un (by omega), pk_un (by omega)]; exact cP j a hj
  · intro j a hj
    rw [pk_un (by omega), pk_un (by omega)]; exact cA j a hj
theorem rep_gain {f : Nat → Int32} {w : PW} {g : Int32} (h : repN f w) : repN (upd f 8 g) (gS w, g, gB w, gM w, gP w, gA w) := by
  obtain ⟨⟨s1, s2⟩, ⟨n1, n2⟩, cP, cA⟩ := h
  refine ⟨⟨fun k hk => ?_, ?_, ?_, ?_⟩, ⟨?_, ?_⟩, ?_, ?_⟩
  · rw [pk_un (by omega)]; exact s1 k hk
  · rw [pk_us]
  · rw [pk_un (by omega)]; exact s2.2.1
  · rw [pk_un (by omega)]; exact s2.2.2
  · rw [pk_un (by omega)]; exact n1
  · rw [pk_un (by omega)]; exact n2
  · intro j a hj
    rw [pk_un (by omega), pk_un (by omega)]; exact cP j a hj
  · intro j a hj
    rw [pk_un (by omega), pk_un (by omega)]; exact cA j a hj
theorem phi_stw (k v : Nat) (w : PW) : phi (stw k v w) ≤ phi w + 1 := by
  show (gP w).length + (gA w).length + (if sS (gS w) k v 4 = topd (gP w) then 0 else 1) ≤ (gP w).length + (gA w).length + (if gS w 4 = topd (gP w) then 0 else 1) + 1
  split <;> split <;> omega
theorem setW {x1 : Sys} {σ1 : PS} {u : Wel} {w : PW} (h : repS x1 σ1) (hu : repW u w) : repS (u, sT x1, s0 x1, s1 x1, s2 x1, s3 x1, sC x1, sE x1) (w, σ1.2.1, σ1.2.2) := by
  obtain ⟨-, k2, k3, k4, k5⟩ := h
  refine ⟨hu, k2, fun j v hj => ?_, k4, k5⟩
  have := k3 j v hj
  match j with
  | 0 => exact this
  | 1 => exact this
  | 2 => exact this
  | j + 3 => exact this
theorem phi_pmp {w : PW} {v : Nat} (h : okW w) (hv : 0 < v) (hp : v ≤ gS w 0 * gS w 1) (ha : v ≤ gS w 0 * gS w 2) : phi (pmp v (gS w 4) w) ≤ phi w + 1 := by
  have h4 := h.1.2.2.2.2.1
  have h1 := rmB_len (d := gS w 4) (okW_pmp h hv hp ha h4)
  have h2 := rmB_pmp (d := gS w 4) h hv hp ha
  have h3 := len_catM (gP w) (gA w)
  have h5 : phi (pmp v (gS w 4) w) = (gP (pmp v (gS w 4) w)).length + (gA (pmp v (gS w 4) w)).length := by
    show _ + _ + (if gS w 4 = topd (pmpP v (gS w 4) (gP w)) then 0 else 1) = _
    rw [pmpP, topd_ent, if_pos rfl]; rfl
  have h6 : rmB (gS w 4) w = (catM (gA w) (gP w)).length + (if gS w 4 = topd (gP w) then 0 else 1) := rfl
  have h7 : phi w = (gP w).length + (gA w).length + (if gS w 4 = topd (gP w) then 0 else 1) := rfl
  omega
theorem phi_inx (w : PW) (v d : Nat) : phi (inx v d w) ≤ phi w + 1 := by
  have h1 := (len_ent_le (v, d) (drp v (gA w))).1
  have h2 := len_drp (gA w) v
  show (gP w).length + (ent (drp v (gA w)) (v, d)).length + (if gS w 4 = topd (gP w) then 0 else 1) ≤ (gP w).length + (gA w).length + (if gS w 4 = topd (gP w) then 0 else 1) + 1
  omega
theorem phi_anew (S : Nat → Nat) : phi (anew S) = 2 := by
  show 1 + 1 + (if S 4 = S 4 then 0 else 1) = 2
  rw [if_pos rfl]
theorem set_n {y : Mod} {k p lo hi : Int32} {Q : Int32 → Mod → Prop} (hc : ¬ (lo ≤ p ∧ p ≤ hi)) (h : qX3_error y (-2) Q) : qX3_set y k p lo hi Q := in_n hc ⟨fun z => absurd rfl z, fun _ => h⟩
theorem set_y {y : Mod} {k p lo hi : Int32} {Q : Int32 → Mod → Prop} (h1 : lo ≤ p) (h2 : p ≤ hi) (h : qX3_save y (fun u3 => (vp_in k 4416 ∧ (∀ v5 : Int32, v5 = (mN u3) (Int32.toNatClampNeg k) → (vp_in k 4416 ∧ Q v5 (upd (mN u3) (Int32.toNatClampNeg k) p, mA u3, mP u3, mS u3, mE u3, mH u3)))))) : qX3_set y k p lo hi Q := in_y h1 h2 ⟨fun _ => h, fun z => absurd z n10⟩
section
variable {x : Sys} {y : Mod} {σ : PS} {n : Nat} {Q2 : Int32 → Sys → Prop}
theorem s_setMud {p : Int32} (h : cpl x y σ n) (H : gvs n (qX3_setMud y p) Q2) : qX2_setMud x p Q2 := by
  obtain ⟨hs, hm, hi, hn⟩ := h
  obtain ⟨o0, o1, o2, o3, o4, o5, o6, o7⟩ := hi.1.1.1
  refine in_ok (fun h1 h2 => ⟨fun _ => ?_, fun z => absurd z n10⟩) (fun hc => ⟨fun z => absurd rfl z, fun _ => ref2 hs (H _ _ (inv_er 0 hi) (fun Q hk => set_n hc (err2 hm hk)))⟩)
  obtain ⟨c, hc1, hc2, rfl⟩ := btw (a := 1) (b := 2500) (by decide) (by decide) h1 h2
  have hS : okS (sS (gS σ.1) 4 c) := ⟨o0, o1, o2, o3, ⟨hc1, hc2⟩, o5, o6, o7⟩
  refine saveS_ok hs hi (by omega) (fun x1 hs1 v4 hv4 => ?_)
  have e4 : v4 = nI (gS σ.1 4) := hv4.trans hs1.1.1.2.2.2.2.1
  subst e4
  refine H _ (stw 4 c σ.1, psv σ.1 σ.2.1, σ.2.2) (inv_put hi ⟨⟨hS, hi.1.1.2.1, hi.1.1.2.2⟩, ?_⟩) (fun Q hk => set_y h1 h2 (saveM_ok hm hi (by omega) (fun y1 hm1 => ⟨vp_c 4 4416 (by decide), fun v5 h5 => ⟨vp_c 4 4416 (by decide), ?_⟩⟩))) _ (setW hs1 ⟨⟨hs1.1.1.1, hs1.1.1.2.1, hs1.1.1.2.2.1, hs1.1.1.2.2.2.1, rfl, hs1.1.1.2.2.2.2.2.1, hs1.1.1.2.2.2.2.2.2.1, hs1.1.1.2.2.2.2.2.2.2⟩, hs1.1.2⟩)
  · have := phi_stw 4 c σ.1
    have := hi.1.2
    omega
  · have e5 : v5 = nI (gS σ.1 4) := by rw [h5, tN4]; exact hm1.1.1.1 4 (by decide)
    rw [e5, tN4]
    exact hk _ ⟨rep_stw hm1.1 (by decide), hm1.2⟩
theorem s_setFormation {p : Int32} (h : cpl x y σ n) (H : gvs n (qX3_setFormation y p) Q2) : qX2_setFormation x p Q2 := by
  obtain ⟨hs, hm, hi, hn⟩ := h
  obtain ⟨o0, o1, o2, o3, o4, o5, o6, o7⟩ := hi.1.1.1
  refine in_ok (fun h1 h2 => ⟨fun _ => ?_, fun z => absurd z n10⟩) (fun hc => ⟨fun z => absurd rfl z, fun _ => ref2 hs (H _ _ (inv_er 0 hi) (fun Q hk => set_n hc (err2 hm hk)))⟩)
  obtain ⟨c, hc1, hc2, rfl⟩ := btw (a := 0) (b := 60000) (by decide) (by decide) h1 h2
  have hS : okS (sS (gS σ.1) 5 c) := ⟨o0, o1, o2, o3, o4, hc2, o6, o7⟩
  refine saveS_ok hs hi (by omega) (fun x1 hs1 v4 hv4 => ?_)
  have e4 : v4 = nI (gS σ.1 5) := hv4.trans hs1.1.1.2.2.2.2.2.1
  subst e4
  refine H _ (stw 5 c σ.1, psv σ.1 σ.2.1, σ.2.2) (inv_put hi ⟨⟨hS, hi.1.1.2.1, hi.1.1.2.2⟩, ?_⟩) (fun Q hk => set_y h1 h2 (saveM_ok hm hi (by omega) (fun y1 hm1 => ⟨vp_c 5 4416 (by decide), fun v5 h5 => ⟨vp_c 5 4416 (by decide), ?_⟩⟩))) _ (setW hs1 ⟨⟨hs1.1.1.1, hs1.1.1.2.1, hs1.1.1.2.2.1, hs1.1.1.2.2.2.1, hs1.1.1.2.2.2.2.1, rfl, hs1.1.1.2.2.2.2.2.2.1, hs1.1.1.2.2.2.2.2.2.2⟩, hs1.1.2⟩)
  · have := phi_stw 5 c σ.1
    have := hi.1.2
    omega
  · have e5 : v5 = nI (gS σ.1 5) := by rw [h5, tN5]; exact hm1.1.1.1 5 (by decide)
    rw [e5, tN5]
    exact hk _ ⟨rep_stw hm1.1 (by decide), hm1.2⟩
theorem s_setSlowPump {p : Int32} (h : cpl x y σ n) (H : gvs n (qX3_setSlowPump y p) Q2) : qX2_setSlowPump x p Q2 := by
  obtain ⟨hs, hm, hi, hn⟩ := h
  obtain ⟨o0, o1, o2, o3, o4, o5, o6, o7⟩ := hi.1.1.1
  refine in_ok (fun h1 h2 => ⟨fun _ => ?_, fun z => absurd z n10⟩) (fun hc => ⟨fun z => absurd rfl z, fun _ => ref2 hs (H _ _ (inv_er 0 hi) (fun Q hk => set_n hc (err2 hm hk)))⟩)
  obtain ⟨c, hc1, hc2, rfl⟩ := btw (a := 0) (b := 9999) (by decide) (by decide) h1 h2
  have hS : okS (sS (gS σ.1) 6 c) := ⟨o0, o1, o2, o3, o4, o5, hc2, o7⟩
  refine saveS_ok hs hi (by omega) (fun x1 hs1 v4 hv4 => ?_)
  have e4 : v4 = nI (gS σ.1 6) := hv4.trans hs1.1.1.2.2.2.2.2.2.1
  subst e4
  refine H _ (stw 6 c σ.1, psv σ.1 σ.2.1, σ.2.2) (inv_put hi ⟨⟨hS, hi.1.1.2.1, hi.1.1.2.2⟩, ?_⟩) (fun Q hk => set_y h1 h2 (saveM_ok hm hi (by omega) (fun y1 hm1 => ⟨vp_c 6 4416 (by decide), fun v5 h5 => ⟨vp_c 6 4416 (by decide), ?_⟩⟩))) _ (setW hs1 ⟨⟨hs1.1.1.1, hs1.1.1.2.1, hs1.1.1.2.2.1, hs1.1.1.2.2.2.1, hs1.1.1.2.2.2.2.1, hs1.1.1.2.2.2.2.2.1, rfl, hs1.1.1.2.2.2.2.2.2.2⟩, hs1.1.2⟩)
  · have := phi_stw 6 c σ.1
    have := hi.1.2
    omega
  · have e5 : v5 = nI (gS σ.1 6) := by rw [h5, tN6]; exact hm1.1.1.1 6 (by decide)
    rw [e5, tN6]
    exact hk _ ⟨rep_stw hm1.1 (by decide), hm1.2⟩
theorem s_setFracture {p : Int32} (h : cpl x y σ n) (H : gvs n (qX3_setFracture y p) Q2) : qX2_setFracture x p Q2 := by
  obtain ⟨hs, hm, hi, hn⟩ := h
  obtain ⟨o0, o1, o2, o3, o4, o5, o6, o7⟩ := hi.1.1.1
  refine in_ok (fun h1 h2 => ⟨fun _ => ?_, fun z => absurd z n10⟩) (fun hc => ⟨fun z => absurd rfl z, fun _ => ref2 hs (H _ _ (inv_er 0 hi) (fun Q hk => set_n hc (err2 hm hk)))⟩)
  obtain ⟨c, hc1, hc2, rfl⟩ := btw (a := 0) (b := 60000) (by decide) (by decide) h1 h2
  have hS : okS (sS (gS σ.1) 7 c) := ⟨o0, o1, o2, o3, o4, o5, o6, hc2⟩
  refine saveS_ok hs hi (by omega) (fun x1 hs1 v4 hv4 => ?_)
  have e4 : v4 = nI (gS σ.1 7) := hv4.trans hs1.1.1.2.2.2.2.2.2.2
  subst e4
  refine H _ (stw 7 c σ.1, psv σ.1 σ.2.1, σ.2.2) (inv_put hi ⟨⟨hS, hi.1.1.2.1, hi.1.1.2.2⟩, ?_⟩) (fun Q hk => set_y h1 h2 (saveM_ok hm hi (by omega) (fun y1 hm1 => ⟨vp_c 7 4416 (by decide), fun v5 h5 => ⟨vp_c 7 4416 (by decide), ?_⟩⟩))) _ (setW hs1 ⟨⟨hs1.1.1.1, hs1.1.1.2.1, hs1.1.1.2.2.1, hs1.1.1.2.2.2.1, hs1.1.1.2.2.2.2.1, hs1.1.1.2.2.2.2.2.1, hs1.1.1.2.2.2.2.2.2.1, rfl⟩, hs1.1.2⟩)
  · have := phi_stw 7 c σ.1
    have := hi.1.2
    omega
  · have e5 : v5 = nI (gS σ.1 7) := by rw [h5, tN7]; exact hm1.1.1.1 7 (by decide)
    rw [e5, tN7]
    exact hk _ ⟨rep_stw hm1.1 (by decide), hm1.2⟩
theorem s_geometry {p1 p2 p3 p4 : Int32} (h : cpl x y σ n) (H : gvs n (qX3_setGeometry y p1 p2 p3 p4) Q2) : qX2_setGeometry x p1 p2 p3 p4 Q2 := by
  obtain ⟨hs, hm, hi, hn⟩ := h
  obtain ⟨o0, o1, o2, o3, o4, o5, o6, o7⟩ := hi.1.1.1
  refine in_ok (fun a1 b1 => ⟨fun z => absurd z n10, fun _ => ?_⟩) (fun hc => ⟨fun _ => ref2 hs (H _ _ (inv_er 0 hi) (fun Q hk => in_n hc ⟨fun _ => err2 hm hk, fun z => absurd rfl z⟩)), fun z => absurd rfl z⟩)
  refine in_ok (fun a2 b2 => ⟨fun z => absurd z n10, fun _ => ?_⟩) (fun hc => ⟨fun _ => ref2 hs (H _ _ (inv_er 0 hi) (fun Q hk => in_y a1 b1 ⟨fun z => absurd z n10, fun _ => in_n hc ⟨fun _ => err2 hm hk, fun z => absurd rfl z⟩⟩)), fun z => absurd rfl z⟩)
  refine in_ok (fun a3 b3 => ⟨fun z => absurd z n10, fun _ => ?_⟩) (fun hc => ⟨fun _ => ref2 hs (H _ _ (inv_er 0 hi) (fun Q hk => in_y a1 b1 ⟨fun z => absurd z n10, fun _ => in_y a2 b2 ⟨fun z => absurd z n10, fun _ => in_n hc ⟨fun _ => err2 hm hk, fun z => absurd rfl z⟩⟩⟩)), fun z => absurd rfl z⟩)
  refine in_ok (fun a4 b4 => ⟨fun z => absurd z n10, fun _ => ?_⟩) (fun hc => ⟨fun _ => ref2 hs (H _ _ (inv_er 0 hi) (fun Q hk => in_y a1 b1 ⟨fun z => absurd z n10, fun _ => in_y a2 b2 ⟨fun z => absurd z n10, fun _ => in_y a3 b3 ⟨fun z => absurd z n10, fun _ => in_n hc ⟨fun z => absurd rfl z, fun _ => err2 hm hk⟩⟩⟩⟩)), fun z => absurd rfl z⟩)
  have key : ∀ Q, qX3_save y (fun u15 => qX3_fill (upd (upd (upd (upd (mN u15) (Int32.toNatClampNeg 0) p1) (Int32.toNatClampNeg 1) p2) (Int32.toNatClampNeg 2) p3) (Int32.toNatClampNeg 3) p4, mA u15, mP u15, mS u15, mE u15, mH u15) (fun u16 => qX3_volumeOf u16 0 (fun r17 => qX3_volumeOf u16 1 (fun r18 => Q (r17 + r18) u16)))) → qX3_setGeometry y p1 p2 p3 p4 Q := fun Q hq => in_y a1 b1 ⟨fun z => absurd z n10, fun _ => in_y a2 b2 ⟨fun z => absurd z n10, fun _ => in_y a3 b3 ⟨fun z => absurd z n10, fun _ => in_y a4 b4 ⟨fun _ => hq, fun z => absurd z n10⟩⟩⟩⟩
  obtain ⟨v1, c1, d1, rfl⟩ := btw (a := 100) (b := 3000) (by decide) (by decide) a1 b1
  obtain ⟨v2, c2, d2, rfl⟩ := btw (a := 1) (b := 20) (by decide) (by decide) a2 b2
  obtain ⟨v3, c3, d3, rfl⟩ := btw (a := 5) (b := 60) (by decide) (by decide) a3 b3
  obtain ⟨v4, c4, d4, rfl⟩ := btw (a := 1) (b := v1) (by decide) (by omega) a4 b4
  have hS : okS (sS (sS (sS (sS (gS σ.1) 0 v1) 1 v2) 2 v3) 3 v4) := ⟨⟨c1, d1⟩, ⟨c2, d2⟩, ⟨c3, d3⟩, ⟨c4, d4⟩, o4, o5, o6, o7⟩
  refine saveS_ok hs hi (by omega) (fun x1 hs1 => ?_)
  have hr := hs1.1.1
  refine start_ok (S := sS (sS (sS (sS (gS σ.1) 0 v1) 1 v2) 2 v3) 3 v4) ⟨rfl, rfl, rfl, rfl, hr.2.2.2.2.1, hr.2.2.2.2.2.1, hr.2.2.2.2.2.2.1, hr.2.2.2.2.2.2.2⟩ hs1.1.flg hS (fun u hu => ?_)
  unfold qX1_pipeVolume qX1_annulusVolume
  rw [hu.1.1, hu.1.2.1, hu.1.2.2.1, pk_mul, pk_mul]
  refine H _ (anew (sS (sS (sS (sS (gS σ.1) 0 v1) 1 v2) 2 v3) 3 v4), psv σ.1 σ.2.1, σ.2.2) (inv_put hi ⟨okW_anew hS, by rw [phi_anew]; omega⟩) (fun Q hk => key Q ?_) _ (setW hs1 hu)
  refine saveM_ok hm hi (by omega) (fun y1 hm1 => ?_)
  refine fillM_ok (S := sS (sS (sS (sS (gS σ.1) 0 v1) 1 v2) 2 v3) 3 v4) ?_ (fun f hf => ?_)
  · rw [tN0, tN1, tN2, tN3]
    exact upd_sS (upd_sS (upd_sS (upd_sS hm1.1.1.1)))
  · refine volM0 (x := wN _ f) hf (volM1 (x := wN _ f) hf ?_)
    exact hk _ ⟨hf, hm1.2⟩
theorem s_pump {p : Int32} (h : cpl x y σ n) (H : gvs n (qX3_pump y p) Q2) : qX2_pump x p Q2 := by
  obtain ⟨hs, hm, hi, hn⟩ := h
  have hl := hi.1.len (by omega)
  have ho := hi.1.1
  have hvl := vol_lt ho.1
  have h4 := ho.1.2.2.2.2.1
  refine ⟨fun h1 => ?_, fun h1 => ref2 hs (H _ _ (inv_er 0 hi) (fun Q hk => ⟨fun z => absurd z h1, fun _ => err2 hm hk⟩))⟩
  refine can_ok hs.1 (fun a b => ⟨fun _ => ?_, fun z => absurd z n10⟩) (fun hc => ⟨fun z => absurd rfl z, fun _ => ref3 hs (H _ _ (inv_er 1 hi) (fun Q hk => ⟨fun _ => volM0 hm.1 ⟨fun _ => err3 hm hk, fun c => volM1 hm.1 ⟨fun d => absurd ⟨(nlt_le _ _).mp c, d⟩ hc, fun _ => err3 hm hk⟩⟩, fun z => absurd h1 z⟩))⟩)
  have key : ∀ Q, qX3_save y (fun u8 => (qX3_pumpMud u8 p ((mN u8) (Int32.toNatClampNeg 4)) (fun u9 => (qX3_check u9 (fun u10 => (qX3_lacking u10 1 (fun r11 => Q r11 u10))))))) → qX3_pump y p Q := fun Q hq => ⟨fun _ => volM0 hm.1 ⟨fun c => absurd c ((nlt_le _ _).mpr a), fun c => volM1 hm.1 ⟨fun d => hq, fun z => absurd b z⟩⟩, fun z => absurd h1 z⟩
  obtain ⟨v, c1, c2, rfl⟩ := btw (a := 1) (b := gS σ.1 0 * gS σ.1 1) (by decide) (by omega) h1 a
  have c3 : v ≤ gS σ.1 0 * gS σ.1 2 := (nI_leI (by omega) (by omega)).mp b
  have o1 := okW_pmp (v := v) ho c1 c2 c3 h4
  have hph := phi_pmp ho c1 c2 c3
  have hb : okB (n + 1) (chk (pmp v (gS σ.1 4) σ.1)) := ⟨okW_chk o1, by
    have := hi.1.2
    show phi (pmp v (gS σ.1 4) σ.1) ≤ _
    omega⟩
  have hl1 : (gP (pmp v (gS σ.1 4) σ.1)).length ≤ 1100 ∧ (gA (pmp v (gS σ.1 4) σ.1)).length ≤ 1100 := lens hb (by omega)
  refine saveS_ok hs hi (by omega) (fun x1 hs1 => ?_)
  have e4 : y4 (sW x1) = nI (gS σ.1 4) := hs1.1.1.2.2.2.2.1
  rw [e4]
  refine circ_ok (w := σ.1) hs1.1 ho c1 c2 c3 h4 (by omega) (fun u hu => check_ok hu o1 (fun u2 hu2 => casing_ok hu2 (okW_chk o1) (H _ (chk (pmp v (gS σ.1 4) σ.1), psv σ.1 σ.2.1, σ.2.2) (inv_put hi hb) (fun Q hk => key Q ?_) _ (setW hs1 hu2))))
  refine saveM_ok hm hi (by omega) (fun y1 hm1 => ?_)
  have e5 : mN y1 4 = nI (gS σ.1 4) := hm1.1.1.1 4 (by decide)
  rw [tN4, e5]
  refine pumpM_ok (w := σ.1) hm1.1 ho c1 c2 c3 h4 (by omega) (fun f hf => checkM_ok (x := wN y1 f) hf o1 hl1 (fun g hg => ?_))
  refine lack_ok (c := 1) (x := wN y1 g) hg (okW_chk o1) hl1 (by decide) ?_
  exact hk _ ⟨hg, hm1.2⟩
theorem s_influx {p q : Int32} (h : cpl x y σ n) (H : gvs n (qX3_influx y p q) Q2) : qX2_influx x p q Q2 := by
  obtain ⟨hs, hm, hi, hn⟩ := h
  have hl := hi.1.len (by omega)
  have ho := hi.1.1
  have hvl := vol_lt ho.1
  refine ⟨fun h1 => ref2 hs (H _ _ (inv_er 0 hi) (fun Q hk => ⟨fun _ => err2 hm hk, fun z => absurd h1 z⟩)), fun h1 => ?_⟩
  refine in_ok (fun a b => ⟨fun _ => ?_, fun z => absurd z n10⟩) (fun hc => ⟨fun z => absurd rfl z, fun _ => ref2 hs (H _ _ (inv_er 0 hi) (fun Q hk => ⟨fun z => absurd z h1, fun _ => in_n hc ⟨fun z => absurd rfl z, fun _ => err2 hm hk⟩⟩))⟩)
  unfold qX1_annulusVolume
  rw [hs.1.1.1, hs.1.1.2.2.1, pk_mul]
  refine ⟨fun c => ?_, fun c => ref3 hs (H _ _ (inv_er 1 hi) (fun Q hk => ⟨fun z => absurd z h1, fun _ => in_y a b ⟨fun _ => volM1 hm.1 ⟨fun z => absurd z c, fun _ => err3 hm hk⟩, fun z => absurd z n10⟩⟩))⟩
  have key : ∀ Q, qX3_save y (fun u8 => (qX3_enter u8 p q (fun u9 => (qX3_leave u9 p (fun u10 => (qX3_check (upd (mN u10) (Int32.toNatClampNeg 8) (((mN u10) (Int32.toNatClampNeg 8)) + p), mA u10, mP u10, mS u10, mE u10, mH u10) (fun u11 => (qX3_lacking u11 1 (fun r12 => Q r12 u11))))))))) → qX3_influx y p q Q := fun Q hq => ⟨fun z => absurd z h1, fun _ => in_y a b ⟨fun _ => volM1 hm.1 ⟨fun _ => hq, fun z => absurd c z⟩, fun z => absurd z n10⟩⟩
  obtain ⟨d, d1, d2, rfl⟩ := btw (a := 1) (b := 2500) (by decide) (by decide) a b
  obtain ⟨v, c1, c2, rfl⟩ := btw (a := 1) (b := gS σ.1 0 * gS σ.1 2) (by decide) (by omega) ((nlt_le _ _).mp h1) c
  have o1 := okW_inx (v := v) ho c1 c2 ⟨d1, d2⟩
  have hb : okB (n + 1) (chk (inx v d σ.1)) := ⟨okW_chk o1, by
    have := hi.1.2
    have := phi_inx σ.1 v d
    show phi (inx v d σ.1) ≤ _
    omega⟩
  have hl1 : (gP (inx v d σ.1)).length ≤ 1100 ∧ (gA (inx v d σ.1)).length ≤ 1100 := lens hb (by omega)
  refine saveS_ok hs hi (by omega) (fun x1 hs1 => ?_)
  refine letin_ok (w := σ.1) hs1.1 ho c2 d2 (by omega) (fun u hu => check_ok hu o1 (fun u2 hu2 => casing_ok hu2 (okW_chk o1) (H _ (chk (inx v d σ.1), psv σ.1 σ.2.1, σ.2.2) (inv_put hi hb) (fun Q hk => key Q ?_) _ (setW hs1 hu2))))
  refine saveM_ok hm hi (by omega) (fun y1 hm1 => ?_)
  have s2 := ho.2.2.2.2
  have hle := (len_ent_le (v, d) (gA σ.1)).1
  refine entM_ok (w := σ.1) hm1.1 ho.2.2.1 ho.ne.2 (by omega) (by omega) d2 (fun f hf => ?_)
  refine leave_ok (x := wN y1 f) hf (by show lsum (ent (gA σ.1) (v, d)) ≤ _; rw [lsum_ent]; dsimp only; omega) (by show v < lsum (ent (gA σ.1) (v, d)); rw [lsum_ent]; dsimp only; omega) (by show (ent (gA σ.1) (v, d)).length ≤ 1100; omega) (by show (gP σ.1).length ≤ 1100; omega) (fun g hg => ?_)
  have hg : repN g (gS σ.1, gG σ.1, gB σ.1, gM σ.1, gP σ.1, drp v (ent (gA σ.1) (v, d))) := hg
  rw [drp_ent (v, d) c1 (gA σ.1) v (by omega)] at hg
  have e8 : g 8 = gG σ.1 := hg.1.2.1
  show qX3_check (upd g (Int32.toNatClampNeg 8) (g (Int32.toNatClampNeg 8) + nI v), mA y1, mP y1, mS y1, mE y1, mH y1) _
  rw [tN8, e8]
  refine checkM_ok (w := inx v d σ.1) (rep_gain hg) o1 hl1 (fun g2 hg2 => ?_)
  refine lack_ok (c := 1) (x := wN y1 g2) hg2 (okW_chk o1) hl1 (by decide) ?_
  exact hk _ ⟨hg2, hm1.2⟩
end
