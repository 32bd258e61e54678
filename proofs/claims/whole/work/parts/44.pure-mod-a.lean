/-! the reference: a well in a row of numbers -/
def colR (f : Nat → Int32) (c : Nat) (T : Ly) : Prop := ∀ (k : Nat) (a : Nat × Nat), T[k]? = some a → f (c + k) = nI a.1 ∧ f (c + 1100 + k) = nI a.2
def setR (f : Nat → Int32) (w : PW) : Prop := (∀ k, k < 8 → f k = nI (gS w k)) ∧ (f 8 = gG w ∧ f 9 = gB w ∧ f 10 = gM w)
def repN (f : Nat → Int32) (w : PW) : Prop := setR f w ∧ (f 11 = nI (gP w).length ∧ f 12 = nI (gA w).length) ∧ colR f 16 (gP w).reverse ∧ colR f 2216 (gA w)
abbrev wN (x : Mod) (f : Nat → Int32) : Mod := (f, mA x, mP x, mS x, mE x, mH x)
theorem vAt0 (k : Nat) : ((16 : Int32) + 2200 * 0) + nI k = nI (16 + k) := by
  rw [show (16 : Int32) + 2200 * 0 = nI 16 from by decide, nI_add]
theorem vAt1 (k : Nat) : ((16 : Int32) + 2200 * 1) + nI k = nI (2216 + k) := by
  rw [show (16 : Int32) + 2200 * 1 = nI 2216 from by decide, nI_add]
theorem vAtc (c k : Nat) : ((16 : Int32) + 2200 * nI c) + nI k = nI (16 + 2200 * c + k) := by
  rw [show (16 : Int32) = nI 16 from rfl, show (2200 : Int32) = nI 2200 from rfl, pk_mul, nI_add, nI_add]
theorem dAt (j : Nat) : nI j + 1100 = nI (j + 1100) := by
  rw [show (1100 : Int32) = nI 1100 from rfl, nI_add]
theorem va0 {k : Nat} {Q : Int32 → Prop} (h : Q (nI (16 + k))) : qX3_volumeAt 0 (nI k) Q := by unfold qX3_volumeAt; rw [vAt0]; exact h
theorem va1 {k : Nat} {Q : Int32 → Prop} (h : Q (nI (2216 + k))) : qX3_volumeAt 1 (nI k) Q := by unfold qX3_volumeAt; rw [vAt1]; exact h
theorem vac {c k : Nat} {Q : Int32 → Prop} (h : Q (nI (16 + 2200 * c + k))) : qX3_volumeAt (nI c) (nI k) Q := by unfold qX3_volumeAt; rw [vAtc]; exact h
theorem da0 {k : Nat} {Q : Int32 → Prop} (h : Q (nI (1116 + k))) : qX3_densityAt 0 (nI k) Q := by
  refine va0 ?_
  rw [dAt, show 16 + k + 1100 = 1116 + k by omega]; exact h
theorem da1 {k : Nat} {Q : Int32 → Prop} (h : Q (nI (3316 + k))) : qX3_densityAt 1 (nI k) Q := by
  refine va1 ?_
  rw [dAt, show 2216 + k + 1100 = 3316 + k by omega]; exact h
theorem dac {c k : Nat} {Q : Int32 → Prop} (h : Q (nI (1116 + 2200 * c + k))) : qX3_densityAt (nI c) (nI k) Q := by
  refine vac ?_
  rw [dAt, show 16 + 2200 * c + k + 1100 = 1116 + 2200 * c + k by omega]; exact h
/-- a layer enters the annulus -/
theorem entM_ok {x : Mod} {w : PW} {v d : Nat} {Q : Mod → Prop} (h : repN (mN x) w) (hf : fit (gA w)) (hne : gA w ≠ []) (hl : (gA w).length < 1100) (hlp : (gP w).length ≤ 1100) (hd : d ≤ 2500)
    (hk : ∀ f, repN f (gS w, gG w, gB w, gM w, gP w, ent (gA w) (v, d)) → Q (wN x f)) : qX3_enter x (nI v) (nI d) Q := by
  obtain ⟨⟨s1, s2⟩, ⟨n1, n2⟩, cP, cA⟩ := h
  obtain ⟨r, a, hra⟩ := snoc_of hne
  have hlen : (gA w).length = r.length + 1 := by rw [hra]; simp
  have hg := cA r.length a (by rw [hra]; simp)
  have ha := hf a (by rw [hra]; simp)
  intro l hl1
  rw [tN12, n2, hlen, nI_pred] at hl1
  subst hl1
  refine da1 ⟨vpn (by omega) (by decide), ?_⟩
  rw [clmp (by omega), show 3316 + r.length = 2216 + 1100 + r.length by omega, hg.2]
  refine ⟨fun c => ?_, fun c => ?_⟩
  · have e2 : ¬ a.2 = d := fun z => c (by rw [z])
    rw [nI_1]
    refine va1 ⟨vpn (by omega) (by decide), ?_⟩
    refine da1 ⟨vpn (by omega) (by decide), ?_⟩
    rw [clmp (by omega), clmp (by omega), tN12]
    apply hk
    have eA : ent (gA w) (v, d) = gA w ++ [(v, d)] := by rw [hra, ent_snoc, if_neg e2]; simp
    refine ⟨⟨fun k hk => ?_, ?_, ?_, ?_⟩, ⟨?_, ?_⟩, ?_, ?_⟩
    · rw [pk_un (by omega), pk_un (by omega), pk_un (by omega)]; exact s1 k hk
    · rw [pk_un (by omega), pk_un (by omega), pk_un (by omega)]; exact s2.1
    · rw [pk_un (by omega), pk_un (by omega), pk_un (by omega)]; exact s2.2.1
    · rw [pk_un (by omega), pk_un (by omega), pk_un (by omega)]; exact s2.2.2
    · rw [pk_un (by omega), pk_un (by omega), pk_un (by omega)]; exact n1
    · rw [pk_us, pk_un (by omega), pk_un (by omega), n2]
      show nI (gA w).length + 1 = nI (ent (gA w) (v, d)).length
      rw [eA, nI_1]; simp
    · intro k b hkb
      have hkb : (gP w).reverse[k]? = some b := hkb
      have hlt := (List.getElem?_eq_some_iff.mp hkb).1
      simp only [List.length_reverse] at hlt
      rw [pk_un (by omega), pk_un (by omega), pk_un (by omega), pk_un (by omega), pk_un (by omega), pk_un (by omega)]
      exact cP k b hkb
    · show colR _ 2216 (ent (gA w) (v, d))
      rw [eA]
      intro k b hkb
      rw [List.getElem?_append] at hkb
      split at hkb
      · rename_i hlt
        rw [pk_un (by omega), pk_un (by omega), pk_un (by omega), pk_un (by omega), pk_un (by omega), pk_un (by omega)]
        exact cA k b hkb
      · rename_i hge
        have hk1 : k - (gA w).length = 0 := by
          have := (List.getElem?_eq_some_iff.mp hkb).1; simp at this; omega
        rw [hk1] at hkb
        simp at hkb
        subst hkb
        rw [show k = r.length + 1 by omega, show 2216 + 1100 + (r.length + 1) = 3316 + (r.length + 1) by omega, pk_un (by omega), pk_un (by omega), pk_us, pk_un (by omega), pk_us]
        exact ⟨rfl, rfl⟩
  · have e2 : a.2 = d := (nI_eq (by omega) (by omega)).mp c
    refine va1 ⟨vpn (by omega) (by decide), vpn (by omega) (by decide), ?_⟩
    rw [clmp (by omega), hg.1, nI_add]
    apply hk
    have eA : ent (gA w) (v, d) = r ++ [(a.1 + v, a.2)] := by rw [hra, ent_snoc, if_pos e2]
    refine ⟨⟨fun k hk => ?_, ?_, ?_, ?_⟩, ⟨?_, ?_⟩, ?_, ?_⟩
    · rw [pk_un (by omega)]; exact s1 k hk
    · rw [pk_un (by omega)]; exact s2.1
    · rw [pk_un (by omega)]; exact s2.2.1
    · rw [pk_un (by omega)]; exact s2.2.2
    · rw [pk_un (by omega)]; exact n1
    · rw [pk_un (by omega), n2]
      show nI (gA w).length = nI (ent (gA w) (v, d)).length
      rw [eA, hlen]; simp
    · intro k b hkb
      have hkb : (gP w).reverse[k]? = some b := hkb
      have hlt := (List.getElem?_eq_some_iff.mp hkb).1
      simp only [List.length_reverse] at hlt
      rw [pk_un (by omega), pk_un (by omega)]
      exact cP k b hkb
    · show colR _ 2216 (ent (gA w) (v, d))
      rw [eA]
      intro k b hkb
      rw [List.getElem?_append] at hkb
      split at hkb
      · rename_i hlt
        rw [pk_un (by omega), pk_un (by omega)]
        exact cA k b (by rw [hra, List.getElem?_append_left hlt]; exact hkb)
      · rename_i hge
        have hk1 : k - r.length = 0 := by
          have := (List.getElem?_eq_some_iff.mp hkb).1; simp at this; omega
        rw [hk1] at hkb
        simp at hkb
        subst hkb
        rw [show k = r.length by omega, pk_us, pk_un (by omega), hg.2]
        exact ⟨rfl, rfl⟩
/-- what the pipe's shift keeps -/
def shP (f : Nat → Int32) (w : PW) (k : Nat) : Prop := setR f w ∧ (f 11 = nI (gP w).length ∧ f 12 = nI (gA w).length) ∧ colR f 2216 (gA w) ∧ (∀ (j : Nat) (a : Nat × Nat), (gP w).reverse[j]? = some a → j < k → f (16 + j) = nI a.1 ∧ f (1116 + j) = nI a.2) ∧ (∀ (j : Nat) (a : Nat × Nat), (gP w).reverse[j]? = some a → k ≤ j → f (17 + j) = nI a.1 ∧ f (1117 + j) = nI a.2)
theorem shiftP {w : PW} {K : Int32 → Mod → Prop} (hl : (gP w).length < 1099) (hla : (gA w).length ≤ 1100) : ∀ (k : Nat) (x : Mod) (m : Nat), shP (mN x) w k → k ≤ (gP w).length → k < m → (∀ i f, shP f w 0 → K i (wN x f)) → qX3_putOnTop_L37 K m (nI k) x := by
  intro k
  induction k with
  | zero =>
    intro x m h hk hm hK
    obtain ⟨m, rfl⟩ : ∃ k, m = k + 1 := ⟨m - 1, by omega⟩
    unfold qX3_putOnTop_L37
    exact ⟨fun _ => hK _ _ h, fun c => absurd ((le0 (by decide)).mpr rfl) c⟩
  | succ k ih =>
    intro x m h hk hm hK
    obtain ⟨m, rfl⟩ : ∃ k, m = k + 1 := ⟨m - 1, by omega⟩
    obtain ⟨⟨s1, s2⟩, ⟨n1, n2⟩, cA, c1, c2⟩ := h
    obtain ⟨a, hka⟩ : ∃ a, (gP w).reverse[k]? = some a := ⟨_, List.getElem?_eq_getElem (by simp; omega)⟩
    have hg := c1 k a hka (by omega)
    unfold qX3_putOnTop_L37
    refine ⟨fun c => absurd c (nI_nle (by omega) (by omega)), fun _ => ?_⟩
    rw [nI_pred, pk_m1]
    refine va0 (va0 ⟨vpn (by omega) (by decide), vpn (by omega) (by decide), da0 (da0 ⟨vpn (by omega) (by decide), vpn (by omega) (by decide), ?_⟩)⟩)
    rw [clmp (by omega), clmp (by omega), clmp (by omega), clmp (by omega), hg.1, pk_un (by omega), hg.2]
    refine ih (wN x _) m ?_ (by omega) (by omega) (fun i f hf => hK i f hf)
    show shP (upd (upd (mN x) (16 + (k + 1)) (nI a.1)) (1116 + (k + 1)) (nI a.2)) w k
    refine ⟨⟨fun j hj => ?_, ?_, ?_, ?_⟩, ⟨?_, ?_⟩, fun j b hjb => ?_, fun j b hjb hj => ?_, fun j b hjb hj => ?_⟩
    · rw [pk_un (by omega), pk_un (by omega)]; exact s1 j hj
    · rw [pk_un (by omega), pk_un (by omega)]; exact s2.1
    · rw [pk_un (by omega), pk_un (by omega)]; exact s2.2.1
    · rw [pk_un (by omega), pk_un (by omega)]; exact s2.2.2
    · rw [pk_un (by omega), pk_un (by omega)]; exact n1
    · rw [pk_un (by omega), pk_un (by omega)]; exact n2
    · rw [pk_un (by omega), pk_un (by omega), pk_un (by omega), pk_un (by omega)]; exact cA j b hjb
    · have := c1 j b hjb (by omega)
      rw [pk_un (by omega), pk_un (by omega), pk_un (by omega), pk_un (by omega)]; exact this
    · have hlt := (List.getElem?_eq_some_iff.mp hjb).1
      simp only [List.length_reverse] at hlt
      by_cases e : j = k
      · subst e
        rw [hka] at hjb
        injection hjb with e2
        subst e2
        rw [pk_un (by omega), show 17 + j = 16 + (j + 1) by omega, pk_us, show 1117 + j = 1116 + (j + 1) by omega, pk_us]
        exact ⟨rfl, rfl⟩
      · have := c2 j b hjb (by omega)
        rw [pk_un (by omega), pk_un (by omega), pk_un (by omega), pk_un (by omega)]; exact this
/-- a layer is put on top of the pipe -/
theorem topM_ok {x : Mod} {w : PW} {v d : Nat} {Q : Mod → Prop} (h : repN (mN x) w) (hf : fit (gP w)) (hne : gP w ≠ []) (hl : (gP w).length < 1099) (hla : (gA w).length ≤ 1100) (hd : d ≤ 2500)
    (hk : ∀ f, repN f (gS w, gG w, gB w, gM w, ent (gP w) (v, d), gA w) → Q (wN x f)) : qX3_putOnTop x (nI v) (nI d) Q := by
  obtain ⟨⟨s1, s2⟩, ⟨n1, n2⟩, cP, cA⟩ := id h
  obtain ⟨r, a, hra⟩ := snoc_of hne
  have hrev : (gP w).reverse = a :: r.reverse := by rw [hra]; simp
  have hlen : (gP w).length = r.length + 1 := by rw [hra]; simp
  have hg := cP 0 a (by rw [hrev]; rfl)
  have ha := hf a (by rw [hra]; simp)
  unfold qX3_putOnTop
  rw [show (0 : Int32) = nI 0 from rfl]
  refine da0 ⟨vpn (by decide) (by decide), ?_⟩
  rw [clmp (by decide), show 1116 + 0 = 16 + 1100 + 0 from rfl, hg.2]
  refine ⟨fun c l hl1 => ?_, fun c => ?_⟩
  · have e2 : ¬ a.2 = d := fun z => c (by rw [z])
    rw [tN11, n1] at hl1
    subst hl1
    refine ⟨(gP w).length + 1, shiftP hl hla _ x _ ⟨⟨s1, s2⟩, ⟨n1, n2⟩, cA, fun j b hjb _ => ?_, fun j b hjb hj => ?_⟩ (Nat.le_refl _) (by omega) (fun i f hf1 => ?_)⟩
    · have := cP j b hjb
      rwa [show 16 + 1100 + j = 1116 + j by omega] at this
    · have hlt := (List.getElem?_eq_some_iff.mp hjb).1
      simp only [List.length_reverse] at hlt; omega
    · obtain ⟨⟨t1, t2⟩, ⟨m1, m2⟩, dA, -, c2⟩ := hf1
      refine va0 ⟨vpn (by decide) (by decide), da0 ⟨vpn (by decide) (by decide), ?_⟩⟩
      rw [clmp (by decide), clmp (by decide), tN11]
      apply hk
      have eP : ent (gP w) (v, d) = gP w ++ [(v, d)] := by rw [hra, ent_snoc, if_neg e2]; simp
      refine ⟨⟨fun j hj => ?_, ?_, ?_, ?_⟩, ⟨?_, ?_⟩, ?_, fun j b hjb => ?_⟩
      · rw [pk_un (by omega), pk_un (by omega), pk_un (by omega)]; exact t1 j hj
      · rw [pk_un (by omega), pk_un (by omega), pk_un (by omega)]; exact t2.1
      · rw [pk_un (by omega), pk_un (by omega), pk_un (by omega)]; exact t2.2.1
      · rw [pk_un (by omega), pk_un (by omega), pk_un (by omega)]; exact t2.2.2
      · rw [pk_us, pk_un (by omega), pk_un (by omega)]
        show f 11 + 1 = nI (ent (gP w) (v, d)).length
        rw [m1, eP, nI_1]; simp
      · rw [pk_un (by omega), pk_un (by omega), pk_un (by omega)]; exact m2
      · show colR _ 16 (ent (gP w) (v, d)).reverse
        rw [eP]
        intro j b hjb
        rw [List.reverse_append] at hjb
        cases j with
        | zero =>
          simp at hjb
          subst hjb
          rw [pk_un (by omega), pk_un (by omega), pk_us, pk_un (by omega), pk_us]
          exact ⟨rfl, rfl⟩
        | succ j =>
          have hjb : (gP w).reverse[j]? = some b := by simpa using hjb
          have hlt := (List.getElem?_eq_some_iff.mp hjb).1
          simp only [List.length_reverse] at hlt
          have := c2 j b hjb (by omega)
          rw [pk_un (by omega), pk_un (by omega), pk_un (by omega), pk_un (by omega), pk_un (by omega), pk_un (by omega), show 16 + (j + 1) = 17 + j by omega, show 16 + 1100 + (j + 1) = 1117 + j by omega]
          exact this
      · have hjb : (gA w)[j]? = some b := hjb
        have hlt := (List.getElem?_eq_some_iff.mp hjb).1
        rw [pk_un (by omega), pk_un (by omega), pk_un (by omega), pk_un (by omega), pk_un (by omega), pk_un (by omega)]
        exact dA j b hjb
  · have e2 : a.2 = d := (nI_eq (by omega) (by omega)).mp c
    refine va0 ⟨vpn (by decide) (by decide), vpn (by decide) (by decide), ?_⟩
    rw [clmp (by decide), hg.1, nI_add]
    apply hk
    have eP : ent (gP w) (v, d) = r ++ [(a.1 + v, a.2)] := by rw [hra, ent_snoc, if_pos e2]
    refine ⟨⟨fun j hj => ?_, ?_, ?_, ?_⟩, ⟨?_, ?_⟩, ?_, fun j b hjb => ?_⟩
    · rw [pk_un (by omega)]; exact s1 j hj
    · rw [pk_un (by omega)]; exact s2.1
    · rw [pk_un (by omega)]; exact s2.2.1
    · rw [pk_un (by omega)]; exact s2.2.2
    · rw [pk_un (by omega), n1]
      show nI (gP w).length = nI (ent (gP w) (v, d)).length
      rw [eP, hlen]; simp
    · rw [pk_un (by omega)]; exact n2
    · show colR _ 16 (ent (gP w) (v, d)).reverse
      rw [eP]
      intro j b hjb
      rw [List.reverse_append] at hjb
      cases j with
      | zero =>
        simp at hjb
        subst hjb
        rw [pk_us, pk_un (by omega), hg.2]
        exact ⟨rfl, rfl⟩
      | succ j =>
        have hjb : (gP w).reverse[j + 1]? = some b := by rw [hrev]; simpa using hjb
        rw [pk_un (by omega), pk_un (by omega)]
        exact cP (j + 1) b hjb
    · have hjb : (gA w)[j]? = some b := hjb
      have hlt := (List.getElem?_eq_some_iff.mp hjb).1
      rw [pk_un (by omega), pk_un (by omega)]
      exact cA j b hjb
