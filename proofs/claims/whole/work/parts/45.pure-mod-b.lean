/-! the reference: pumping -/
theorem leave_L {x : Mod} {w : PW} {K : Int32 → Int32 → Prop} (h : repN (mN x) w) (hl : (gA w).length ≤ 1100) : ∀ (s : Ly) (i v m : Nat), (gA w).drop i = s → lsum s ≤ 1000000 → v < lsum s → s.length < m → (∀ g l a t, (gA w).drop g = a :: t → l < a.1 → drp v s = (a.1 - l, a.2) :: t → K (nI g) (nI l)) → qX3_leave_L4 x K m (nI i) (nI v) := by
  obtain ⟨-, -, -, cA⟩ := h
  intro s
  induction s with
  | nil => intro i v m hd hs hv; simp [lsum] at hv
  | cons a t ih =>
    intro i v m hd hs hv hm hk
    obtain ⟨m, rfl⟩ : ∃ k, m = k + 1 := ⟨m - 1, by omega⟩
    obtain ⟨h1, h2, h3⟩ := drop_cons hd
    rw [lsum] at hs hv
    simp only [List.length_cons] at hm
    unfold qX3_leave_L4
    refine va1 ⟨vpn (by omega) (by decide), ?_⟩
    rw [clmp (by omega), (cA i a h1).1]
    rw [drp] at hk
    refine ⟨fun c => ?_, fun c => ?_⟩
    · have c1 := (nI_ltI (by omega) (by omega)).mp c
      rw [if_neg (by omega)] at hk
      exact hk i v a t hd c1 rfl
    · have c1 : ¬ v < a.1 := fun z => c ((nI_ltI (by omega) (by omega)).mpr z)
      refine va1 ⟨vpn (by omega) (by decide), fun u hu => ?_⟩
      rw [clmp (by omega), (cA i a h1).1, subI (by omega)] at hu
      rw [hu, nI_1]
      rw [if_pos (by omega)] at hk
      exact ih (i + 1) (v - a.1) m h2 (by omega) (by omega) (by omega) hk
/-- what the annulus's shift keeps -/
def shA (f : Nat → Int32) (w : PW) (g k : Nat) (B : Ly) : Prop := setR f w ∧ (f 11 = nI (gP w).length ∧ f 12 = nI B.length) ∧ colR f 16 (gP w).reverse ∧ (∀ (j : Nat) (a : Nat × Nat), B[j]? = some a → j < k → f (2216 + j) = nI a.1 ∧ f (3316 + j) = nI a.2) ∧ (∀ (j : Nat) (a : Nat × Nat), B[j]? = some a → k ≤ j → f (2216 + g + j) = nI a.1 ∧ f (3316 + g + j) = nI a.2)
theorem shiftA {w : PW} {g : Nat} {B : Ly} {K : Int32 → Mod → Prop} (hl : (gP w).length ≤ 1100) (hg : 0 < g) (hB : g + B.length ≤ 1100) : ∀ (n k : Nat) (x : Mod) (m : Nat), k + n = B.length → shA (mN x) w g k B → n < m → (∀ i f, shA f w g B.length B → K i (wN x f)) → qX3_leave_L65 (nI g) K m (nI k) x := by
  intro n
  induction n with
  | zero =>
    intro k x m hk h hm hK
    obtain ⟨m, rfl⟩ : ∃ k, m = k + 1 := ⟨m - 1, by omega⟩
    have e : k = B.length := by omega
    subst e
    unfold qX3_leave_L65
    rw [tN12, h.2.1.2]
    exact ⟨fun _ => hK _ _ h, fun c => absurd (nI_le (Nat.le_refl _) (by omega)) c⟩
  | succ n ih =>
    intro k x m hk h hm hK
    obtain ⟨m, rfl⟩ : ∃ k, m = k + 1 := ⟨m - 1, by omega⟩
    obtain ⟨⟨s1, s2⟩, ⟨n1, n2⟩, cP, c1, c2⟩ := h
    obtain ⟨a, hka⟩ : ∃ a, B[k]? = some a := ⟨_, List.getElem?_eq_getElem (by omega)⟩
    have hga := c2 k a hka (by omega)
    unfold qX3_leave_L65
    rw [tN12, n2]
    refine ⟨fun c => absurd c (nI_ge (by omega) (by omega)), fun _ => ⟨fun c => absurd c (nI_nle hg (by omega)), fun _ => ?_⟩⟩
    rw [nI_add, nI_1]
    refine va1 (va1 ⟨vpn (by omega) (by decide), vpn (by omega) (by decide), da1 (da1 ⟨vpn (by omega) (by decide), vpn (by omega) (by decide), ?_⟩)⟩)
    rw [clmp (by omega), clmp (by omega), clmp (by omega), clmp (by omega), show 2216 + (k + g) = 2216 + g + k by omega, hga.1, pk_un (by omega), show 3316 + (k + g) = 3316 + g + k by omega, hga.2]
    refine ih (k + 1) (wN x _) m (by omega) ?_ (by omega) (fun i f hf => hK i f hf)
    show shA (upd (upd (mN x) (2216 + k) (nI a.1)) (3316 + k) (nI a.2)) w g (k + 1) B
    refine ⟨⟨fun j hj => ?_, ?_, ?_, ?_⟩, ⟨?_, ?_⟩, fun j b hjb => ?_, fun j b hjb hj => ?_, fun j b hjb hj => ?_⟩
    · rw [pk_un (by omega), pk_un (by omega)]; exact s1 j hj
    · rw [pk_un (by omega), pk_un (by omega)]; exact s2.1
    · rw [pk_un (by omega), pk_un (by omega)]; exact s2.2.1
    · rw [pk_un (by omega), pk_un (by omega)]; exact s2.2.2
    · rw [pk_un (by omega), pk_un (by omega)]; exact n1
    · rw [pk_un (by omega), pk_un (by omega)]; exact n2
    · have hlt := (List.getElem?_eq_some_iff.mp hjb).1
      simp only [List.length_reverse] at hlt
      rw [pk_un (by omega), pk_un (by omega), pk_un (by omega), pk_un (by omega)]; exact cP j b hjb
    · by_cases e : j = k
      · subst e
        rw [hka] at hjb
        injection hjb with e2
        subst e2
        rw [pk_un (by omega), pk_us, pk_us]
        exact ⟨rfl, rfl⟩
      · rw [pk_un (by omega), pk_un (by omega), pk_un (by omega), pk_un (by omega)]; exact c1 j b hjb (by omega)
    · have hlt := (List.getElem?_eq_some_iff.mp hjb).1
      rw [pk_un (by omega), pk_un (by omega), pk_un (by omega), pk_un (by omega)]; exact c2 j b hjb (by omega)
theorem leave_ok {x : Mod} {w : PW} {v : Nat} {Q : Mod → Prop} (h : repN (mN x) w) (hs : lsum (gA w) ≤ 1000000) (hv : v < lsum (gA w)) (hl : (gA w).length ≤ 1100) (hlp : (gP w).length ≤ 1100)
    (hk : ∀ f, repN f (gS w, gG w, gB w, gM w, gP w, drp v (gA w)) → Q (wN x f)) : qX3_leave x (nI v) Q := by
  refine ⟨(gA w).length + 1, ?_⟩
  rw [show (0 : Int32) = nI 0 from rfl]
  refine leave_L h hl (gA w) 0 v _ rfl hs hv (by omega) (fun g l a t hd hla he => ?_)
  obtain ⟨⟨s1, s2⟩, ⟨n1, n2⟩, cP, cA⟩ := h
  obtain ⟨h1, h2, h3⟩ := drop_cons hd
  have ha := cA g a h1
  have hlen : (a :: t).length = (gA w).length - g := by rw [← hd, List.length_drop]
  refine va1 ⟨vpn (by omega) (by decide), vpn (by omega) (by decide), ?_⟩
  rw [clmp (by omega), ha.1, subI (by omega), tN12, pk_un (by omega), n2, subI (by omega)]
  have hB : (drp v (gA w)).length = (gA w).length - g := by rw [he]; exact hlen
  have key : shA (upd (upd (mN x) (2216 + g) (nI (a.1 - l))) 12 (nI ((gA w).length - g))) w g 0 (drp v (gA w)) := by
    refine ⟨⟨fun j hj => ?_, ?_, ?_, ?_⟩, ⟨?_, ?_⟩, fun j b hjb => ?_, fun j b hjb hj => absurd hj (by omega), fun j b hjb hj => ?_⟩
    · rw [pk_un (by omega), pk_un (by omega)]; exact s1 j hj
    · rw [pk_un (by omega), pk_un (by omega)]; exact s2.1
    · rw [pk_un (by omega), pk_un (by omega)]; exact s2.2.1
    · rw [pk_un (by omega), pk_un (by omega)]; exact s2.2.2
    · rw [pk_un (by omega), pk_un (by omega)]; exact n1
    · rw [pk_us, hB]
    · have hlt := (List.getElem?_eq_some_iff.mp hjb).1
      simp only [List.length_reverse] at hlt
      rw [pk_un (by omega), pk_un (by omega), pk_un (by omega), pk_un (by omega)]; exact cP j b hjb
    · rw [he] at hjb
      cases j with
      | zero =>
        simp at hjb
        subst hjb
        rw [pk_un (by omega), Nat.add_zero, pk_us, pk_un (by omega), pk_un (by omega)]
        exact ⟨rfl, by have := ha.2; rwa [show 2216 + 1100 + g = 3316 + g + 0 by omega] at this⟩
      | succ j =>
        have hjb : t[j]? = some b := by simpa using hjb
        have hjb2 : (gA w)[g + 1 + j]? = some b := by rw [← h2, List.getElem?_drop] at hjb; exact hjb
        have := cA _ b hjb2
        rw [pk_un (by omega), pk_un (by omega), pk_un (by omega), pk_un (by omega), show 2216 + g + (j + 1) = 2216 + (g + 1 + j) by omega, show 3316 + g + (j + 1) = 2216 + 1100 + (g + 1 + j) by omega]
        exact this
  by_cases g0 : g = 0
  · subst g0
    refine ⟨1, ?_⟩
    have fin : repN (upd (upd (mN x) (2216 + 0) (nI (a.1 - l))) 12 (nI ((gA w).length - 0))) (gS w, gG w, gB w, gM w, gP w, drp v (gA w)) := by
      obtain ⟨k1, k2, k3, -, k5⟩ := key
      exact ⟨k1, k2, k3, fun j b hjb => by have := k5 j b hjb (Nat.zero_le _); rwa [show 2216 + 0 + j = 2216 + j by omega, show 3316 + 0 + j = 2216 + 1100 + j by omega] at this⟩
    unfold qX3_leave_L65
    exact ⟨fun _ => hk _ fin, fun _ => ⟨fun _ => hk _ fin, fun c => absurd ((le0 (by decide)).mpr rfl) c⟩⟩
  · refine ⟨(drp v (gA w)).length + 1, shiftA hlp (by omega) (by omega) (drp v (gA w)).length 0 (wN x _) _ (by omega) key (by omega) (fun i f hf => ?_)⟩
    obtain ⟨k1, k2, k3, k4, -⟩ := hf
    exact hk f ⟨k1, k2, k3, fun j b hjb => by have := k4 j b hjb (List.getElem?_eq_some_iff.mp hjb).1; rwa [show 3316 + j = 2216 + 1100 + j by omega] at this⟩
theorem passA {f : Nat → Int32} {S : Nat → Nat} {ga br gr : Int32} {a : Nat × Nat} {t A : Ly} {z : Nat} (h : repN f (S, ga, br, gr, a :: t, A)) (hl : t.length < 1099) (hla : A.length ≤ 1100) : repN (upd (upd f (16 + t.length) (nI z)) 11 (f 11)) (S, ga, br, gr, (z, a.2) :: t, A) := by
  obtain ⟨⟨s1, s2⟩, ⟨n1, n2⟩, cP, cA⟩ := h
  have n1 : f 11 = nI (a :: t).length := n1
  refine ⟨⟨fun j hj => ?_, ?_, ?_, ?_⟩, ⟨?_, ?_⟩, fun j b hjb => ?_, fun j b hjb => ?_⟩
  · rw [pk_un (by omega), pk_un (by omega)]; exact s1 j hj
  · rw [pk_un (by omega), pk_un (by omega)]; exact s2.1
  · rw [pk_un (by omega), pk_un (by omega)]; exact s2.2.1
  · rw [pk_un (by omega), pk_un (by omega)]; exact s2.2.2
  · rw [pk_us]; exact n1
  · rw [pk_un (by omega), pk_un (by omega)]; exact n2
  · have hjb : (t.reverse ++ [(z, a.2)])[j]? = some b := by rw [← List.reverse_cons]; exact hjb
    have cP : colR f 16 (t.reverse ++ [a]) := by rw [← List.reverse_cons]; exact cP
    rw [List.getElem?_append] at hjb
    split at hjb
    · rename_i hlt
      simp only [List.length_reverse] at hlt
      rw [pk_un (by omega), pk_un (by omega), pk_un (by omega), pk_un (by omega)]
      exact cP j b (by rw [List.getElem?_append_left (by simpa using hlt)]; exact hjb)
    · rename_i hge
      simp only [List.length_reverse] at hge hjb
      have hk1 : j - t.length = 0 := by
        have := (List.getElem?_eq_some_iff.mp hjb).1; simp at this; omega
      rw [hk1] at hjb
      simp at hjb
      subst hjb
      have := (cP t.length a (by rw [List.getElem?_append_right (by simp)]; simp)).2
      rw [show j = t.length by omega, pk_un (by omega), pk_us, pk_un (by omega), pk_un (by omega), this]
      exact ⟨rfl, rfl⟩
  · have hjb : A[j]? = some b := hjb
    have hlt := (List.getElem?_eq_some_iff.mp hjb).1
    rw [pk_un (by omega), pk_un (by omega), pk_un (by omega), pk_un (by omega)]
    exact cA j b hjb
theorem passB {f : Nat → Int32} {S : Nat → Nat} {ga br gr z : Int32} {a : Nat × Nat} {t A : Ly} (h : repN f (S, ga, br, gr, a :: t, A)) (hl : t.length < 1099) (hla : A.length ≤ 1100) : repN (upd (upd f (16 + t.length) z) 11 (nI t.length)) (S, ga, br, gr, t, A) := by
  obtain ⟨⟨s1, s2⟩, ⟨n1, n2⟩, cP, cA⟩ := h
  refine ⟨⟨fun j hj => ?_, ?_, ?_, ?_⟩, ⟨?_, ?_⟩, fun j b hjb => ?_, fun j b hjb => ?_⟩
  · rw [pk_un (by omega), pk_un (by omega)]; exact s1 j hj
  · rw [pk_un (by omega), pk_un (by omega)]; exact s2.1
  · rw [pk_un (by omega), pk_un (by omega)]; exact s2.2.1
  · rw [pk_un (by omega), pk_un (by omega)]; exact s2.2.2
  · rw [pk_us]
  · rw [pk_un (by omega), pk_un (by omega)]; exact n2
  · have hjb : t.reverse[j]? = some b := hjb
    have cP : colR f 16 (t.reverse ++ [a]) := by rw [← List.reverse_cons]; exact cP
    have hlt := (List.getElem?_eq_some_iff.mp hjb).1
    simp only [List.length_reverse] at hlt
    rw [pk_un (by omega), pk_un (by omega), pk_un (by omega), pk_un (by omega)]
    exact cP j b (by rw [List.getElem?_append_left (by simpa using hlt)]; exact hjb)
  · have hjb : A[j]? = some b := hjb
    have hlt := (List.getElem?_eq_some_iff.mp hjb).1
    rw [pk_un (by omega), pk_un (by omega), pk_un (by omega), pk_un (by omega)]
    exact cA j b hjb
theorem pass_L0 {x : Mod} {w : PW} {K : Int32 → Mod → Prop} (m : Nat) (h : repN (mN x) w) (hk : ∀ i f, repN f w → K i (wN x f)) : qX3_passOver_L2 K (m + 1) (nI 0) x := by
  unfold qX3_passOver_L2
  exact ⟨fun _ => hk _ _ h, fun c => absurd ((le0 (by decide)).mpr rfl) c⟩
theorem sub00 (x : Int32) : x - 0 = x := by
  apply Int32.toBitVec_inj.1
  show x.toBitVec - 0#32 = x.toBitVec
  simp
theorem pass_L {S : Nat → Nat} {ga br gr : Int32} {K : Int32 → Mod → Prop} : ∀ (P A : Ly) (v : Nat) (x : Mod) (m : Nat), repN (mN x) (S, ga, br, gr, P, A) → fit P → fit A → A ≠ [] → lsum P ≤ 1000000 → v ≤ lsum P → P.length + A.length < 1099 → P.length < m → (∀ i f, repN f (S, ga, br, gr, drp v P, catM A (tak v P)) → K i (wN x f)) → qX3_passOver_L2 K m (nI v) x := by
  intro P
  induction P with
  | nil =>
    intro A v x m h fP fA hA hs hv hl hm hk
    simp only [lsum, Nat.le_zero] at hv
    subst hv
    obtain ⟨m, rfl⟩ : ∃ k, m = k + 1 := ⟨m - 1, by omega⟩
    exact pass_L0 m h hk
  | cons a t ih =>
    intro A v x m h fP fA hA hs hv hl hm hk
    obtain ⟨m, rfl⟩ : ∃ k, m = k + 1 := ⟨m - 1, by omega⟩
    by_cases v0 : v = 0
    · subst v0
      rw [drp_0 _ fP, tak_0 _ fP] at hk
      exact pass_L0 m h hk
    · obtain ⟨ha, hft⟩ := fit_cons.mp fP
      rw [lsum] at hs hv
      simp only [List.length_cons] at hl hm
      obtain ⟨-, ⟨n1, -⟩, cP, -⟩ := id h
      have n1 : mN x 11 = nI (t.length + 1) := n1
      have cP : colR (mN x) 16 (t.reverse ++ [a]) := by rw [← List.reverse_cons]; exact cP
      have hg := cP t.length a (by rw [List.getElem?_append_right (by simp)]; simp)
      unfold qX3_passOver_L2
      refine ⟨fun c => absurd c (nI_nle (by omega) (by omega)), fun _ u hu => ?_⟩
      rw [tN11, n1, nI_pred] at hu
      subst hu
      refine va0 ⟨vpn (by omega) (by decide), ?_⟩
      rw [clmp (by omega), hg.1]
      rw [drp, tak] at hk
      refine ⟨fun c => ?_, fun c => ?_⟩
      · have c1 := (nI_leI (by omega) (by omega)).mp c
        refine da0 ⟨vpn (by omega) (by decide), ?_⟩
        rw [clmp (by omega), show 1116 + t.length = 16 + 1100 + t.length by omega, hg.2]
        refine entM_ok (w := (S, ga, br, gr, a :: t, A)) h fA hA (by show A.length < 1100; omega) (by show (a :: t).length ≤ 1100; simp; omega) ha.2.2 (fun f hf => ?_)
        have hlA : (ent A (v, a.2)).length ≤ 1100 := by have := (len_ent_le (v, a.2) A).1; omega
        obtain ⟨-, ⟨m1, -⟩, dP, -⟩ := id hf
        have m1 : f 11 = nI (t.length + 1) := m1
        have dP : colR f 16 (t.reverse ++ [a]) := by rw [← List.reverse_cons]; exact dP
        have hg2 := dP t.length a (by rw [List.getElem?_append_right (by simp)]; simp)
        refine va0 ⟨vpn (by omega) (by decide), vpn (by omega) (by decide), va0 ⟨vpn (by omega) (by decide), ?_⟩⟩
        dsimp only [wN, mN, mA, mP, mS, mE, mH]
        rw [clmp (by omega), hg2.1, subI c1, pk_us, tN11, pk_un (by omega)]
        refine ⟨fun c2 y hy => ?_, fun c2 y hy => ?_⟩
        · rw [subI (Nat.le_refl _), Nat.sub_self] at hy
          rw [hy, sub00]
          have c3 : ¬ a.1 ≤ v := fun z => c2 (by rw [show a.1 - v = 0 by omega]; rfl)
          rw [if_neg c3, if_neg c3, if_neg v0] at hk
          obtain ⟨m, rfl⟩ : ∃ k, m = k + 1 := ⟨m - 1, by omega⟩
          exact pass_L0 (x := wN x _) m (passA hf (by omega) hlA) (fun i f' hf' => hk i f' hf')
        · rw [subI (Nat.le_refl _), Nat.sub_self] at hy
          rw [hy, m1, nI_pred]
          have c3 : a.1 ≤ v := by have := (eq0 (by omega)).mp c2; omega
          rw [if_pos c3, if_pos c3, show v - a.1 = 0 by omega, drp_0 _ hft, tak_0 _ hft] at hk
          have hk : ∀ i f, repN f (S, ga, br, gr, t, ent A (v, a.2)) → K i (wN x f) := by
            rw [show v = a.1 by omega]; exact hk
          obtain ⟨m, rfl⟩ : ∃ k, m = k + 1 := ⟨m - 1, by omega⟩
          exact pass_L0 (x := wN x _) m (passB hf (by omega) hlA) (fun i f' hf' => hk i f' hf')
      · have c1 : ¬ v ≤ a.1 := fun z => c ((nI_leI (by omega) (by omega)).mpr z)
        refine va0 ⟨vpn (by omega) (by decide), fun u hu => ?_⟩
        rw [clmp (by omega), hg.1] at hu
        subst hu
        refine da0 ⟨vpn (by omega) (by decide), ?_⟩
        rw [clmp (by omega), show 1116 + t.length = 16 + 1100 + t.length by omega, hg.2]
        refine entM_ok (w := (S, ga, br, gr, a :: t, A)) h fA hA (by show A.length < 1100; omega) (by show (a :: t).length ≤ 1100; simp; omega) ha.2.2 (fun f hf => ?_)
        have hlA := (len_ent_le (a.1, a.2) A).1
        obtain ⟨-, ⟨m1, -⟩, dP, -⟩ := id hf
        have m1 : f 11 = nI (t.length + 1) := m1
        have dP : colR f 16 (t.reverse ++ [a]) := by rw [← List.reverse_cons]; exact dP
        have hg2 := dP t.length a (by rw [List.getElem?_append_right (by simp)]; simp)
        refine va0 ⟨vpn (by omega) (by decide), vpn (by omega) (by decide), va0 ⟨vpn (by omega) (by decide), ?_⟩⟩
        dsimp only [wN, mN, mA, mP, mS, mE, mH]
        rw [clmp (by omega), hg2.1, subI (Nat.le_refl _), Nat.sub_self, pk_us, tN11, pk_un (by omega)]
        refine ⟨fun c2 => absurd rfl c2, fun _ y hy => ?_⟩
        rw [subI (by omega)] at hy
        rw [hy, m1, nI_pred]
        rw [if_pos (by omega), if_pos (by omega)] at hk
        exact ih (ent A (a.1, a.2)) (v - a.1) (wN x _) m (passB hf (by omega) (by omega)) hft (fit_ent fA ha) (ent_ne _ _) (by omega) (by omega) (by omega) (by omega) (fun i f' hf' => hk i f' hf')
theorem pumpM_ok {x : Mod} {w : PW} {v d : Nat} {Q : Mod → Prop} (h : repN (mN x) w) (ho : okW w) (hv : 0 < v) (hp : v ≤ gS w 0 * gS w 1) (ha : v ≤ gS w 0 * gS w 2) (hd : 1 ≤ d ∧ d ≤ 2500) (hl : (gP w).length + (gA w).length < 1090) (hk : ∀ f, repN f (pmp v d w) → Q (wN x f)) : qX3_pumpMud x (nI v) (nI d) Q := by
  have hvl := vol_lt ho.1
  have hne := ho.ne
  obtain ⟨h0, ⟨f1, n1, s1⟩, ⟨f2, n2, s2⟩⟩ := ho
  refine topM_ok h f1 hne.1 (by omega) (by omega) hd.2 (fun g hg => ?_)
  have l1 := (len_ent_le (v, d) (gP w)).1
  have e1 : lsum (ent (gP w) (v, d)) = lsum (gP w) + v := lsum_ent _ _
  have fe : fit (ent (gP w) (v, d)) := fit_ent f1 ⟨hv, hd.1, hd.2⟩
  refine ⟨(ent (gP w) (v, d)).length + 1, pass_L (ent (gP w) (v, d)) (gA w) v (wN x g) _ hg fe f2 hne.2 (by omega) (by omega) (by omega) (by omega) (fun i f hf => ?_)⟩
  rw [drp_ent (v, d) hv _ _ (by omega), tak_ent (v, d) hv _ _ f1 (by omega)] at hf
  have l2 := len_catM (tak v (gP w)) (gA w)
  have l3 := len_tak (gP w) v
  have l4 := (len_ent_le (v, d) (drp v (gP w))).1
  have l5 := len_drp (gP w) v
  have e2 : lsum (catM (gA w) (tak v (gP w))) = lsum (gA w) + v := by rw [lsum_catM, lsum_tak _ _ (by omega)]
  refine leave_ok (x := wN x f) hf (by show lsum (catM (gA w) (tak v (gP w))) ≤ _; omega) (by show v < lsum (catM (gA w) (tak v (gP w))); omega) (by show (catM (gA w) (tak v (gP w))).length ≤ _; omega) (by show (ent (drp v (gP w)) (v, d)).length ≤ _; omega) (fun f' hf' => hk f' ?_)
  have e3 : drp v (catM (gA w) (tak v (gP w))) = pmpA v (gP w) (gA w) := drp_catM _ _ _ (fit_tak _ _ f1) (by omega)
  have hf' : repN f' (gS w, gG w, gB w, gM w, ent (drp v (gP w)) (v, d), drp v (catM (gA w) (tak v (gP w)))) := hf'
  rw [e3] at hf'
  exact hf'
