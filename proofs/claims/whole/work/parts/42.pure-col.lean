/-! a column of the class, tied to its layers -/
def repC (f : Int32) (x : Col) (q : Ly) : Prop := zF x = f ∧ ∃ o : Nat, o < 520 ∧ zO x = nI o ∧ zN x = nI q.length ∧ q.length ≤ 520 ∧ zL x = lN (lload q) ∧ ∀ (k : Nat) (a : Nat × Nat), q[k]? = some a → zV x ((o + k) % 520) = nI a.1 ∧ zD x ((o + k) % 520) = nI a.2
theorem age_ok {x : Col} {o k : Nat} {Q : Int32 → Prop} (ho : o < 520) (hO : zO x = nI o) (hk : k < 1000) (hq : Q (nI ((o + k) % 520))) : qX0_placeOfAge x (nI k) Q := by
  unfold qX0_placeOfAge
  rw [hO, nI_add]
  exact fmod_ok (by omega) hq
theorem clear_ok {f : Int32} {x : Col} {Q : Col → Prop} (hF : zF x = f) (hk : ∀ x', repC f x' [] → Q x') : qX0_clear x Q :=
  hk _ ⟨hF, 0, by decide, rfl, rfl, by decide, rfl, fun k a h => by simp at h⟩
theorem enter_ok {f : Int32} {x : Col} {q : Ly} {v d : Nat} {Q : Col → Prop} (h : repC f x q) (hf : fit q) (hl : q.length < 520) (hv : v < 2 ^ 31) (hd : d ≤ 2500)
    (hk : ∀ x', repC f x' (ent q (v, d)) → Q x') : qX0_enter x (nI v) (nI d) Q := by
  obtain ⟨hF, o, ho, hO, hN, hle, hL, hA⟩ := h
  -- the new layer, of its own
  have new : ent q (v, d) = q ++ [(v, d)] → qX0_placeOfAge x (zN x) (fun r7 => (vp_in r7 520 ∧ (vp_in r7 520 ∧ (qX0_placeOfAge (zF x, upd (zV x) (Int32.toNatClampNeg r7) 0, upd (zD x) (Int32.toNatClampNeg r7) (nI d), zO x, (zN x) + 1, zL x) (((zN x) + 1) - 1) (fun r10 => (vp_in r10 520 ∧ (vp_in r10 520 ∧ (vp_in r10 520 ∧ Q (zF x, upd (upd (zV x) (Int32.toNatClampNeg r7) 0) (Int32.toNatClampNeg r10) (((upd (zV x) (Int32.toNatClampNeg r7) 0) (Int32.toNatClampNeg r10)) + (nI v)), upd (zD x) (Int32.toNatClampNeg r7) (nI d), zO x, (zN x) + 1, (zL x) + ((Int32.toInt64 (nI v)) * (Int32.toInt64 ((upd (zD x) (Int32.toNatClampNeg r7) (nI d)) (Int32.toNatClampNeg r10))))))))))))) := by
    intro e
    have hp : (o + q.length) % 520 < 520 := Nat.mod_lt _ (by decide)
    have hin : vp_in (nI ((o + q.length) % 520)) 520 := vpn hp (by decide)
    rw [hN]
    refine age_ok ho hO (by omega) ⟨hin, hin, ?_⟩
    rw [show (nI q.length + 1 - 1) = nI q.length by rw [nI_1, nI_pred]]
    refine age_ok ho hO (by omega) ⟨hin, hin, hin, ?_⟩
    rw [clmp (by omega)]
    apply hk
    rw [e]
    refine ⟨hF, o, ho, hO, ?_, ?_, ?_, ?_⟩
    · show nI q.length + 1 = _
      rw [nI_1]; simp
    · simp; omega
    · show zL x + Int32.toInt64 (nI v) * Int32.toInt64 (upd (zD x) _ (nI d) _) = _
      rw [pk_us, nI_l hv, nI_l (by omega), hL, lN_mul, lN_add, lload_app]
      simp [lload]
    · intro k a hka
      rw [List.getElem?_append] at hka
      split at hka
      · rename_i hlt
        have hne : (o + k) % 520 ≠ (o + q.length) % 520 := by omega
        show upd (upd (zV x) _ 0) _ _ _ = nI a.1 ∧ upd (zD x) _ _ _ = nI a.2
        rw [pk_un hne, pk_un hne, pk_un hne]
        exact hA k a hka
      · rename_i hge
        have hk1 : k - q.length = 0 := by
          have := (List.getElem?_eq_some_iff.mp hka).1; simp at this; omega
        rw [hk1] at hka
        simp at hka
        subst hka
        have hk2 : k = q.length := by omega
        subst hk2
        show upd (upd (zV x) _ 0) _ _ _ = nI v ∧ upd (zD x) _ _ _ = nI d
        rw [pk_us, pk_us, pk_us]
        refine ⟨?_, rfl⟩
        rw [show (0 : Int32) = nI 0 from rfl, nI_add, Nat.zero_add]
  unfold qX0_enter qX0_joinsNewest
  rw [hN]
  refine ⟨fun c => ?_, fun _ => ⟨fun c => ?_, fun c => ?_⟩⟩
  · exact absurd c (nI_ge hl (by decide))
  · rw [← hN]
    have e : q = [] := List.length_eq_zero_iff.mp ((le0 (by omega)).mp c)
    exact ⟨fun z => absurd rfl z, fun _ => new (by subst e; rfl)⟩
  · have hne : q ≠ [] := fun e => c (by subst e; exact (le0 (by decide)).mpr rfl)
    obtain ⟨r, a, rfl⟩ := snoc_of hne
    have hlen : (r ++ [a]).length = r.length + 1 := by simp
    rw [hlen, nI_pred]
    have hg := hA r.length a (by simp)
    have hp : (o + r.length) % 520 < 520 := Nat.mod_lt _ (by decide)
    have hin : vp_in (nI ((o + r.length) % 520)) 520 := vpn hp (by decide)
    have ha := hf a (by simp)
    refine age_ok ho hO (by omega) ⟨hin, ?_⟩
    rw [clmp (by omega), hg.2]
    refine ⟨fun c2 => ⟨fun z => absurd rfl z, fun _ => ?_⟩, fun c2 => ⟨fun _ => ?_, fun z => absurd z (by decide)⟩⟩
    · have e2 : ¬ a.2 = d := fun z => c2 (by rw [z])
      rw [← hlen, ← hN]
      exact new (by rw [ent_snoc, if_neg e2]; simp)
    · have e2 : a.2 = d := (nI_eq (by omega) (by omega)).mp c2
      refine age_ok ho hO (by omega) ⟨hin, hin, hin, ?_⟩
      rw [clmp (by omega), hg.1, hg.2]
      apply hk
      rw [ent_snoc, if_pos e2]
      refine ⟨hF, o, ho, hO, ?_, ?_, ?_, ?_⟩
      · show nI (r.length + 1) = _
        simp
      · simp at hle ⊢; omega
      · show zL x + Int32.toInt64 (nI v) * Int32.toInt64 (nI a.2) = _
        rw [nI_l hv, nI_l (by omega), hL, lN_mul, lN_add]
        congr 1
        simp only [lload_app, lload, Nat.add_zero, Nat.add_mul]
        omega
      · intro k b hkb
        rw [List.getElem?_append] at hkb
        show upd (zV x) _ _ _ = nI b.1 ∧ zD x _ = nI b.2
        split at hkb
        · rename_i hlt
          have hne2 : (o + k) % 520 ≠ (o + r.length) % 520 := by simp at hle; omega
          rw [pk_un hne2]
          exact hA k b (by rw [List.getElem?_append_left hlt]; exact hkb)
        · rename_i hge
          have hk1 : k - r.length = 0 := by
            have := (List.getElem?_eq_some_iff.mp hkb).1; simp at this; omega
          rw [hk1] at hkb
          simp at hkb
          subst hkb
          have hk2 : k = r.length := by omega
          subst hk2
          rw [pk_us, hg.2, nI_add]
          exact ⟨rfl, rfl⟩
theorem oldest_ok {f : Int32} {x : Col} {a : Nat × Nat} {t : Ly} {m : Nat} {Q : Int32 → Col → Prop} (h : repC f x (a :: t)) (hf : fit (a :: t)) (hs : lsum (a :: t) ≤ 1000000) (hm : m ≤ 1000000)
    (hk : ∀ x', repC f x' (if a.1 ≤ m then t else (a.1 - m, a.2) :: t) → Q (nI (if a.1 ≤ m then a.1 else m)) x') : qX0_releaseOldest x (nI m) Q := by
  obtain ⟨hF, o, ho, hO, hN, hle, hL, hA⟩ := h
  have ha := (fit_cons.mp hf).1
  have hs1 : a.1 ≤ 1000000 := by rw [lsum] at hs; omega
  have hg := hA 0 a rfl
  rw [Nat.add_zero, Nat.mod_eq_of_lt ho] at hg
  have hin : vp_in (nI o) 520 := vpn ho (by decide)
  unfold qX0_releaseOldest
  rw [show (0 : Int32) = nI 0 from rfl]
  refine age_ok ho hO (by decide) ?_
  rw [Nat.add_zero, Nat.mod_eq_of_lt ho, clmp (by omega), hg.1, hg.2]
  refine ⟨hin, fun v hv => ⟨hin, hin, hin, hin, ?_⟩⟩
  have ev : v = nI (if a.1 ≤ m then a.1 else m) := by
    rw [hv]
    by_cases c : a.1 < m
    · rw [if_pos ((nI_ltI (by omega) (by omega)).mpr c), if_pos (by omega)]
    · rw [if_neg (fun z => c ((nI_ltI (by omega) (by omega)).mp z))]
      split
      · rw [show m = a.1 by omega]
      · rfl
  rw [pk_us]
  generalize hr : (if a.1 ≤ m then a.1 else m) = r at ev hk
  have hra : r ≤ a.1 := by subst hr; split <;> omega
  subst ev
  rw [subI hra, nI_l (by omega), nI_l (by omega), hL, lN_mul]
  have hld : lload (a :: t) = a.1 * a.2 + lload t := rfl
  have hmul : r * a.2 ≤ a.1 * a.2 := Nat.mul_le_mul_right _ hra
  rw [lN_sub (by omega)]
  refine ⟨fun c => ?_, fun c => ?_⟩
  · have c1 : ¬ a.1 ≤ m := fun z => c (by rw [show a.1 - r = 0 by rw [← hr, if_pos z, Nat.sub_self]])
    apply hk
    rw [if_neg c1]
    have er : r = m := by rw [← hr, if_neg c1]
    subst er
    refine ⟨hF, o, ho, hO, hN, hle, ?_, ?_⟩
    · show lN _ = lN _
      congr 1
      simp only [lload, Nat.sub_mul]
      omega
    · intro k b hkb
      show upd (zV x) _ _ _ = nI b.1 ∧ zD x _ = nI b.2
      cases k with
      | zero =>
        simp at hkb
        subst hkb
        rw [Nat.add_zero, Nat.mod_eq_of_lt ho, pk_us, hg.2]
        exact ⟨rfl, rfl⟩
      | succ k =>
        have hlt := (List.getElem?_eq_some_iff.mp hkb).1
        simp only [List.length_cons] at hlt hle
        rw [pk_un (by omega)]
        exact hA (k + 1) b hkb
  · have c1 : a.1 ≤ m := by
      apply Classical.byContradiction
      intro z
      have er : r = m := by rw [← hr, if_neg z]
      have := (eq0 (by omega)).mp c
      omega
    have er : r = a.1 := by rw [← hr, if_pos c1]
    subst er
    rw [show (1 : Int32) = nI 1 from rfl]
    refine age_ok (x := (zF x, _, zD x, zO x, zN x, _)) ho hO (by decide) ?_
    apply hk
    rw [if_pos c1]
    refine ⟨hF, (o + 1) % 520, Nat.mod_lt _ (by decide), rfl, ?_, by simp only [List.length_cons] at hle; omega, ?_, ?_⟩
    · show zN x - nI 1 = _
      rw [hN, List.length_cons]
      exact nI_pred _
    · show lN _ = lN _
      congr 1
      omega
    · intro k b hkb
      have hlt := (List.getElem?_eq_some_iff.mp hkb).1
      simp only [List.length_cons] at hle
      show upd (zV x) _ _ _ = nI b.1 ∧ zD x _ = nI b.2
      rw [pk_un (by omega), show ((o + 1) % 520 + k) % 520 = (o + (k + 1)) % 520 by omega]
      exact hA (k + 1) b (by simpa using hkb)
theorem release_L0 {f : Int32} {x : Col} {q : Ly} {K : Int32 → Int32 → Col → Prop} (m : Nat) (n : Int32) (h : repC f x q) (hk : ∀ i j x', repC f x' q → K i j x') : qX0_release_L7 K (m + 1) n (nI 0) x := by
  unfold qX0_release_L7
  exact ⟨fun _ => hk _ _ _ h, fun _ => ⟨fun _ => hk _ _ _ h, fun c => absurd ((le0 (by decide)).mpr rfl) c⟩⟩
theorem release_L {f : Int32} {K : Int32 → Int32 → Col → Prop} : ∀ (q : Ly) (v : Nat) (x : Col) (m : Nat), repC f x q → fit q → lsum q ≤ 1000000 → v ≤ lsum q → q.length < m → (∀ i j x', repC f x' (drp v q) → K i j x') → qX0_release_L7 K m (nI q.length) (nI v) x := by
  intro q
  induction q with
  | nil =>
    intro v x m h hf hs hv hm hk
    simp only [lsum, Nat.le_zero] at hv
    subst hv
    obtain ⟨m, rfl⟩ : ∃ k, m = k + 1 := ⟨m - 1, by omega⟩
    exact release_L0 m _ h hk
  | cons a t ih =>
    intro v x m h hf hs hv hm hk
    obtain ⟨m, rfl⟩ : ∃ k, m = k + 1 := ⟨m - 1, by omega⟩
    by_cases v0 : v = 0
    · subst v0
      rw [drp_0 _ hf] at hk
      exact release_L0 m _ h hk
    · obtain ⟨ha, hft⟩ := fit_cons.mp hf
      have hlen : t.length + 1 ≤ 520 := by
        obtain ⟨-, o, -, -, -, hle, -⟩ := h
        simpa using hle
      have hs2 := hs
      rw [lsum] at hs hv
      unfold qX0_release_L7
      simp only [List.length_cons] at hm ⊢
      refine ⟨fun c => absurd c (nI_nle (by omega) (by omega)), fun _ => ⟨fun c => absurd c (nI_nle (by omega) (by omega)), fun _ => ?_⟩⟩
      refine oldest_ok h hf hs2 (by omega) (fun x' hx' w hw => ?_)
      rw [drp] at hk
      rw [pk_m1]
      by_cases c : a.1 ≤ v
      · rw [if_pos c] at hx' hk
        rw [if_pos c, subI c] at hw
        rw [hw]
        exact ih (v - a.1) x' m hx' hft (by omega) (by omega) (by omega) hk
      · rw [if_neg c] at hx' hk
        rw [if_neg c, subI (Nat.le_refl _), Nat.sub_self] at hw
        rw [hw]
        obtain ⟨m, rfl⟩ : ∃ k, m = k + 1 := ⟨m - 1, by omega⟩
        exact release_L0 m _ hx' hk
theorem release_ok {f : Int32} {x : Col} {q : Ly} {v : Nat} {Q : Col → Prop} (h : repC f x q) (hf : fit q) (hs : lsum q ≤ 1000000) (hv : v ≤ lsum q) (hk : ∀ x', repC f x' (drp v q) → Q x') : qX0_release x (nI v) Q := by
  intro w hw
  obtain ⟨-, o, -, -, hN, -⟩ := id h
  rw [hw, hN]
  exact ⟨q.length + 1, release_L q v x _ h hf hs hv (by omega) (fun _ _ x' hx' => hk x' hx')⟩
theorem into_L0 {f g : Int32} {x z : Col} {q r : Ly} {K : Int32 → Int32 → Col → Col → Prop} (m : Nat) (n : Int32) (h : repC f x q) (h2 : repC g z r) (hk : ∀ i j x' z', repC f x' q → repC g z' r → K i j x' z') : qX0_releaseInto_L8 K (m + 1) n (nI 0) x z := by
  unfold qX0_releaseInto_L8
  exact ⟨fun _ => hk _ _ _ _ h h2, fun _ => ⟨fun _ => hk _ _ _ _ h h2, fun c => absurd ((le0 (by decide)).mpr rfl) c⟩⟩
theorem tak_0 : ∀ (q : Ly), fit q → tak 0 q = []
  | [], _ => rfl
  | a :: t, h => by
    have h1 := (fit_cons.mp h).1
    rw [tak, if_neg (by omega), if_pos rfl]
theorem into_L {f g : Int32} {K : Int32 → Int32 → Col → Col → Prop} : ∀ (q r : Ly) (v : Nat) (x z : Col) (m : Nat), repC f x q → repC g z r → fit q → fit r → lsum q ≤ 1000000 → v ≤ lsum q → q.length + r.length < 520 → q.length < m → (∀ i j x' z', repC f x' (drp v q) → repC g z' (catM r (tak v q)) → K i j x' z') → qX0_releaseInto_L8 K m (nI q.length) (nI v) x z := by
  intro q
  induction q with
  | nil =>
    intro r v x z m h h2 hf hr hs hv hl hm hk
    simp only [lsum, Nat.le_zero] at hv
    subst hv
    obtain ⟨m, rfl⟩ : ∃ k, m = k + 1 := ⟨m - 1, by omega⟩
    exact into_L0 m _ h h2 hk
  | cons a t ih =>
    intro r v x z m h h2 hf hr hs hv hl hm hk
    obtain ⟨m, rfl⟩ : ∃ k, m = k + 1 := ⟨m - 1, by omega⟩
    by_cases v0 : v = 0
    · subst v0
      rw [drp_0 _ hf, tak_0 _ hf] at hk
      exact into_L0 m _ h h2 hk
    · obtain ⟨ha, hft⟩ := fit_cons.mp hf
      obtain ⟨-, o, ho, hO, hN, hle, -, hA⟩ := id h
      have hs2 := hs
      rw [lsum] at hs hv
      unfold qX0_releaseInto_L8
      simp only [List.length_cons] at hm hl ⊢
      refine ⟨fun c => absurd c (nI_nle (by omega) (by omega)), fun _ => ⟨fun c => absurd c (nI_nle (by omega) (by omega)), fun _ => ?_⟩⟩
      rw [show (0 : Int32) = nI 0 from rfl]
      refine age_ok ho hO (by decide) ⟨vpn (Nat.mod_lt _ (by decide)) (by decide), fun d hd => ?_⟩
      rw [clmp (by omega), (hA 0 a rfl).2] at hd
      subst hd
      refine oldest_ok h hf hs2 (by omega) (fun x' hx' => ?_)
      rw [drp, tak] at hk
      by_cases c : a.1 ≤ v
      · rw [if_pos c] at hx' hk ⊢
        rw [if_pos c] at hk
        refine enter_ok h2 hr (by omega) (by omega) (by omega) (fun z' hz' w hw => ?_)
        rw [subI c] at hw
        rw [hw, pk_m1]
        have hlen := (len_ent_le (a.1, a.2) r).1
        exact ih (ent r (a.1, a.2)) (v - a.1) x' z' m hx' hz' hft (fit_ent hr ha) (by omega) (by omega) (by omega) (by omega) (fun i j x2 z2 k1 k2 => hk i j x2 z2 k1 k2)
      · rw [if_neg c] at hx' hk ⊢
        rw [if_neg c, if_neg v0] at hk
        refine enter_ok h2 hr (by omega) (by omega) (by omega) (fun z' hz' w hw => ?_)
        rw [subI (Nat.le_refl _), Nat.sub_self] at hw
        rw [hw]
        obtain ⟨m, rfl⟩ : ∃ k, m = k + 1 := ⟨m - 1, by omega⟩
        exact into_L0 m _ hx' hz' hk
theorem into_ok {f g : Int32} {x z : Col} {q r : Ly} {v : Nat} {Q : Col × Col → Prop} (h : repC f x q) (h2 : repC g z r) (hf : fit q) (hr : fit r) (hs : lsum q ≤ 1000000) (hv : v ≤ lsum q) (hl : q.length + r.length < 520) (hk : ∀ x' z', repC f x' (drp v q) → repC g z' (catM r (tak v q)) → Q (x', z')) : qX0_releaseInto x z (nI v) Q := by
  intro w hw
  obtain ⟨-, o, -, -, hN, -⟩ := id h
  rw [hw, hN]
  exact ⟨q.length + 1, into_L q r v x z _ h h2 hf hr hs hv hl (by omega) (fun _ _ x' z' h1 h2 => hk x' z' h1 h2)⟩
/-- the layers from the top on: the pipe is filled there -/
def top (f : Int32) (q : Ly) : Ly := if f = 0 then q else q.reverse
theorem top_len (f : Int32) (q : Ly) : (top f q).length = q.length := by unfold top; split <;> simp
theorem index_ok {f : Int32} {x : Col} {q : Ly} {i : Nat} {a : Nat × Nat} {Q : Int32 → Prop} (h : repC f x q) (hi : (top f q)[i]? = some a) (hk : ∀ p, p < 520 → zV x p = nI a.1 → zD x p = nI a.2 → Q (nI p)) : qX0_placeOfIndex x (nI i) Q := by
  obtain ⟨hF, o, ho, hO, hN, hle, hL, hA⟩ := h
  have hlt := (List.getElem?_eq_some_iff.mp hi).1
  rw [top_len] at hlt
  unfold qX0_placeOfIndex
  unfold top at hi
  refine ⟨fun c => ?_, fun c v hv => ?_⟩
  · rw [hF] at c
    rw [if_pos c] at hi
    rw [hO, nI_add]
    exact fmod_ok (by omega) (hk _ (Nat.mod_lt _ (by decide)) (hA i a hi).1 (hA i a hi).2)
  · rw [hF] at c
    rw [if_neg c, List.getElem?_reverse hlt] at hi
    have ev : v = nI (q.length - 1 - i) := by
      rw [hv, hN, show (1 : Int32) = nI 1 from rfl, subI (by omega), subI (by omega)]
    rw [ev, hO, nI_add]
    exact fmod_ok (by omega) (hk _ (Nat.mod_lt _ (by decide)) (hA _ a hi).1 (hA _ a hi).2)
theorem drop_cons {q : Ly} {i : Nat} {a : Nat × Nat} {t : Ly} (h : q.drop i = a :: t) : q[i]? = some a ∧ q.drop (i + 1) = t ∧ i < q.length := by
  have h1 : i < q.length := by
    apply Classical.byContradiction; intro z
    rw [List.drop_eq_nil_of_le (by omega)] at h; cases h
  have h2 := List.drop_eq_getElem_cons h1
  rw [h] at h2
  injection h2 with e1 e2
  exact ⟨by rw [List.getElem?_eq_getElem h1, e1], e2.symm, h1⟩
theorem drop_nil {q : Ly} {i : Nat} (h : q.drop i = []) : q.length ≤ i := by
  apply Classical.byContradiction; intro z
  have := List.drop_eq_getElem_cons (l := q) (i := i) (by omega)
  rw [h] at this; cases this
theorem ld_0 : ∀ q : Ly, fit q → ld 0 q = 0
  | [], _ => rfl
  | a :: t, h => by
    have h1 := (fit_cons.mp h).1
    rw [ld, if_neg (by omega)]; omega
theorem above_L {f : Int32} {x : Col} {q : Ly} {K : Int32 → Int32 → Int64 → Prop} (h : repC f x q) (hf : fit q) (hs : lsum q ≤ 1000000) : ∀ (s : Ly) (i v sm m : Nat), (top f q).drop i = s → i ≤ q.length → fit s → lsum s ≤ 1000000 → v ≤ 1000000 → s.length < m → (∀ i' j', K i' j' (lN (sm + ld v s))) → qX0_loadAbove_L8 x K m (nI i) (nI v) (lN sm) := by
  obtain ⟨-, o, -, -, hN, hle, -⟩ := id h
  intro s
  induction s with
  | nil =>
    intro i v sm m hd hi fs hss hv hm hk
    obtain ⟨m, rfl⟩ : ∃ k, m = k + 1 := ⟨m - 1, by omega⟩
    unfold qX0_loadAbove_L8
    have := drop_nil hd
    rw [top_len] at this
    rw [hN, show i = q.length by omega]
    exact ⟨fun _ => hk _ _, fun c => absurd (nI_le (Nat.le_refl _) (by omega)) c⟩
  | cons a t ih =>
    intro i v sm m hd hi fs hss hv hm hk
    obtain ⟨m, rfl⟩ : ∃ k, m = k + 1 := ⟨m - 1, by omega⟩
    obtain ⟨h1, h2, h3⟩ := drop_cons hd
    rw [top_len] at h3
    obtain ⟨ha, hft⟩ := fit_cons.mp fs
    unfold qX0_loadAbove_L8
    rw [lsum] at hss
    simp only [List.length_cons] at hm
    refine ⟨fun c => absurd c (by rw [hN]; exact nI_ge h3 (by omega)), fun _ => ⟨fun c => ?_, fun c => ?_⟩⟩
    · have v0 := (le0 (by omega)).mp c
      subst v0
      have := hk (nI i) (nI 0)
      rw [ld_0 _ fs, Nat.add_zero] at this
      exact this
    · have v0 : v ≠ 0 := fun z => c ((le0 (by omega)).mpr z)
      refine index_ok h h1 (fun p hp e1 e2 => ⟨vpn hp (by decide), fun w hw => ⟨vpn hp (by decide), fun y hy z hz => ?_⟩⟩)
      rw [clmp (by omega), e1] at hw
      rw [clmp (by omega), e2] at hy
      rw [nI_1]
      rw [ld] at hk
      by_cases c2 : a.1 ≤ v
      · have ew : w = nI a.1 := by
          rw [hw]; split
          · rfl
          · rename_i c3
            have c4 : ¬ a.1 < v := fun z => c3 ((nI_ltI (by omega) (by omega)).mpr z)
            rw [show v = a.1 by omega]
        rw [if_pos c2] at hk
        subst ew
        rw [subI c2] at hz
        rw [nI_l (by omega), nI_l (by omega), lN_mul, lN_add] at hy
        rw [hz, hy]
        exact ih (i + 1) (v - a.1) (sm + a.1 * a.2) m h2 (by omega) hft (by omega) (by omega) (by omega) (fun i' j' => by rw [Nat.add_assoc]; exact hk i' j')
      · have ew : w = nI v := by
          rw [hw, if_neg (fun z => c2 (by have := (nI_ltI (by omega) (by omega)).mp z; omega))]
        rw [if_neg c2] at hk
        subst ew
        rw [subI (Nat.le_refl _), Nat.sub_self] at hz
        rw [nI_l (by omega), nI_l (by omega), lN_mul, lN_add] at hy
        rw [hz, hy]
        exact ih (i + 1) 0 (sm + v * a.2) m h2 (by omega) hft (by omega) (by omega) (by omega) (fun i' j' => by rw [ld_0 _ hft]; exact hk i' j')
theorem fit_top {f : Int32} {q : Ly} (h : fit q) : fit (top f q) := by unfold top; split; exact h; exact fit_rev h
theorem lsum_top (f : Int32) (q : Ly) : lsum (top f q) = lsum q := by unfold top; split; rfl; exact lsum_rev q
theorem lload_top (f : Int32) (q : Ly) : lload (top f q) = lload q := by unfold top; split; rfl; exact lload_rev q
theorem above_ok {f : Int32} {x : Col} {q : Ly} {v : Nat} {Q : Int64 → Prop} (h : repC f x q) (hf : fit q) (hs : lsum q ≤ 1000000) (hv : v ≤ 1000000) (hk : Q (lN (ld v (top f q)))) : qX0_loadAbove x (nI v) Q :=
  ⟨q.length + 1, above_L h hf hs (top f q) 0 v 0 _ rfl (Nat.zero_le _) (fit_top hf) (by rw [lsum_top]; exact hs) hv (by rw [top_len]; omega) (fun _ _ => by rw [Nat.zero_add]; exact hk)⟩
/-- the hash over layers -/
def mixS (h : Int64) : Ly → Int64
  | [] => h
  | a :: t => mixS (31 * (31 * h + lN a.1) + lN a.2) t
theorem mixed_L {f : Int32} {x : Col} {q : Ly} {K : Int32 → Int64 → Prop} (h : repC f x q) (hf : fit q) (hs : lsum q ≤ 1000000) : ∀ (s : Ly) (i : Nat) (hh : Int64) (m : Nat), (top f q).drop i = s → i ≤ q.length → s.length < m → (∀ i', K i' (mixS hh s)) → qX0_mixedLayers_L12 x K m (nI i) hh := by
  obtain ⟨-, o, -, -, hN, hle, -⟩ := id h
  intro s
  induction s with
  | nil =>
    intro i hh m hd hi hm hk
    obtain ⟨m, rfl⟩ : ∃ k, m = k + 1 := ⟨m - 1, by omega⟩
    unfold qX0_mixedLayers_L12
    have := drop_nil hd
    rw [top_len] at this
    rw [hN, show i = q.length by omega]
    exact ⟨fun _ => hk _, fun c => absurd (nI_le (Nat.le_refl _) (by omega)) c⟩
  | cons a t ih =>
    intro i hh m hd hi hm hk
    obtain ⟨m, rfl⟩ : ∃ k, m = k + 1 := ⟨m - 1, by omega⟩
    obtain ⟨h1, h2, h3⟩ := drop_cons hd
    rw [top_len] at h3
    have h4 := get_le h1
    rw [lsum_top] at h4
    have h5 := get_fit (fit_top hf) h1
    unfold qX0_mixedLayers_L12
    simp only [List.length_cons] at hm
    refine ⟨fun c => absurd c (by rw [hN]; exact nI_ge h3 (by omega)), fun _ => ?_⟩
    refine index_ok h h1 (fun p hp e1 e2 => ⟨vpn hp (by decide), vpn hp (by decide), ?_⟩)
    rw [clmp (by omega), e1, e2, nI_1, nI_l (by omega), nI_l (by omega)]
    exact ih (i + 1) _ m h2 (by omega) (by omega) hk
theorem mixed_ok {f : Int32} {x : Col} {q : Ly} {hh : Int64} {Q : Int64 → Prop} (h : repC f x q) (hf : fit q) (hs : lsum q ≤ 1000000) (hk : Q (mixS (31 * hh + lN q.length) (top f q))) : qX0_mixedLayers x hh Q := by
  obtain ⟨-, o, -, -, hN, hle, -⟩ := id h
  refine ⟨q.length + 1, ?_⟩
  rw [hN, nI_l (by omega)]
  exact mixed_L h hf hs (top f q) 0 _ _ rfl (Nat.zero_le _) (by rw [top_len]; omega) (fun _ => hk)
theorem copy_L {f g : Int32} {z : Col} {q : Ly} {K : Int32 → Col → Prop} (h : repC g z q) (hf : fit q) (hs : lsum q ≤ 1000000) : ∀ (s : Ly) (i : Nat) (w : Col) (B : Ly) (m : Nat), q.drop i = s → i ≤ q.length → repC f w B → fit B → B.length + s.length < 520 → s.length < m → (∀ i' w', repC f w' (catM B s) → K i' w') → qX0_copyFrom_L6 z K m (nI i) w := by
  obtain ⟨-, o, ho, hO, hN, hle, -, hA⟩ := id h
  intro s
  induction s with
  | nil =>
    intro i w B m hd hi hw hB hl hm hk
    obtain ⟨m, rfl⟩ : ∃ k, m = k + 1 := ⟨m - 1, by omega⟩
    unfold qX0_copyFrom_L6
    have := drop_nil hd
    rw [hN, show i = q.length by omega]
    exact ⟨fun _ => hk _ _ hw, fun c => absurd (nI_le (Nat.le_refl _) (by omega)) c⟩
  | cons a t ih =>
    intro i w B m hd hi hw hB hl hm hk
    obtain ⟨m, rfl⟩ : ∃ k, m = k + 1 := ⟨m - 1, by omega⟩
    obtain ⟨h1, h2, h3⟩ := drop_cons hd
    have h4 := get_le h1
    have h5 := get_fit hf h1
    unfold qX0_copyFrom_L6
    simp only [List.length_cons] at hm hl
    refine ⟨fun c => absurd c (by rw [hN]; exact nI_ge h3 (by omega)), fun _ => ?_⟩
    have hin : vp_in (nI ((o + i) % 520)) 520 := vpn (Nat.mod_lt _ (by decide)) (by decide)
    refine age_ok ho hO (by omega) ⟨hin, hin, ?_⟩
    rw [clmp (by omega), (hA i a h1).1, (hA i a h1).2]
    refine enter_ok hw hB (by omega) (by omega) (by omega) (fun w' hw' => ?_)
    have hlen := (len_ent_le (a.1, a.2) B).1
    rw [nI_1]
    exact ih (i + 1) w' (ent B (a.1, a.2)) m h2 (by omega) hw' (fit_ent hB h5) (by omega) (by omega) (fun i' w2 h9 => hk i' w2 h9)
theorem copy_ok {f g : Int32} {z x : Col} {q : Ly} {Q : Col → Prop} (h : repC g z q) (hF : zF x = f) (hf : fit q) (hn : nrm q) (hs : lsum q ≤ 1000000) (hl : q.length < 520) (hk : ∀ x', repC f x' q → Q x') : qX0_copyFrom z x Q := by
  refine clear_ok hF (fun w hw => ⟨q.length + 1, ?_⟩)
  refine copy_L h hf hs q 0 w [] _ rfl (Nat.zero_le _) hw fit_nil (by simpa using hl) (by omega) (fun _ w' hw' => hk w' ?_)
  rwa [catM_self q [] hn (Or.inl rfl)] at hw'
theorem vol_ok {f : Int32} {x : Col} {q : Ly} {i : Nat} {a : Nat × Nat} {Q : Int32 → Prop} (h : repC f x q) (hi : (top f q)[i]? = some a) (hk : Q (nI a.1)) : qX0_volumeOf x (nI i) Q := by
  refine index_ok h hi (fun p hp e1 e2 => ⟨vpn hp (by decide), ?_⟩)
  rw [clmp (by omega), e1]; exact hk
theorem den_ok {f : Int32} {x : Col} {q : Ly} {i : Nat} {a : Nat × Nat} {Q : Int32 → Prop} (h : repC f x q) (hi : (top f q)[i]? = some a) (hk : Q (nI a.2)) : qX0_densityOf x (nI i) Q := by
  refine index_ok h hi (fun p hp e1 e2 => ⟨vpn hp (by decide), ?_⟩)
  rw [clmp (by omega), e2]; exact hk
