/-! the reference: rows are copied, a well is filled -/
theorem repN_cong {f g : Nat → Int32} {w : PW} (h : repN f w) (hl : (gP w).length ≤ 1100 ∧ (gA w).length ≤ 1100) (e : ∀ k, k < 4416 → g k = f k) : repN g w := by
  obtain ⟨⟨s1, s2⟩, ⟨n1, n2⟩, cP, cA⟩ := h
  refine ⟨⟨fun j hj => ?_, ?_, ?_, ?_⟩, ⟨?_, ?_⟩, fun j b hjb => ?_, fun j b hjb => ?_⟩
  · rw [e j (by omega)]; exact s1 j hj
  · rw [e 8 (by decide)]; exact s2.1
  · rw [e 9 (by decide)]; exact s2.2.1
  · rw [e 10 (by decide)]; exact s2.2.2
  · rw [e 11 (by decide)]; exact n1
  · rw [e 12 (by decide)]; exact n2
  · have hlt := (List.getElem?_eq_some_iff.mp hjb).1
    simp only [List.length_reverse] at hlt
    rw [e _ (by omega), e _ (by omega)]; exact cP j b hjb
  · have hlt := (List.getElem?_eq_some_iff.mp hjb).1
    rw [e _ (by omega), e _ (by omega)]; exact cA j b hjb
def cpd (src xt : Nat → Int32) (b c m n0 n1 : Nat) (w : Nat → Int32) : Prop := (∀ k, k < m → w (c + k) = src (b + k)) ∧ (∀ k, k < n0 → w (c + 16 + k) = src (b + 16 + k) ∧ w (c + 1116 + k) = src (b + 1116 + k)) ∧ (∀ k, k < n1 → w (c + 2216 + k) = src (b + 2216 + k) ∧ w (c + 3316 + k) = src (b + 3316 + k)) ∧ (∀ k, (k < c ∨ c + 4416 ≤ k) → w k = xt k)
theorem cpd_0 (src xt : Nat → Int32) (b c : Nat) : cpd src xt b c 0 0 0 xt := ⟨fun k h => absurd h (by omega), fun k h => absurd h (by omega), fun k h => absurd h (by omega), fun _ _ => rfl⟩
theorem cpd_m {src xt w : Nat → Int32} {b c m : Nat} {v : Int32} (h : cpd src xt b c m 0 0 w) (hm : m < 16) (hv : v = src (b + m)) : cpd src xt b c (m + 1) 0 0 (upd w (c + m) v) := by
  obtain ⟨h1, h2, h3, h4⟩ := h
  refine ⟨fun k hk => ?_, fun k h => absurd h (by omega), fun k h => absurd h (by omega), fun k hk => ?_⟩
  · by_cases e : k = m
    · subst e; rw [pk_us, hv]
    · rw [pk_un (by omega)]; exact h1 k (by omega)
  · rw [pk_un (by omega)]; exact h4 k hk
theorem cpd_p {src xt w : Nat → Int32} {b c n : Nat} {v u : Int32} (h : cpd src xt b c 16 n 0 w) (hn : n < 1100) (hv : v = src (b + 16 + n)) (hu : u = src (b + 1116 + n)) : cpd src xt b c 16 (n + 1) 0 (upd (upd w (c + 16 + n) v) (c + 1116 + n) u) := by
  obtain ⟨h1, h2, h3, h4⟩ := h
  refine ⟨fun k hk => ?_, fun k hk => ?_, fun k h => absurd h (by omega), fun k hk => ?_⟩
  · rw [pk_un (by omega), pk_un (by omega)]; exact h1 k hk
  · by_cases e : k = n
    · subst e; rw [pk_un (by omega), pk_us, pk_us]; exact ⟨hv, hu⟩
    · rw [pk_un (by omega), pk_un (by omega), pk_un (by omega), pk_un (by omega)]; exact h2 k (by omega)
  · rw [pk_un (by omega), pk_un (by omega)]; exact h4 k hk
theorem cpd_a {src xt w : Nat → Int32} {b c n0 n : Nat} {v u : Int32} (h : cpd src xt b c 16 n0 n w) (h0 : n0 ≤ 1100) (hn : n < 1100) (hv : v = src (b + 2216 + n)) (hu : u = src (b + 3316 + n)) : cpd src xt b c 16 n0 (n + 1) (upd (upd w (c + 2216 + n) v) (c + 3316 + n) u) := by
  obtain ⟨h1, h2, h3, h4⟩ := h
  refine ⟨fun k hk => ?_, fun k hk => ?_, fun k hk => ?_, fun k hk => ?_⟩
  · rw [pk_un (by omega), pk_un (by omega)]; exact h1 k hk
  · rw [pk_un (by omega), pk_un (by omega), pk_un (by omega), pk_un (by omega)]; exact h2 k hk
  · by_cases e : k = n
    · subst e; rw [pk_un (by omega), pk_us, pk_us]; exact ⟨hv, hu⟩
    · rw [pk_un (by omega), pk_un (by omega), pk_un (by omega), pk_un (by omega)]; exact h3 k (by omega)
  · rw [pk_un (by omega), pk_un (by omega)]; exact h4 k hk
theorem cpd_rep {src xt t : Nat → Int32} {b c : Nat} {w : PW} (h : repN (fun k => src (b + k)) w) (hc : cpd src xt b c 16 (gP w).length (gA w).length t) : repN (fun k => t (c + k)) w := by
  obtain ⟨⟨s1, s2⟩, ⟨n1, n2⟩, cP, cA⟩ := h
  obtain ⟨h1, h2, h3, -⟩ := hc
  refine ⟨⟨fun j hj => (h1 j (by omega)).trans (s1 j hj), (h1 8 (by decide)).trans s2.1, (h1 9 (by decide)).trans s2.2.1, (h1 10 (by decide)).trans s2.2.2⟩, ⟨(h1 11 (by decide)).trans n1, (h1 12 (by decide)).trans n2⟩, fun j y hjb => ?_, fun j y hjb => ?_⟩
  · have hlt := (List.getElem?_eq_some_iff.mp hjb).1
    simp only [List.length_reverse] at hlt
    have a1 := h2 j hlt
    have a2 := cP j y hjb
    dsimp only at a2 ⊢
    rw [← Nat.add_assoc] at a2
    rw [← Nat.add_assoc, show c + (16 + 1100 + j) = c + 1116 + j by omega, a1.1, a1.2]
    rw [show b + (16 + 1100 + j) = b + 1116 + j by omega] at a2
    exact a2
  · have hlt := (List.getElem?_eq_some_iff.mp hjb).1
    have a1 := h3 j hlt
    have a2 := cA j y hjb
    dsimp only at a2 ⊢
    rw [← Nat.add_assoc] at a2
    rw [← Nat.add_assoc, show c + (2216 + 1100 + j) = c + 3316 + j by omega, a1.1, a1.2]
    rw [show b + (2216 + 1100 + j) = b + 3316 + j by omega] at a2
    exact a2
section CP
variable {src xt : Nat → Int32} {b c nf nt : Nat} {K : Int32 → (Nat → Int32) → Prop}
theorem cp_L3 (hb : b + 4416 ≤ nf) (hc : c + 4416 ≤ nt) (hnf : nf ≤ 20000) (hnt : nt ≤ 20000) : ∀ (n k : Nat) (w : Nat → Int32) (m : Nat), k + n = 16 → cpd src xt b c k 0 0 w → n < m → (∀ i w', cpd src xt b c 16 0 0 w' → K i w') → qX3_copy_L3 (nI b) (nI c) src nf nt K m (nI k) w := by
  intro n
  induction n with
  | zero =>
    intro k w m hk h hm hK
    obtain ⟨m, rfl⟩ : ∃ k, m = k + 1 := ⟨m - 1, by omega⟩
    rw [show k = 16 by omega] at h ⊢
    unfold qX3_copy_L3
    exact ⟨fun _ => hK _ _ h, fun c => absurd (nI_le (a := 16) (Nat.le_refl _) (by decide)) c⟩
  | succ n ih =>
    intro k w m hk h hm hK
    obtain ⟨m, rfl⟩ : ∃ k, m = k + 1 := ⟨m - 1, by omega⟩
    unfold qX3_copy_L3
    refine ⟨fun cc => absurd cc (nI_ge (b := 16) (by omega) (by decide)), fun _ => ?_⟩
    rw [nI_add, nI_add, nI_1, clmp (by omega), clmp (by omega)]
    exact ⟨vpn (by omega) (by omega), vpn (by omega) (by omega), ih (k + 1) _ m (by omega) (cpd_m h (by omega) rfl) (by omega) hK⟩
theorem cp_LP {N : Nat} (hb : b + 4416 ≤ nf) (hc : c + 4416 ≤ nt) (hnf : nf ≤ 20000) (hnt : nt ≤ 20000) (hN : src (b + 11) = nI N) (hN2 : N ≤ 1100) : ∀ (n k : Nat) (w : Nat → Int32) (m : Nat), k + n = N → cpd src xt b c 16 k 0 w → n < m → (∀ i w', cpd src xt b c 16 N 0 w' → K i w') → qX3_copy_L51 (nI b) (nI c) src nf nt K m (nI k) w := by
  have e1 : nI b + 11 + 0 = nI (b + 11) := by rw [show (11 : Int32) = nI 11 from rfl, add00, nI_add]
  intro n
  induction n with
  | zero =>
    intro k w m hk h hm hK
    obtain ⟨m, rfl⟩ : ∃ k, m = k + 1 := ⟨m - 1, by omega⟩
    rw [show k = N by omega] at h ⊢
    unfold qX3_copy_L51
    rw [e1, clmp (by omega), hN]
    exact ⟨vpn (by omega) (by omega), fun _ => hK _ _ h, fun c => absurd (nI_le (Nat.le_refl _) (by omega)) c⟩
  | succ n ih =>
    intro k w m hk h hm hK
    obtain ⟨m, rfl⟩ : ∃ k, m = k + 1 := ⟨m - 1, by omega⟩
    unfold qX3_copy_L51
    rw [e1, clmp (by omega), hN]
    refine ⟨vpn (by omega) (by omega), fun cc => absurd cc (nI_ge (by omega) (by omega)), fun _ => ?_⟩
    rw [show (16 : Int32) = nI 16 from rfl, show (1100 : Int32) = nI 1100 from rfl, nI_add, nI_add, nI_add, nI_add, nI_add, nI_add, nI_add, nI_add, nI_1, clmp (by omega), clmp (by omega), clmp (by omega), clmp (by omega), show c + 16 + 1100 + k = c + 1116 + k by omega, show b + 16 + 1100 + k = b + 1116 + k by omega]
    exact ⟨vpn (by omega) (by omega), vpn (by omega) (by omega), vpn (by omega) (by omega), vpn (by omega) (by omega), ih (k + 1) _ m (by omega) (cpd_p h (by omega) rfl rfl) (by omega) hK⟩
theorem cp_LA {N0 N : Nat} (hb : b + 4416 ≤ nf) (hc : c + 4416 ≤ nt) (hnf : nf ≤ 20000) (hnt : nt ≤ 20000) (hN0 : N0 ≤ 1100) (hN : src (b + 12) = nI N) (hN2 : N ≤ 1100) : ∀ (n k : Nat) (w : Nat → Int32) (m : Nat), k + n = N → cpd src xt b c 16 N0 k w → n < m → (∀ i w', cpd src xt b c 16 N0 N w' → K i w') → qX3_copy_L51b (nI b) (nI c) src nf nt K m (nI k) w := by
  have e1 : nI b + 11 + 1 = nI (b + 12) := by rw [show (11 : Int32) = nI 11 from rfl, nI_add, nI_1]
  intro n
  induction n with
  | zero =>
    intro k w m hk h hm hK
    obtain ⟨m, rfl⟩ : ∃ k, m = k + 1 := ⟨m - 1, by omega⟩
    rw [show k = N by omega] at h ⊢
    unfold qX3_copy_L51b
    rw [e1, clmp (by omega), hN]
    exact ⟨vpn (by omega) (by omega), fun _ => hK _ _ h, fun c => absurd (nI_le (Nat.le_refl _) (by omega)) c⟩
  | succ n ih =>
    intro k w m hk h hm hK
    obtain ⟨m, rfl⟩ : ∃ k, m = k + 1 := ⟨m - 1, by omega⟩
    unfold qX3_copy_L51b
    rw [e1, clmp (by omega), hN]
    refine ⟨vpn (by omega) (by omega), fun cc => absurd cc (nI_ge (by omega) (by omega)), fun _ => ?_⟩
    rw [show (2216 : Int32) = nI 2216 from rfl, show (1100 : Int32) = nI 1100 from rfl, nI_add, nI_add, nI_add, nI_add, nI_add, nI_add, nI_add, nI_add, nI_1, clmp (by omega), clmp (by omega), clmp (by omega), clmp (by omega), show c + 2216 + 1100 + k = c + 3316 + k by omega, show b + 2216 + 1100 + k = b + 3316 + k by omega]
    exact ⟨vpn (by omega) (by omega), vpn (by omega) (by omega), vpn (by omega) (by omega), vpn (by omega) (by omega), ih (k + 1) _ m (by omega) (cpd_a h hN0 (by omega) rfl rfl) (by omega) hK⟩
end CP
theorem cp_ok {src xt : Nat → Int32} {b c nf nt : Nat} {w : PW} {Q : (Nat → Int32) → Prop} (h : repN (fun k => src (b + k)) w) (hl : (gP w).length ≤ 1100 ∧ (gA w).length ≤ 1100) (hb : b + 4416 ≤ nf) (hc : c + 4416 ≤ nt) (hnf : nf ≤ 20000) (hnt : nt ≤ 20000) (hk : ∀ t, repN (fun k => t (c + k)) w → (∀ k, (k < c ∨ c + 4416 ≤ k) → t k = xt k) → Q t) : qX3_copy nf nt src xt (nI b) (nI c) Q := by
  obtain ⟨n1, n2⟩ := h.2.1
  refine ⟨17, ?_⟩
  rw [show (0 : Int32) = nI 0 from rfl]
  refine cp_L3 hb hc hnf hnt 16 0 xt _ (by decide) (cpd_0 src xt b c) (by decide) (fun _ w1 h1 => ⟨(gP w).length + 1, ?_⟩)
  refine cp_LP hb hc hnf hnt n1 hl.1 (gP w).length 0 w1 _ (by omega) h1 (by omega) (fun _ w2 h2 => ⟨(gA w).length + 1, ?_⟩)
  refine cp_LA hb hc hnf hnt hl.1 n2 hl.2 (gA w).length 0 w2 _ (by omega) h2 (by omega) (fun _ w3 h3 => ?_)
  exact hk w3 (cpd_rep h h3) h3.2.2.2
section CS
variable {src : Nat → Int32} {c nf : Nat} {K : Int32 → (Nat → Int32) → Prop}
/-- the same row of rows: from the one above -/
theorem cs_L3 (hb : c + 8832 ≤ nf) (hnf : nf ≤ 20000) : ∀ (n k : Nat) (w : Nat → Int32) (m : Nat), k + n = 16 → cpd src src (c + 4416) c k 0 0 w → n < m → (∀ i w', cpd src src (c + 4416) c 16 0 0 w' → K i w') → qX3_copy_s_L3 (nI (c + 4416)) (nI c) nf K m (nI k) w := by
  intro n
  induction n with
  | zero =>
    intro k w m hk h hm hK
    obtain ⟨m, rfl⟩ : ∃ k, m = k + 1 := ⟨m - 1, by omega⟩
    rw [show k = 16 by omega] at h ⊢
    unfold qX3_copy_s_L3
    exact ⟨fun _ => hK _ _ h, fun c => absurd (nI_le (a := 16) (Nat.le_refl _) (by decide)) c⟩
  | succ n ih =>
    intro k w m hk h hm hK
    obtain ⟨m, rfl⟩ : ∃ k, m = k + 1 := ⟨m - 1, by omega⟩
    unfold qX3_copy_s_L3
    refine ⟨fun cc => absurd cc (nI_ge (b := 16) (by omega) (by decide)), fun _ => ?_⟩
    rw [nI_add, nI_add, nI_1, clmp (by omega), clmp (by omega)]
    exact ⟨vpn (by omega) (by omega), vpn (by omega) (by omega), ih (k + 1) _ m (by omega) (cpd_m h (by omega) (h.2.2.2 _ (by omega))) (by omega) hK⟩
theorem cs_LP {N : Nat} (hb : c + 8832 ≤ nf) (hnf : nf ≤ 20000) (hN : src (c + 4416 + 11) = nI N) (hN2 : N ≤ 1100) : ∀ (n k : Nat) (w : Nat → Int32) (m : Nat), k + n = N → cpd src src (c + 4416) c 16 k 0 w → n < m → (∀ i w', cpd src src (c + 4416) c 16 N 0 w' → K i w') → qX3_copy_s_L51 (nI (c + 4416)) (nI c) nf K m (nI k) w := by
  have e1 : nI (c + 4416) + 11 + 0 = nI (c + 4416 + 11) := by rw [show (11 : Int32) = nI 11 from rfl, add00, nI_add]
  intro n
  induction n with
  | zero =>
    intro k w m hk h hm hK
    obtain ⟨m, rfl⟩ : ∃ k, m = k + 1 := ⟨m - 1, by omega⟩
    rw [show k = N by omega] at h ⊢
    unfold qX3_copy_s_L51
    rw [e1, clmp (by omega), h.2.2.2 _ (by omega), hN]
    exact ⟨vpn (by omega) (by omega), fun _ => hK _ _ h, fun c => absurd (nI_le (Nat.le_refl _) (by omega)) c⟩
  | succ n ih =>
    intro k w m hk h hm hK
    obtain ⟨m, rfl⟩ : ∃ k, m = k + 1 := ⟨m - 1, by omega⟩
    unfold qX3_copy_s_L51
    rw [e1, clmp (by omega), h.2.2.2 _ (by omega), hN]
    refine ⟨vpn (by omega) (by omega), fun cc => absurd cc (nI_ge (by omega) (by omega)), fun _ => ?_⟩
    rw [show (16 : Int32) = nI 16 from rfl, show (1100 : Int32) = nI 1100 from rfl, nI_add, nI_add, nI_add, nI_add, nI_add, nI_add, nI_add, nI_add, nI_1, clmp (by omega), clmp (by omega), clmp (by omega), clmp (by omega), show c + 16 + 1100 + k = c + 1116 + k by omega, show c + 4416 + 16 + 1100 + k = c + 4416 + 1116 + k by omega, pk_un (k := c + 16 + k) (by omega)]
    exact ⟨vpn (by omega) (by omega), vpn (by omega) (by omega), vpn (by omega) (by omega), vpn (by omega) (by omega), ih (k + 1) _ m (by omega) (cpd_p h (by omega) (h.2.2.2 _ (by omega)) (h.2.2.2 _ (by omega))) (by omega) hK⟩
theorem cs_LA {N0 N : Nat} (hb : c + 8832 ≤ nf) (hnf : nf ≤ 20000) (hN0 : N0 ≤ 1100) (hN : src (c + 4416 + 12) = nI N) (hN2 : N ≤ 1100) : ∀ (n k : Nat) (w : Nat → Int32) (m : Nat), k + n = N → cpd src src (c + 4416) c 16 N0 k w → n < m → (∀ i w', cpd src src (c + 4416) c 16 N0 N w' → K i w') → qX3_copy_s_L51b (nI (c + 4416)) (nI c) nf K m (nI k) w := by
  have e1 : nI (c + 4416) + 11 + 1 = nI (c + 4416 + 12) := by rw [show (11 : Int32) = nI 11 from rfl, nI_add, nI_1]
  intro n
  induction n with
  | zero =>
    intro k w m hk h hm hK
    obtain ⟨m, rfl⟩ : ∃ k, m = k + 1 := ⟨m - 1, by omega⟩
    rw [show k = N by omega] at h ⊢
    unfold qX3_copy_s_L51b
    rw [e1, clmp (by omega), h.2.2.2 _ (by omega), hN]
    exact ⟨vpn (by omega) (by omega), fun _ => hK _ _ h, fun c => absurd (nI_le (Nat.le_refl _) (by omega)) c⟩
  | succ n ih =>
    intro k w m hk h hm hK
    obtain ⟨m, rfl⟩ : ∃ k, m = k + 1 := ⟨m - 1, by omega⟩
    unfold qX3_copy_s_L51b
    rw [e1, clmp (by omega), h.2.2.2 _ (by omega), hN]
    refine ⟨vpn (by omega) (by omega), fun cc => absurd cc (nI_ge (by omega) (by omega)), fun _ => ?_⟩
    rw [show (2216 : Int32) = nI 2216 from rfl, show (1100 : Int32) = nI 1100 from rfl, nI_add, nI_add, nI_add, nI_add, nI_add, nI_add, nI_add, nI_add, nI_1, clmp (by omega), clmp (by omega), clmp (by omega), clmp (by omega), show c + 2216 + 1100 + k = c + 3316 + k by omega, show c + 4416 + 2216 + 1100 + k = c + 4416 + 3316 + k by omega, pk_un (k := c + 2216 + k) (by omega)]
    exact ⟨vpn (by omega) (by omega), vpn (by omega) (by omega), vpn (by omega) (by omega), vpn (by omega) (by omega), ih (k + 1) _ m (by omega) (cpd_a h hN0 (by omega) (h.2.2.2 _ (by omega)) (h.2.2.2 _ (by omega))) (by omega) hK⟩
end CS
theorem cs_ok {src : Nat → Int32} {c nf : Nat} {w : PW} {Q : (Nat → Int32) → Prop} (h : repN (fun k => src (c + 4416 + k)) w) (hl : (gP w).length ≤ 1100 ∧ (gA w).length ≤ 1100) (hb : c + 8832 ≤ nf) (hnf : nf ≤ 20000) (hk : ∀ t, repN (fun k => t (c + k)) w → (∀ k, (k < c ∨ c + 4416 ≤ k) → t k = src k) → Q t) : qX3_copy_s nf src (nI (c + 4416)) (nI c) Q := by
  obtain ⟨n1, n2⟩ := h.2.1
  refine ⟨17, ?_⟩
  rw [show (0 : Int32) = nI 0 from rfl]
  refine cs_L3 hb hnf 16 0 src _ (by decide) (cpd_0 src src (c + 4416) c) (by decide) (fun _ w1 h1 => ⟨(gP w).length + 1, ?_⟩)
  refine cs_LP hb hnf n1 hl.1 (gP w).length 0 w1 _ (by omega) h1 (by omega) (fun _ w2 h2 => ⟨(gA w).length + 1, ?_⟩)
  refine cs_LA hb hnf hl.1 n2 hl.2 (gA w).length 0 w2 _ (by omega) h2 (by omega) (fun _ w3 h3 => ?_)
  exact hk w3 (cpd_rep h h3) h3.2.2.2
theorem fillM_ok {x : Mod} {S : Nat → Nat} {Q : Mod → Prop} (hs : ∀ k, k < 8 → mN x k = nI (S k)) (hk : ∀ f, repN f (anew S) → Q (wN x f)) : qX3_fill x Q := by
  unfold qX3_fill
  show qX3_volumeAt 0 (nI 0) _
  refine va0 ?_
  show qX3_volumeOf _ 0 _
  have v0 : ∀ (f : Nat → Int32) (R : Int32 → Prop), f 0 = nI (S 0) → f 1 = nI (S 1) → R (nI (S 0 * S 1)) → qX3_volumeOf (f, mA x, mP x, mS x, mE x, mH x) 0 R := by
    intro f R h1 h2 hR
    unfold qX3_volumeOf
    rw [show (1 : Int32) + 0 = 1 from by decide, tN0, tN1]
    rw [show mN (f, mA x, mP x, mS x, mE x, mH x) = f from rfl, h1, h2, pk_mul]
    exact ⟨vp_c 1 4416 (by decide), hR⟩
  have v1 : ∀ (f : Nat → Int32) (R : Int32 → Prop), f 0 = nI (S 0) → f 2 = nI (S 2) → R (nI (S 0 * S 2)) → qX3_volumeOf (f, mA x, mP x, mS x, mE x, mH x) 1 R := by
    intro f R h1 h2 hR
    unfold qX3_volumeOf
    rw [show (1 : Int32) + 1 = 2 from by decide, tN0, tN2]
    rw [show mN (f, mA x, mP x, mS x, mE x, mH x) = f from rfl, h1, h2, pk_mul]
    exact ⟨vp_c 2 4416 (by decide), hR⟩
  rw [tN11, tN4, tN12, tN8, tN9, tN10]
  refine v0 _ _ (by rw [pk_un (by decide)]; exact hs 0 (by decide)) (by rw [pk_un (by decide)]; exact hs 1 (by decide)) ⟨vpn (by decide) (by decide), ?_⟩
  show qX3_densityAt 0 (nI 0) _
  refine da0 ⟨vpn (by decide) (by decide), ?_⟩
  show qX3_volumeAt 1 (nI 0) _
  refine va1 ?_
  rw [clmp (by decide), clmp (by decide)]
  refine v1 _ _ (by rw [pk_un (by decide), pk_un (by decide), pk_un (by decide), pk_un (by decide)]; exact hs 0 (by decide)) (by rw [pk_un (by decide), pk_un (by decide), pk_un (by decide), pk_un (by decide)]; exact hs 2 (by decide)) ⟨vpn (by decide) (by decide), ?_⟩
  show qX3_densityAt 1 (nI 0) _
  refine da1 ⟨vpn (by decide) (by decide), ?_⟩
  rw [clmp (by decide), clmp (by decide)]
  have r1 : upd (upd (mN x) 11 1) (16 + 0) (nI (S 0 * S 1)) 4 = nI (S 4) := by rw [pk_un (by decide), pk_un (by decide)]; exact hs 4 (by decide)
  rw [r1]
  have r2 : upd (upd (upd (upd (upd (mN x) 11 1) (16 + 0) (nI (S 0 * S 1))) (1116 + 0) (nI (S 4))) 12 1) (2216 + 0) (nI (S 0 * S 2)) 4 = nI (S 4) := by rw [pk_un (by decide), pk_un (by decide), pk_un (by decide), pk_un (by decide), pk_un (by decide)]; exact hs 4 (by decide)
  rw [r2]
  apply hk
  refine ⟨⟨fun j hj => ?_, ?_, ?_, ?_⟩, ⟨?_, ?_⟩, fun j b hjb => ?_, fun j b hjb => ?_⟩
  · rw [pk_un (by omega), pk_un (by omega), pk_un (by omega), pk_un (by omega), pk_un (by omega), pk_un (by omega), pk_un (by omega), pk_un (by omega), pk_un (by omega)]; exact hs j hj
  · rw [pk_un (by decide), pk_un (by decide), pk_us]; rfl
  · rw [pk_un (by decide), pk_us]; rfl
  · rw [pk_us]; rfl
  · rw [pk_un (by decide), pk_un (by decide), pk_un (by decide), pk_un (by decide), pk_un (by decide), pk_un (by decide), pk_un (by decide), pk_un (by decide), pk_us]; rfl
  · rw [pk_un (by decide), pk_un (by decide), pk_un (by decide), pk_un (by decide), pk_un (by decide), pk_us]; rfl
  · have hjb : [(S 0 * S 1, S 4)][j]? = some b := hjb
    have hlt := (List.getElem?_eq_some_iff.mp hjb).1
    simp only [List.length_singleton] at hlt
    have j0 : j = 0 := by omega
    subst j0
    simp at hjb
    subst hjb
    refine ⟨?_, ?_⟩
    · rw [pk_un (by decide), pk_un (by decide), pk_un (by decide), pk_un (by decide), pk_un (by decide), pk_un (by decide), pk_un (by decide), pk_us]
    · rw [pk_un (by decide), pk_un (by decide), pk_un (by decide), pk_un (by decide), pk_un (by decide), pk_un (by decide), pk_us]
  · have hjb : [(S 0 * S 2, S 4)][j]? = some b := hjb
    have hlt := (List.getElem?_eq_some_iff.mp hjb).1
    simp only [List.length_singleton] at hlt
    have j0 : j = 0 := by omega
    subst j0
    simp at hjb
    subst hjb
    refine ⟨?_, ?_⟩
    · rw [pk_un (by decide), pk_un (by decide), pk_un (by decide), pk_un (by decide), pk_us]
    · rw [pk_un (by decide), pk_un (by decide), pk_un (by decide), pk_us]
