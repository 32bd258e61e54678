/-! the state: the well, the saved ones (the oldest first), the counters -/
abbrev PS : Type := PW × List PW × (Nat → Int32)
def phi (w : PW) : Nat := (gP w).length + (gA w).length + (if gS w 4 = topd (gP w) then 0 else 1)
def okB (n : Nat) (w : PW) : Prop := okW w ∧ phi w ≤ 2 + n
def inv (n : Nat) (σ : PS) : Prop := okB n σ.1 ∧ σ.2.1.length ≤ 4 ∧ ∀ w ∈ σ.2.1, okB n w
theorem okB.len {n : Nat} {w : PW} (h : okB n w) (hn : n ≤ 512) : (gP w).length + (gA w).length ≤ 514 := by
  have := h.2; unfold phi at this; omega
theorem okB.mono {n m : Nat} {w : PW} (h : okB n w) (hn : n ≤ m) : okB m w := ⟨h.1, by have := h.2; omega⟩
theorem inv.mono {n m : Nat} {σ : PS} (h : inv n σ) (hn : n ≤ m) : inv m σ := ⟨h.1.mono hn, h.2.1, fun w hw => (h.2.2 w hw).mono hn⟩
def er (σ : PS) (c : Nat) : PS := (σ.1, σ.2.1, upd σ.2.2 c (σ.2.2 c + 1))
def psv (w : PW) (sv : List PW) : List PW := (if sv.length = 4 then sv.drop 1 else sv) ++ [w]
theorem psv_len {w : PW} {sv : List PW} (h : sv.length ≤ 4) : (psv w sv).length ≤ 4 := by
  unfold psv; split
  · simp; omega
  · simp; omega
theorem psv_mem {w v : PW} {sv : List PW} (h : v ∈ psv w sv) : v = w ∨ v ∈ sv := by
  unfold psv at h
  rcases List.mem_append.mp h with h | h
  · split at h
    · exact Or.inr (List.mem_of_mem_drop h)
    · exact Or.inr h
  · exact Or.inl (List.mem_singleton.mp h)
theorem inv_er {n : Nat} {σ : PS} (c : Nat) (h : inv n σ) : inv (n + 1) (er σ c) := inv.mono (σ := er σ c) h (by omega)
theorem inv_put {n : Nat} {σ : PS} {w : PW} (h : inv n σ) (hw : okB (n + 1) w) : inv (n + 1) (w, psv σ.1 σ.2.1, σ.2.2) := by
  refine ⟨hw, psv_len h.2.1, fun v hv => ?_⟩
  rcases psv_mem hv with e | e
  · rw [e]; exact h.1.mono (by omega)
  · exact (h.2.2 v e).mono (by omega)
/-! the class -/
def svw (x : Sys) : Nat → Wel
  | 0 => s0 x
  | 1 => s1 x
  | 2 => s2 x
  | _ => s3 x
def repS (x : Sys) (σ : PS) : Prop := repW (sW x) σ.1 ∧ sC x = nI σ.2.1.length ∧ (∀ (j : Nat) (w : PW), σ.2.1[j]? = some w → repW (svw x j) w) ∧ (∀ k, k < 4 → sE x k = σ.2.2 k) ∧ (flg (sT x) ∧ flg (s0 x) ∧ flg (s1 x) ∧ flg (s2 x) ∧ flg (s3 x))
theorem refuse_ok {x : Sys} {σ : PS} {p : Int32} {Q : Int32 → Sys → Prop} (c : Nat) (hc : c < 4) (hp : (-2) - p = nI c) (h1 : (-5) ≤ p) (h2 : p ≤ (-2)) (h : repS x σ) (hk : ∀ x', repS x' (er σ c) → Q p x') : qX2_refuse x p Q := by
  unfold qX2_refuse
  rw [hp, clmp (by omega)]
  refine in_ok (fun _ _ => ⟨fun z => absurd z (by decide), fun _ => ⟨vpn (by omega) (by decide), vpn (by omega) (by decide), ?_⟩⟩) (fun z => absurd ⟨h1, h2⟩ z)
  apply hk
  obtain ⟨k1, k2, k3, k4, k5⟩ := h
  refine ⟨k1, k2, ?_, fun k hkk => ?_, k5⟩
  · intro j w hj
    have := k3 j w hj
    match j with
    | 0 => exact this
    | 1 => exact this
    | 2 => exact this
    | j + 3 => exact this
  · show upd (sE x) c (sE x c + 1) k = upd σ.2.2 c (σ.2.2 c + 1) k
    by_cases e : k = c
    · rw [e, pk_us, pk_us, k4 c hc]
    · rw [pk_un e, pk_un e, k4 k hkk]
def setSv (x : Sys) (u : Wel) : Nat → Sys
  | 0 => (sW x, sT x, u, s1 x, s2 x, s3 x, sC x + 1, sE x)
  | 1 => (sW x, sT x, s0 x, u, s2 x, s3 x, sC x + 1, sE x)
  | 2 => (sW x, sT x, s0 x, s1 x, u, s3 x, sC x + 1, sE x)
  | _ => (sW x, sT x, s0 x, s1 x, s2 x, u, sC x + 1, sE x)
theorem setSv_rep {x : Sys} {σ : PS} {u : Wel} {j : Nat} (h : repS x σ) (hj : σ.2.1.length = j) (hj4 : j < 4) (hu : repW u σ.1) : repS (setSv x u j) (σ.1, σ.2.1 ++ [σ.1], σ.2.2) := by
  obtain ⟨k1, k2, k3, k4, ⟨f1, f2, f3, f4, f5⟩⟩ := h
  have hc : sC x + 1 = nI (σ.2.1 ++ [σ.1]).length := by rw [k2, nI_1]; simp
  have hfu := hu.flg
  have key : ∀ (i : Nat) (w : PW), (σ.2.1 ++ [σ.1])[i]? = some w → (i < j ∧ σ.2.1[i]? = some w) ∨ (i = j ∧ w = σ.1) := by
    intro i w hi
    rw [List.getElem?_append] at hi
    split at hi
    · rename_i hlt; exact Or.inl ⟨by omega, hi⟩
    · rename_i hge
      have hk1 : i - σ.2.1.length = 0 := by
        have := (List.getElem?_eq_some_iff.mp hi).1; simp at this; omega
      rw [hk1] at hi
      simp at hi
      exact Or.inr ⟨by omega, hi.symm⟩
  rcases (show j = 0 ∨ j = 1 ∨ j = 2 ∨ j = 3 by omega) with e | e | e | e <;> subst e
  · refine ⟨k1, hc, fun i w hi => ?_, k4, ⟨f1, hfu, f3, f4, f5⟩⟩
    rcases key i w hi with ⟨h1, h2⟩ | ⟨h1, h2⟩
    · omega
    · rw [h1, h2]; exact hu
  · refine ⟨k1, hc, fun i w hi => ?_, k4, ⟨f1, f2, hfu, f4, f5⟩⟩
    rcases key i w hi with ⟨h1, h2⟩ | ⟨h1, h2⟩
    · rw [show i = 0 by omega] at h2 ⊢; exact k3 0 w h2
    · rw [h1, h2]; exact hu
  · refine ⟨k1, hc, fun i w hi => ?_, k4, ⟨f1, f2, f3, hfu, f5⟩⟩
    rcases key i w hi with ⟨h1, h2⟩ | ⟨h1, h2⟩
    · rcases (show i = 0 ∨ i = 1 by omega) with e | e <;> rw [e] at h2 ⊢
      · exact k3 0 w h2
      · exact k3 1 w h2
    · rw [h1, h2]; exact hu
  · refine ⟨k1, hc, fun i w hi => ?_, k4, ⟨f1, f2, f3, f4, hfu⟩⟩
    rcases key i w hi with ⟨h1, h2⟩ | ⟨h1, h2⟩
    · rcases (show i = 0 ∨ i = 1 ∨ i = 2 by omega) with e | e | e <;> rw [e] at h2 ⊢
      · exact k3 0 w h2
      · exact k3 1 w h2
      · exact k3 2 w h2
    · rw [h1, h2]; exact hu
theorem svcase {x : Sys} {σ : PS} {Q : Sys → Prop} {n : Nat} (h : repS x σ) (hi : inv n σ) (hn : n ≤ 512) (hl : σ.2.1.length < 4) (hk : ∀ x', repS x' (σ.1, σ.2.1 ++ [σ.1], σ.2.2) → Q x') : ((sC x) = 0 → (qX1_copyFrom (sW x) (s0 x) (fun u3 => Q (sW x, sT x, u3, s1 x, s2 x, s3 x, (sC x) + 1, sE x)))) ∧ ((sC x) = 1 → (qX1_copyFrom (sW x) (s1 x) (fun u4 => Q (sW x, sT x, s0 x, u4, s2 x, s3 x, (sC x) + 1, sE x)))) ∧ ((sC x) = 2 → (qX1_copyFrom (sW x) (s2 x) (fun u5 => Q (sW x, sT x, s0 x, s1 x, u5, s3 x, (sC x) + 1, sE x)))) ∧ ((sC x) = 3 → (qX1_copyFrom (sW x) (s3 x) (fun u6 => Q (sW x, sT x, s0 x, s1 x, s2 x, u6, (sC x) + 1, sE x)))) ∧ ((sC x) = 0 ∨ (sC x) = 1 ∨ (sC x) = 2 ∨ (sC x) = 3) := by
  have hlen := hi.1.len hn
  obtain ⟨k1, k2, k3, k4, ⟨f1, f2, f3, f4, f5⟩⟩ := id h
  have conv : ∀ c, c < 4 → sC x = nI c → σ.2.1.length = c := fun c hc e => (nI_eq (by omega) (by omega)).mp (k2.symm.trans e)
  refine ⟨fun e => ?_, fun e => ?_, fun e => ?_, fun e => ?_, ?_⟩
  · exact copyW_ok k1 hi.1.1 f2 ⟨by omega, by omega⟩ (fun u hu => hk _ (setSv_rep (j := 0) h (conv 0 (by decide) e) (by decide) hu))
  · exact copyW_ok k1 hi.1.1 f3 ⟨by omega, by omega⟩ (fun u hu => hk _ (setSv_rep (j := 1) h (conv 1 (by decide) e) (by decide) hu))
  · exact copyW_ok k1 hi.1.1 f4 ⟨by omega, by omega⟩ (fun u hu => hk _ (setSv_rep (j := 2) h (conv 2 (by decide) e) (by decide) hu))
  · exact copyW_ok k1 hi.1.1 f5 ⟨by omega, by omega⟩ (fun u hu => hk _ (setSv_rep (j := 3) h (conv 3 (by decide) e) (by decide) hu))
  · rw [k2]
    rcases (show σ.2.1.length = 0 ∨ σ.2.1.length = 1 ∨ σ.2.1.length = 2 ∨ σ.2.1.length = 3 by omega) with e | e | e | e <;> rw [e]
    · exact Or.inl rfl
    · exact Or.inr (Or.inl rfl)
    · exact Or.inr (Or.inr (Or.inl rfl))
    · exact Or.inr (Or.inr (Or.inr rfl))
theorem saveS_ok {x : Sys} {σ : PS} {Q : Sys → Prop} {n : Nat} (h : repS x σ) (hi : inv n σ) (hn : n ≤ 512) (hk : ∀ x', repS x' (σ.1, psv σ.1 σ.2.1, σ.2.2) → Q x') : qX2_save x Q := by
  obtain ⟨k1, k2, k3, k4, ⟨f1, f2, f3, f4, f5⟩⟩ := id h
  have hlen := hi.2.1
  unfold qX2_save
  unfold psv at hk
  refine ⟨fun c => ?_, fun c => ?_⟩
  · rw [k2, show (4 : Int32) = nI 4 from rfl, nI_ltI (by omega) (by decide)] at c
    rw [if_neg (by omega)] at hk
    exact svcase h hi hn c hk
  · rw [k2, show (4 : Int32) = nI 4 from rfl, nI_ltI (by omega) (by decide)] at c
    have e4 : σ.2.1.length = 4 := by omega
    rw [if_pos e4] at hk
    have hd : (σ.2.1.drop 1).length = 3 := by simp; omega
    have h7 : repS (sW x, sT x, s1 x, s2 x, s3 x, s0 x, 3, sE x) (σ.1, σ.2.1.drop 1, σ.2.2) := by
      refine ⟨k1, by show (3 : Int32) = nI (σ.2.1.drop 1).length; rw [hd]; rfl, fun j w hj => ?_, k4, ⟨f1, f3, f4, f5, f2⟩⟩
      have hj : (σ.2.1.drop 1)[j]? = some w := hj
      have hlt := (List.getElem?_eq_some_iff.mp hj).1
      rw [List.getElem?_drop] at hj
      rcases (show j = 0 ∨ j = 1 ∨ j = 2 by omega) with e | e | e <;> subst e
      · exact k3 1 w hj
      · exact k3 2 w hj
      · exact k3 3 w hj
    have i7 : inv n (σ.1, σ.2.1.drop 1, σ.2.2) := ⟨hi.1, by show (σ.2.1.drop 1).length ≤ 4; omega, fun w hw => hi.2.2 w (List.mem_of_mem_drop hw)⟩
    exact svcase h7 i7 hn (by show (σ.2.1.drop 1).length < 4; omega) hk
theorem undoS_ok {x : Sys} {w v : PW} {r : List PW} {e : Nat → Int32} {Q : Int32 → Sys → Prop} (h : repS x (w, r ++ [v], e)) (hl : (r ++ [v]).length ≤ 4) (hk : ∀ x', repS x' (v, r, e) → Q (nI r.length) x') : qX2_undo x Q := by
  obtain ⟨k1, k2, k3, k4, ⟨f1, f2, f3, f4, f5⟩⟩ := h
  have k2 : sC x = nI (r.length + 1) := by rw [k2]; simp
  simp only [List.length_append, List.length_singleton] at hl
  have kv : repW (svw x r.length) v := k3 r.length v (by simp)
  have kr : ∀ (j : Nat) (u : PW), r[j]? = some u → repW (svw x j) u := fun j u hj => k3 j u (by
    have := (List.getElem?_eq_some_iff.mp hj).1
    show (r ++ [v])[j]? = some u
    rw [List.getElem?_append_left this]; exact hj)
  have hfw := k1.flg
  unfold qX2_undo
  rw [k2]
  refine ⟨fun _ => ?_, fun c => absurd (nI_le (a := 1) (by omega) (by omega)) c⟩
  rw [nI_pred]
  have conv : ∀ c, c < 4 → nI r.length = nI c → r.length = c := fun c hc e => (nI_eq (by omega) (by omega)).mp e
  refine ⟨fun c => ?_, fun c => ?_, fun c => ?_, fun c => ?_, ?_⟩
  · have e0 := conv 0 (by decide) c
    apply hk
    rw [e0] at kv
    refine ⟨kv, rfl, fun j u hj => ?_, k4, ⟨f1, hfw, f3, f4, f5⟩⟩
    have := (List.getElem?_eq_some_iff.mp hj).1
    exact absurd this (by show ¬ j < r.length; omega)
  · have e0 := conv 1 (by decide) c
    apply hk
    rw [e0] at kv
    refine ⟨kv, rfl, fun j u hj => ?_, k4, ⟨f1, f2, hfw, f4, f5⟩⟩
    have hlt : j < r.length := (List.getElem?_eq_some_iff.mp hj).1
    have := kr j u hj
    rw [show j = 0 by omega] at this ⊢
    exact this
  · have e0 := conv 2 (by decide) c
    apply hk
    rw [e0] at kv
    refine ⟨kv, rfl, fun j u hj => ?_, k4, ⟨f1, f2, f3, hfw, f5⟩⟩
    have hlt : j < r.length := (List.getElem?_eq_some_iff.mp hj).1
    have := kr j u hj
    rcases (show j = 0 ∨ j = 1 by omega) with e | e <;> rw [e] at this ⊢ <;> exact this
  · have e0 := conv 3 (by decide) c
    apply hk
    rw [e0] at kv
    refine ⟨kv, rfl, fun j u hj => ?_, k4, ⟨f1, f2, f3, f4, hfw⟩⟩
    have hlt : j < r.length := (List.getElem?_eq_some_iff.mp hj).1
    have := kr j u hj
    rcases (show j = 0 ∨ j = 1 ∨ j = 2 by omega) with e | e | e <;> rw [e] at this ⊢ <;> exact this
  · rcases (show r.length = 0 ∨ r.length = 1 ∨ r.length = 2 ∨ r.length = 3 by omega) with e | e | e | e <;> rw [e]
    · exact Or.inl rfl
    · exact Or.inr (Or.inl rfl)
    · exact Or.inr (Or.inr (Or.inl rfl))
    · exact Or.inr (Or.inr (Or.inr rfl))
theorem undoS_no {x : Sys} {w : PW} {e : Nat → Int32} {Q : Int32 → Sys → Prop} (h : repS x (w, [], e)) (hk : ∀ x', repS x' (er (w, [], e) 3) → Q (-5) x') : qX2_undo x Q := by
  have k2 : sC x = 0 := h.2.1
  unfold qX2_undo
  refine ⟨fun c => absurd c (by rw [k2]; decide), fun _ => ?_⟩
  exact refuse_ok 3 (by decide) (by decide) (by decide) (by decide) h hk
/-! the reference -/
def repM (y : Mod) (σ : PS) : Prop := repN (mN y) σ.1 ∧ mS y = nI σ.2.1.length ∧ (∀ (j : Nat) (w : PW), σ.2.1[j]? = some w → repN (fun k => mP y (4416 * j + k)) w) ∧ (∀ k, k < 4 → mE y k = σ.2.2 k)
theorem error_ok {y : Mod} {σ : PS} {p : Int32} {Q : Int32 → Mod → Prop} (c : Nat) (hc : c < 4) (hp : (-2) - p = nI c) (h : repM y σ) (hk : ∀ y', repM y' (er σ c) → Q p y') : qX3_error y p Q := by
  unfold qX3_error
  rw [hp, clmp (by omega)]
  refine ⟨vpn (by omega) (by decide), vpn (by omega) (by decide), hk _ ⟨h.1, h.2.1, h.2.2.1, fun k hkk => ?_⟩⟩
  show upd (mE y) c (mE y c + 1) k = upd σ.2.2 c (σ.2.2 c + 1) k
  by_cases e : k = c
  · rw [e, pk_us, pk_us, h.2.2.2 c hc]
  · rw [pk_un e, pk_un e, h.2.2.2 k hkk]
theorem lens {n : Nat} {w : PW} (h : okB n w) (hn : n ≤ 512) : (gP w).length ≤ 1100 ∧ (gA w).length ≤ 1100 := by
  have := h.len hn; omega
theorem saveM_ok {y : Mod} {σ : PS} {Q : Mod → Prop} {n : Nat} (h : repM y σ) (hi : inv n σ) (hn : n ≤ 512) (hk : ∀ y', repM y' (σ.1, psv σ.1 σ.2.1, σ.2.2) → Q y') : qX3_save y Q := by
  obtain ⟨k1, k2, k3, k4⟩ := id h
  have hlen := hi.2.1
  have hl0 := lens hi.1 hn
  unfold qX3_save
  unfold psv at hk
  have c4 : mS y = 4 ↔ σ.2.1.length = 4 := by
    rw [k2, show (4 : Int32) = nI 4 from rfl, nI_eq (by omega) (by decide)]
  have k1z : repN (fun k => mN y (0 + k)) σ.1 := repN_cong k1 hl0 (fun k _ => by rw [Nat.zero_add])
  refine ⟨fun c => ?_, fun c => ?_⟩
  · have c1 : ¬ σ.2.1.length = 4 := fun z => c (c4.mpr z)
    rw [if_neg c1] at hk
    rw [k2, show (4416 : Int32) = nI 4416 from rfl, pk_mul, show (0 : Int32) = nI 0 from rfl]
    refine cp_ok k1z hl0 (by decide) (by omega) (by decide) (by decide) (fun t h1 h2 => hk _ ⟨k1, ?_, fun j w hj => ?_, k4⟩)
    · show nI σ.2.1.length + 1 = nI (σ.2.1 ++ [σ.1]).length
      rw [nI_1]; simp
    · have hj : (σ.2.1 ++ [σ.1])[j]? = some w := hj
      show repN (fun k => t (4416 * j + k)) w
      rw [List.getElem?_append] at hj
      split at hj
      · rename_i hlt
        have hw := hi.2.2 w (List.mem_of_getElem? hj)
        refine repN_cong (k3 j w hj) (lens hw hn) (fun k hk => ?_)
        exact h2 _ (by omega)
      · rename_i hge
        have hk1 : j - σ.2.1.length = 0 := by
          have := (List.getElem?_eq_some_iff.mp hj).1; simp at this; omega
        rw [hk1] at hj
        simp at hj
        rw [show j = σ.2.1.length by omega, ← hj]
        exact h1
  · have c1 : σ.2.1.length = 4 := c4.mp c
    rw [if_pos c1] at hk
    obtain ⟨a0, a1, a2, a3, ea⟩ : ∃ a0 a1 a2 a3, σ.2.1 = [a0, a1, a2, a3] := by
      match hs : σ.2.1, c1 with
      | [a0, a1, a2, a3], _ => exact ⟨a0, a1, a2, a3, rfl⟩
    have m1 := lens (hi.2.2 a1 (by rw [ea]; simp)) hn
    have m2 := lens (hi.2.2 a2 (by rw [ea]; simp)) hn
    have m3 := lens (hi.2.2 a3 (by rw [ea]; simp)) hn
    have r1 : repN (fun k => mP y (4416 + k)) a1 := k3 1 a1 (by rw [ea]; rfl)
    have r2 : repN (fun k => mP y (8832 + k)) a2 := k3 2 a2 (by rw [ea]; rfl)
    have r3 : repN (fun k => mP y (13248 + k)) a3 := k3 3 a3 (by rw [ea]; rfl)
    rw [show (13248 : Int32) = nI (8832 + 4416) from rfl, show (8832 : Int32) = nI (4416 + 4416) from rfl, show (4416 : Int32) = nI (0 + 4416) from rfl, show (0 : Int32) = nI 0 from rfl]
    refine cs_ok (c := 0) (w := a1) r1 m1 (by decide) (by decide) (fun t1 h1 g1 => ?_)
    refine cs_ok (c := 4416) (w := a2) (repN_cong r2 m2 (fun k _ => g1 _ (by omega))) m2 (by decide) (by decide) (fun t2 h2 g2 => ?_)
    refine cs_ok (c := 8832) (w := a3) (repN_cong r3 m3 (fun k _ => (g2 _ (by omega)).trans (g1 _ (by omega)))) m3 (by decide) (by decide) (fun t3 h3 g3 => ?_)
    rw [k2, c1, show nI 4 - 1 = nI 3 from rfl, pk_mul]
    refine cp_ok k1z hl0 (by decide) (by decide) (by decide) (by decide) (fun t h4 g4 => hk _ ⟨k1, ?_, fun j w hj => ?_, k4⟩)
    · show nI 3 + 1 = nI (σ.2.1.drop 1 ++ [σ.1]).length
      rw [ea]; rfl
    · have hj : ([a1, a2, a3] ++ [σ.1])[j]? = some w := by
        have hj : (σ.2.1.drop 1 ++ [σ.1])[j]? = some w := hj
        rw [ea] at hj; exact hj
      show repN (fun k => t (4416 * j + k)) w
      match j, hj with
      | 0, hj =>
        cases hj
        exact repN_cong h1 m1 (fun k hk => by rw [g4 _ (by omega), g3 _ (by omega), g2 _ (by omega)])
      | 1, hj =>
        cases hj
        exact repN_cong h2 m2 (fun k hk => by rw [g4 _ (by omega), g3 _ (by omega)])
      | 2, hj =>
        cases hj
        exact repN_cong h3 m3 (fun k hk => by rw [g4 _ (by omega)])
      | 3, hj =>
        cases hj
        exact h4
      | j + 4, hj => simp at hj
theorem undoM_ok {y : Mod} {w v : PW} {r : List PW} {e : Nat → Int32} {Q : Int32 → Mod → Prop} {n : Nat} (h : repM y (w, r ++ [v], e)) (hi : inv n (w, r ++ [v], e)) (hn : n ≤ 512) (hk : ∀ y', repM y' (v, r, e) → Q (nI r.length) y') : qX3_undo y Q := by
  obtain ⟨k1, k2, k3, k4⟩ := h
  have k2 : mS y = nI (r.length + 1) := by rw [k2]; simp
  have hl := hi.2.1
  simp only [List.length_append, List.length_singleton] at hl
  have hv := lens (hi.2.2 v (by simp)) hn
  have kv : repN (fun k => mP y (4416 * r.length + k)) v := k3 r.length v (by simp)
  unfold qX3_undo
  rw [k2, nI_pred, show (4416 : Int32) = nI 4416 from rfl, pk_mul, show (0 : Int32) = nI 0 from rfl]
  refine ⟨fun _ => ?_, fun c => ?_⟩
  · refine cp_ok kv hv (by omega) (by decide) (by decide) (by decide) (fun t h1 _ => hk _ ⟨?_, rfl, fun j u hj => ?_, k4⟩)
    · exact repN_cong h1 hv (fun k _ => by rw [Nat.zero_add])
    · have := (List.getElem?_eq_some_iff.mp hj).1
      exact k3 j u (by show (r ++ [v])[j]? = some u; rw [List.getElem?_append_left this]; exact hj)
  · have := (nI_eq (by omega) (by decide)).mp c
    omega
theorem undoM_no {y : Mod} {w : PW} {e : Nat → Int32} {Q : Int32 → Mod → Prop} (h : repM y (w, [], e)) (hk : ∀ y', repM y' (er (w, [], e) 3) → Q (-5) y') : qX3_undo y Q := by
  have k2 : mS y = 0 := h.2.1
  unfold qX3_undo
  exact ⟨fun c => absurd k2 c, fun _ => error_ok 3 (by decide) (by decide) h hk⟩
