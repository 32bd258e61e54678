/-! layers: a list of (volume, density), the oldest first -/
abbrev Ly : Type := List (Nat × Nat)
def lsum : Ly → Nat
  | [] => 0
  | a :: t => a.1 + lsum t
def lload : Ly → Nat
  | [] => 0
  | a :: t => a.1 * a.2 + lload t
/-- a layer enters behind the newest -/
def ent : Ly → Nat × Nat → Ly
  | [], x => [x]
  | [a], x => if a.2 = x.2 then [(a.1 + x.1, a.2)] else [a, x]
  | a :: b :: t, x => a :: ent (b :: t) x
/-- so many litres leave, the oldest first -/
def drp : Nat → Ly → Ly
  | _, [] => []
  | v, a :: t => if a.1 ≤ v then drp (v - a.1) t else (a.1 - v, a.2) :: t
/-- the litres that leave -/
def tak : Nat → Ly → Ly
  | _, [] => []
  | v, a :: t => if a.1 ≤ v then a :: tak (v - a.1) t else if v = 0 then [] else [(v, a.2)]
def catM (A P : Ly) : Ly := P.foldl ent A
/-- the load of the first so many litres -/
def ld : Nat → Ly → Nat
  | _, [] => 0
  | v, a :: t => if a.1 ≤ v then a.1 * a.2 + ld (v - a.1) t else v * a.2
def fit (q : Ly) : Prop := ∀ a ∈ q, 0 < a.1 ∧ 0 < a.2 ∧ a.2 ≤ 2500
def nrm : Ly → Prop
  | [] => True
  | [_] => True
  | a :: b :: t => a.2 ≠ b.2 ∧ nrm (b :: t)
/-- the density of the newest -/
def topd : Ly → Nat
  | [] => 0
  | [a] => a.2
  | _ :: b :: t => topd (b :: t)
theorem ent_snoc (a x : Nat × Nat) : ∀ q : Ly, ent (q ++ [a]) x = if a.2 = x.2 then q ++ [(a.1 + x.1, a.2)] else q ++ [a, x]
  | [] => by simp [ent]
  | [b] => by
    simp only [List.cons_append, List.nil_append, ent]
    split <;> rfl
  | b :: c :: t => by
    have ih := ent_snoc a x (c :: t)
    simp only [List.cons_append] at ih ⊢
    rw [ent, ih]
    split <;> rfl
theorem snoc_of {q : Ly} (h : q ≠ []) : ∃ r a, q = r ++ [a] := by
  rcases List.eq_nil_or_concat q with e | ⟨r, a, e⟩
  · exact absurd e h
  · exact ⟨r, a, by simpa using e⟩
theorem topd_snoc (a : Nat × Nat) : ∀ q : Ly, topd (q ++ [a]) = a.2
  | [] => rfl
  | [b] => rfl
  | b :: c :: t => by
    have ih := topd_snoc a (c :: t)
    simp only [List.cons_append] at ih ⊢
    rw [topd]; exact ih
theorem lsum_app : ∀ p q : Ly, lsum (p ++ q) = lsum p + lsum q
  | [], q => by simp [lsum]
  | a :: t, q => by simp only [List.cons_append, lsum, lsum_app t q]; omega
theorem lload_app : ∀ p q : Ly, lload (p ++ q) = lload p + lload q
  | [], q => by simp [lload]
  | a :: t, q => by simp only [List.cons_append, lload, lload_app t q]; omega
theorem lsum_rev (q : Ly) : lsum q.reverse = lsum q := by
  induction q with
  | nil => rfl
  | cons a t ih => simp only [List.reverse_cons, lsum_app, lsum, ih]; omega
theorem lload_rev (q : Ly) : lload q.reverse = lload q := by
  induction q with
  | nil => rfl
  | cons a t ih => simp only [List.reverse_cons, lload_app, lload, ih]; omega
theorem ent_ne (x : Nat × Nat) : ∀ q : Ly, ent q x ≠ []
  | [] => by simp [ent]
  | [a] => by rw [ent]; split <;> simp
  | a :: b :: t => by rw [ent]; simp
theorem lsum_ent (x : Nat × Nat) : ∀ q : Ly, lsum (ent q x) = lsum q + x.1
  | [] => by simp [ent, lsum]
  | [a] => by rw [ent]; split <;> simp [lsum]
  | a :: b :: t => by
    have ih := lsum_ent x (b :: t)
    rw [ent]; simp only [lsum] at ih ⊢; omega
theorem lload_ent (x : Nat × Nat) : ∀ q : Ly, lload (ent q x) = lload q + x.1 * x.2
  | [] => by simp [ent, lload]
  | [a] => by
    rw [ent]
    split
    · rename_i h
      simp only [lload, ← h, Nat.add_mul, Nat.add_zero]
    · simp [lload]
  | a :: b :: t => by
    have ih := lload_ent x (b :: t)
    rw [ent]; simp only [lload] at ih ⊢; omega
theorem topd_ent (x : Nat × Nat) (q : Ly) : topd (ent q x) = x.2 := by
  by_cases h : q = []
  · subst h; rfl
  · obtain ⟨r, a, rfl⟩ := snoc_of h
    rw [ent_snoc]
    split
    · rename_i e; rw [topd_snoc]; exact e
    · rw [show r ++ [a, x] = (r ++ [a]) ++ [x] by simp, topd_snoc]
theorem len_ent (x : Nat × Nat) (q : Ly) (h : q ≠ []) : (ent q x).length = q.length + (if x.2 = topd q then 0 else 1) := by
  obtain ⟨r, a, rfl⟩ := snoc_of h
  rw [ent_snoc, topd_snoc]
  by_cases e : a.2 = x.2
  · rw [if_pos e, if_pos e.symm]; simp
  · rw [if_neg e, if_neg (fun z => e z.symm)]; simp
theorem len_ent_le (x : Nat × Nat) (q : Ly) : (ent q x).length ≤ q.length + 1 ∧ q.length ≤ (ent q x).length := by
  by_cases h : q = []
  · subst h; simp [ent]
  · rw [len_ent x q h]; split <;> omega
theorem fit_nil : fit [] := fun a h => by simp at h
theorem fit_cons {a : Nat × Nat} {t : Ly} : fit (a :: t) ↔ (0 < a.1 ∧ 0 < a.2 ∧ a.2 ≤ 2500) ∧ fit t := List.forall_mem_cons
theorem fit_app {p q : Ly} : fit (p ++ q) ↔ fit p ∧ fit q := List.forall_mem_append
theorem fit_ent {q : Ly} {x : Nat × Nat} (h : fit q) (hx : 0 < x.1 ∧ 0 < x.2 ∧ x.2 ≤ 2500) : fit (ent q x) := by
  by_cases e : q = []
  · subst e; exact fit_cons.mpr ⟨hx, fit_nil⟩
  · obtain ⟨r, a, rfl⟩ := snoc_of e
    obtain ⟨h1, h2⟩ := fit_app.mp h
    have ha := (fit_cons.mp h2).1
    rw [ent_snoc]
    split
    · exact fit_app.mpr ⟨h1, fit_cons.mpr ⟨⟨by dsimp only; omega, ha.2⟩, fit_nil⟩⟩
    · exact fit_app.mpr ⟨h1, fit_cons.mpr ⟨ha, fit_cons.mpr ⟨hx, fit_nil⟩⟩⟩
theorem nrm_tail {a : Nat × Nat} {t : Ly} (h : nrm (a :: t)) : nrm t := by
  cases t with
  | nil => trivial
  | cons b t => exact h.2
theorem nrm_ent (x : Nat × Nat) : ∀ q : Ly, nrm q → nrm (ent q x)
  | [], _ => trivial
  | [a], _ => by
    rw [ent]
    split
    · trivial
    · rename_i h; exact ⟨h, trivial⟩
  | [a, b], h => by
    rw [ent, ent]
    split
    · exact ⟨h.1, trivial⟩
    · rename_i e; exact ⟨h.1, e, trivial⟩
  | a :: b :: c :: t, h => by
    have ih := nrm_ent x (b :: c :: t) h.2
    rw [ent, ent] at *
    exact ⟨h.1, ih⟩
theorem lsum_drp : ∀ (q : Ly) (v : Nat), v ≤ lsum q → lsum (drp v q) = lsum q - v
  | [], v, h => by simp [lsum] at h; simp [drp, lsum]
  | a :: t, v, h => by
    rw [lsum] at h
    rw [drp]
    split
    · rename_i e; rw [lsum_drp t _ (by omega), lsum]; omega
    · simp only [lsum]; omega
theorem fit_drp : ∀ (q : Ly) (v : Nat), fit q → fit (drp v q)
  | [], v, h => fit_nil
  | a :: t, v, h => by
    obtain ⟨h1, h2⟩ := fit_cons.mp h
    rw [drp]
    split
    · exact fit_drp t _ h2
    · exact fit_cons.mpr ⟨⟨by dsimp only; omega, h1.2⟩, h2⟩
theorem nrm_drp : ∀ (q : Ly) (v : Nat), nrm q → nrm (drp v q)
  | [], v, h => trivial
  | a :: t, v, h => by
    rw [drp]
    split
    · exact nrm_drp t _ (nrm_tail h)
    · cases t with
      | nil => trivial
      | cons b t => exact h
theorem len_drp : ∀ (q : Ly) (v : Nat), (drp v q).length ≤ q.length
  | [], v => by simp [drp]
  | a :: t, v => by
    rw [drp]
    split
    · have := len_drp t (v - a.1); simp only [List.length_cons]; omega
    · simp
theorem drp_0 : ∀ (q : Ly), fit q → drp 0 q = q
  | [], _ => rfl
  | a :: t, h => by
    have h1 := (fit_cons.mp h).1
    rw [drp, if_neg (by omega)]
    rfl
theorem drp_all : ∀ (q : Ly), drp (lsum q) q = []
  | [] => rfl
  | a :: t => by
    rw [drp, lsum, if_pos (by omega), show a.1 + lsum t - a.1 = lsum t by omega, drp_all t]
theorem lsum_tak : ∀ (q : Ly) (v : Nat), v ≤ lsum q → lsum (tak v q) = v
  | [], v, h => by simp [lsum] at h; simp [tak, lsum, h]
  | a :: t, v, h => by
    rw [lsum] at h
    rw [tak]
    split
    · rw [lsum, lsum_tak t _ (by omega)]; omega
    · split
      · simp [lsum]; omega
      · simp [lsum]
theorem fit_tak : ∀ (q : Ly) (v : Nat), fit q → fit (tak v q)
  | [], v, h => fit_nil
  | a :: t, v, h => by
    obtain ⟨h1, h2⟩ := fit_cons.mp h
    rw [tak]
    split
    · exact fit_cons.mpr ⟨h1, fit_tak t _ h2⟩
    · split
      · exact fit_nil
      · exact fit_cons.mpr ⟨⟨by dsimp only; omega, h1.2⟩, fit_nil⟩
theorem len_tak : ∀ (q : Ly) (v : Nat), (tak v q).length ≤ q.length
  | [], v => by simp [tak]
  | a :: t, v => by
    rw [tak]
    split
    · have := len_tak t (v - a.1); simp only [List.length_cons]; omega
    · split <;> simp
theorem drp_ent (x : Nat × Nat) (hx : 0 < x.1) : ∀ (q : Ly) (v : Nat), v ≤ lsum q → drp v (ent q x) = ent (drp v q) x
  | [], v, h => by
    simp only [lsum, Nat.le_zero] at h
    subst h
    rw [ent, drp, drp, if_neg (by omega)]
    rfl
  | [a], v, h => by
    simp only [lsum, Nat.add_zero] at h
    by_cases e : a.1 ≤ v
    · have e2 : v = a.1 := by omega
      subst e2
      rw [show drp a.1 [a] = [] by rw [drp, if_pos (Nat.le_refl _)]; rfl]
      rw [ent, ent]
      split
      · rename_i e3
        rw [drp, if_neg (by dsimp only; omega)]
        congr 1
        apply Prod.ext
        · dsimp only; omega
        · exact e3
      · rw [drp, if_pos (Nat.le_refl _), Nat.sub_self, drp, if_neg (by omega)]
        rfl
    · rw [show drp v [a] = [(a.1 - v, a.2)] by rw [drp, if_neg e]]
      rw [ent, ent]
      split
      · rename_i e3
        rw [drp, if_neg (by dsimp only; omega)]
        congr 1
        apply Prod.ext
        · dsimp only; omega
        · rfl
      · rw [drp, if_neg e]
  | a :: b :: t, v, h => by
    rw [lsum] at h
    rw [ent, drp, drp.eq_2 v a (b :: t)]
    split
    · rw [drp_ent x hx (b :: t) _ (by omega)]
    · rw [ent]
theorem tak_ent (x : Nat × Nat) (hx : 0 < x.1) : ∀ (q : Ly) (v : Nat), fit q → v ≤ lsum q → tak v (ent q x) = tak v q
  | [], v, _, h => by
    simp only [lsum, Nat.le_zero] at h
    subst h
    show tak 0 [x] = []
    rw [tak, if_neg (by omega), if_pos rfl]
  | [a], v, hf, h => by
    have ha := (fit_cons.mp hf).1
    simp only [lsum, Nat.add_zero] at h
    by_cases e : a.1 ≤ v
    · have e2 : v = a.1 := by omega
      subst e2
      rw [show tak a.1 [a] = [a] by rw [tak, if_pos (Nat.le_refl _)]; rfl]
      rw [ent]
      split
      · rw [tak, if_neg (by dsimp only; omega), if_neg (by omega)]
      · rw [tak, if_pos (Nat.le_refl _), Nat.sub_self, tak, if_neg (by omega), if_pos rfl]
    · rw [show tak v [a] = (if v = 0 then [] else [(v, a.2)]) by rw [tak, if_neg e]]
      rw [ent]
      split
      · rw [tak, if_neg (by dsimp only; omega)]
      · rw [tak, if_neg e]
  | a :: b :: t, v, hf, h => by
    rw [lsum] at h
    rw [ent, tak, tak.eq_2 v a (b :: t)]
    split
    · rw [tak_ent x hx (b :: t) _ (fit_cons.mp hf).2 (by omega)]
    · rfl
theorem ent_ent (q : Ly) (a x : Nat × Nat) (h : a.2 = x.2) : ent (ent q a) x = ent q (a.1 + x.1, a.2) := by
  by_cases e : q = []
  · subst e
    show ent [a] x = [(a.1 + x.1, a.2)]
    rw [ent, if_pos h]
  · obtain ⟨r, b, rfl⟩ := snoc_of e
    rw [ent_snoc, ent_snoc]
    by_cases e2 : b.2 = a.2
    · rw [if_pos e2, if_pos e2, ent_snoc, if_pos (by dsimp only; omega)]
      congr 2
      apply Prod.ext
      · dsimp only; omega
      · rfl
    · rw [if_neg e2, if_neg e2, show r ++ [b, a] = (r ++ [b]) ++ [a] by simp, ent_snoc, if_pos h]
      simp
theorem catM_nil (A : Ly) : catM A [] = A := rfl
theorem catM_cons (A : Ly) (a : Nat × Nat) (t : Ly) : catM A (a :: t) = catM (ent A a) t := rfl
theorem catM_app (A p q : Ly) : catM A (p ++ q) = catM (catM A p) q := by simp [catM, List.foldl_append]
theorem catM_ent (A P : Ly) (x : Nat × Nat) : catM A (ent P x) = ent (catM A P) x := by
  by_cases e : P = []
  · subst e; rfl
  · obtain ⟨r, a, rfl⟩ := snoc_of e
    rw [ent_snoc]
    split
    · rename_i h
      rw [catM_app, catM_app, catM_cons, catM_nil, catM_cons, catM_nil, ent_ent _ _ _ h]
    · rw [show r ++ [a, x] = (r ++ [a]) ++ [x] by simp, catM_app, catM_cons, catM_nil]
theorem catM_split : ∀ (P X : Ly) (v : Nat), fit P → v ≤ lsum P → catM (catM X (tak v P)) (drp v P) = catM X P
  | [], X, v, _, _ => rfl
  | a :: t, X, v, hf, h => by
    rw [lsum] at h
    rw [tak, drp]
    split
    · rw [catM_cons, catM_split t (ent X a) _ (fit_cons.mp hf).2 (by omega), catM_cons]
    · split
      · rename_i e; subst e; rw [catM_nil, catM_cons, catM_cons]; rfl
      · show catM (ent (ent X (v, a.2)) (a.1 - v, a.2)) t = catM (ent X a) t
        rw [ent_ent X (v, a.2) (a.1 - v, a.2) rfl]
        congr 2
        apply Prod.ext
        · dsimp only; omega
        · rfl
theorem lsum_catM : ∀ (P A : Ly), lsum (catM A P) = lsum A + lsum P
  | [], A => by rw [catM_nil]; rfl
  | a :: t, A => by rw [catM_cons, lsum_catM t, lsum_ent, lsum]; omega
theorem fit_catM : ∀ (P A : Ly), fit A → fit P → fit (catM A P)
  | [], A, h, _ => h
  | a :: t, A, h, h2 => by
    obtain ⟨h3, h4⟩ := fit_cons.mp h2
    rw [catM_cons]; exact fit_catM t _ (fit_ent h h3) h4
theorem nrm_catM : ∀ (P A : Ly), nrm A → nrm (catM A P)
  | [], A, h => h
  | a :: t, A, h => by rw [catM_cons]; exact nrm_catM t _ (nrm_ent a A h)
theorem len_catM : ∀ (P A : Ly), (catM A P).length ≤ A.length + P.length
  | [], A => by simp [catM_nil]
  | a :: t, A => by
    rw [catM_cons]
    have h1 := len_catM t (ent A a)
    have h2 := (len_ent_le a A).1
    simp only [List.length_cons]; omega
theorem drp_catM : ∀ (P A : Ly) (v : Nat), fit P → v ≤ lsum A → drp v (catM A P) = catM (drp v A) P
  | [], A, v, _, _ => rfl
  | a :: t, A, v, hf, h => by
    obtain ⟨h3, h4⟩ := fit_cons.mp hf
    rw [catM_cons, drp_catM t _ v h4 (by rw [lsum_ent]; omega), drp_ent a h3.1 A v h, catM_cons]
theorem topd_catM (P A : Ly) (h : P ≠ []) : topd (catM A P) = topd P := by
  obtain ⟨r, a, rfl⟩ := snoc_of h
  rw [catM_app, catM_cons, catM_nil, topd_ent, topd_snoc]
/-- how much shorter a joined column may be -/
theorem len_join : ∀ (P A : Ly), nrm P → (P = [] ∨ A = [] ∨ topd A ≠ (P.headD (0, 0)).2) → (catM A P).length = A.length + P.length
  | [], A, _, _ => by simp [catM_nil]
  | a :: t, A, hn, h => by
    have h : A = [] ∨ topd A ≠ a.2 := by
      rcases h with h | h | h
      · cases h
      · exact Or.inl h
      · exact Or.inr h
    have e : (ent A a).length = A.length + 1 := by
      rcases h with h | h
      · subst h; rfl
      · by_cases e : A = []
        · subst e; rfl
        · rw [len_ent a A e, if_neg (fun z => h z.symm)]
    rw [catM_cons, len_join t (ent A a) (nrm_tail hn), e]
    · simp only [List.length_cons]; omega
    · cases t with
      | nil => exact Or.inl rfl
      | cons b t => exact Or.inr (Or.inr (by rw [topd_ent]; exact hn.1))
theorem len_join_le (P A : Ly) (hn : nrm P) (hP : P ≠ []) : A.length + P.length ≤ (catM A P).length + 1 := by
  cases P with
  | nil => exact absurd rfl hP
  | cons a t =>
    by_cases h : A = [] ∨ topd A ≠ a.2
    · rw [len_join (a :: t) A hn (h.elim (fun h => Or.inr (Or.inl h)) (fun h => Or.inr (Or.inr h)))]; omega
    · have hA : A ≠ [] := fun z => h (Or.inl z)
      have ht : topd A = a.2 := Classical.byContradiction fun z => h (Or.inr z)
      rw [catM_cons, len_join t (ent A a) (nrm_tail hn)]
      · rw [len_ent a A hA, if_pos ht.symm]; simp only [List.length_cons]; omega
      · cases t with
        | nil => exact Or.inl rfl
        | cons b t => exact Or.inr (Or.inr (by rw [topd_ent]; exact hn.1))
theorem catM_self : ∀ (P : Ly) (A : Ly), nrm P → (A = [] ∨ P = [] ∨ topd A ≠ (P.headD (0, 0)).2) → catM A P = A ++ P
  | [], A, _, _ => by simp [catM_nil]
  | a :: t, A, hn, h => by
    have h : A = [] ∨ topd A ≠ a.2 := by
      rcases h with h | h | h
      · exact Or.inl h
      · cases h
      · exact Or.inr h
    have e : ent A a = A ++ [a] := by
      by_cases hA : A = []
      · subst hA; rfl
      · obtain ⟨r, b, rfl⟩ := snoc_of hA
        rw [ent_snoc, if_neg (fun z => (h.resolve_left hA) (by rw [topd_snoc]; exact z))]
        simp
    rw [catM_cons, catM_self t (ent A a) (nrm_tail hn), e]
    · simp
    · cases t with
      | nil => exact Or.inr (Or.inl rfl)
      | cons b t => exact Or.inr (Or.inr (by rw [topd_ent]; exact hn.1))
theorem ld_all : ∀ (q : Ly), ld (lsum q) q = lload q
  | [] => rfl
  | a :: t => by
    rw [ld, lsum, if_pos (by omega), show a.1 + lsum t - a.1 = lsum t by omega, ld_all t, lload]
theorem ld_le : ∀ (q : Ly) (v : Nat), fit q → ld v q ≤ 2500 * v
  | [], v, _ => by simp [ld]
  | a :: t, v, h => by
    obtain ⟨h1, h2⟩ := fit_cons.mp h
    rw [ld]
    split
    · have ih := ld_le t (v - a.1) h2
      have h3 : a.1 * a.2 ≤ a.1 * 2500 := Nat.mul_le_mul_left _ h1.2.2
      omega
    · have h3 : v * a.2 ≤ v * 2500 := Nat.mul_le_mul_left _ h1.2.2
      omega
theorem lload_le (q : Ly) (h : fit q) : lload q ≤ 2500 * lsum q := by rw [← ld_all]; exact ld_le q _ h
theorem mem_le : ∀ (q : Ly) (a : Nat × Nat), a ∈ q → a.1 ≤ lsum q
  | [], a, h => by simp at h
  | b :: t, a, h => by
    rw [lsum]
    rcases List.mem_cons.mp h with h | h
    · subst h; omega
    · have := mem_le t a h; omega
theorem get_le {q : Ly} {k : Nat} {a : Nat × Nat} (h : q[k]? = some a) : a.1 ≤ lsum q := mem_le q a (List.mem_of_getElem? h)
theorem get_fit {q : Ly} (hf : fit q) {k : Nat} {a : Nat × Nat} (h : q[k]? = some a) : 0 < a.1 ∧ 0 < a.2 ∧ a.2 ≤ 2500 := hf a (List.mem_of_getElem? h)
theorem fit_rev {q : Ly} (h : fit q) : fit q.reverse := fun a ha => h a (List.mem_reverse.mp ha)
/-- one pumping: what leaves the pipe enters the annulus -/
def pmpA (v : Nat) (P A : Ly) : Ly := catM (drp v A) (tak v P)
def pmpP (v d : Nat) (P : Ly) : Ly := ent (drp v P) (v, d)
theorem pmp_len {v d : Nat} {P A : Ly} (hv : 0 < v) (hP : v ≤ lsum P) (hA : v ≤ lsum A) (fP : fit P) (fA : fit A) (nP : nrm P) (nz : P ≠ []) :
    (catM (pmpA v P A) (pmpP v d P)).length ≤ (catM A P).length + (if d = topd P then 0 else 1) := by
  have e : catM (pmpA v P A) (pmpP v d P) = ent (drp v (catM A P)) (v, d) := by
    rw [pmpA, pmpP, catM_ent, catM_split P (drp v A) v fP hP, drp_catM P A v fP hA]
  rw [e]
  by_cases h0 : drp v (catM A P) = []
  · have hne : P.length ≠ 0 := fun z => nz (List.length_eq_zero_iff.mp z)
    have h1 : A.length ≠ 0 := fun z => by
      have := List.length_eq_zero_iff.mp z; subst this; simp [lsum] at hA; omega
    have h2 := len_join_le P A nP nz
    rw [h0]; simp only [ent, List.length_singleton]; omega
  · have h3 := len_ent (v, d) _ h0
    have h4 := len_drp (catM A P) v
    have h5 : topd (drp v (catM A P)) = topd P := by
      rw [drp_catM P A v fP hA, topd_catM P _ nz]
    rw [h3, h5]; dsimp only; omega
