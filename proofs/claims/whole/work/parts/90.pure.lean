/-! the law, call by call -/
theorem case_ok {L : Nat} {xs : Nat → Int32} {i : Int32} {x : Sys} {y : Mod} {σ : PS} {n : Nat} {K : Sys → Mod → Prop} (h : cpl x y σ n) (v1 : vp_in (i + 1) L) (v2 : vp_in (i + 2) L) (v3 : vp_in (i + 3) L) (v4 : vp_in (i + 4) L) (hK : ∀ x' y' σ', repS x' σ' → repM y' σ' → inv (n + 1) σ' → K x' y') : ∀ k, lqc L xs i x y K k
  | 0 => show lq0 L xs i x y K from ⟨v1, v2, v3, v4, s_geometry h (fun r σ' hi' hq x' hx' => ⟨v1, v2, v3, v4, hq _ (fun y' hy' => ⟨rfl, hK _ _ _ hx' hy' hi'⟩)⟩)⟩
  | 1 => show lq1 L xs i x y K from ⟨v1, s_setMud h (fun r σ' hi' hq x' hx' => ⟨v1, hq _ (fun y' hy' => ⟨rfl, hK _ _ _ hx' hy' hi'⟩)⟩)⟩
  | 2 => show lq2 L xs i x y K from ⟨v1, s_setFormation h (fun r σ' hi' hq x' hx' => ⟨v1, hq _ (fun y' hy' => ⟨rfl, hK _ _ _ hx' hy' hi'⟩)⟩)⟩
  | 3 => show lq3 L xs i x y K from ⟨v1, s_setSlowPump h (fun r σ' hi' hq x' hx' => ⟨v1, hq _ (fun y' hy' => ⟨rfl, hK _ _ _ hx' hy' hi'⟩)⟩)⟩
  | 4 => show lq4 L xs i x y K from ⟨v1, s_setFracture h (fun r σ' hi' hq x' hx' => ⟨v1, hq _ (fun y' hy' => ⟨rfl, hK _ _ _ hx' hy' hi'⟩)⟩)⟩
  | 5 => show lq5 L xs i x y K from ⟨v1, s_pump h (fun r σ' hi' hq x' hx' => ⟨v1, hq _ (fun y' hy' => ⟨rfl, hK _ _ _ hx' hy' hi'⟩)⟩)⟩
  | 6 => show lq6 L xs i x y K from ⟨v1, v2, s_influx h (fun r σ' hi' hq x' hx' => ⟨v1, v2, hq _ (fun y' hy' => ⟨rfl, hK _ _ _ hx' hy' hi'⟩)⟩)⟩
  | 7 => show lq7 L xs i x y K from ⟨v1, s_hydrostatic h (fun r σ' hi' hq x' hx' => ⟨v1, hq _ (fun y' hy' => ⟨rfl, hK _ _ _ hx' hy' hi'⟩)⟩)⟩
  | 8 => show lq8 L xs i x y K from ⟨v1, v2, s_above h (fun r σ' hi' hq x' hx' => ⟨v1, v2, hq _ (fun y' hy' => ⟨rfl, hK _ _ _ hx' hy' hi'⟩)⟩)⟩
  | 9 => show lq9 L xs i x y K from s_pipe h (fun r hq => hq _ ⟨rfl, hK x y σ h.1 h.2.1 h.2.2.1.up⟩)
  | 10 => show lq10 L xs i x y K from s_casing h (fun r hq => hq _ ⟨rfl, hK x y σ h.1 h.2.1 h.2.2.1.up⟩)
  | 11 => show lq11 L xs i x y K from s_stand h (fun r hq => hq _ ⟨rfl, hK x y σ h.1 h.2.1 h.2.2.1.up⟩)
  | 12 => show lq12 L xs i x y K from s_shoe h (fun r hq => hq _ ⟨rfl, hK x y σ h.1 h.2.1 h.2.2.1.up⟩)
  | 13 => show lq13 L xs i x y K from s_allowed h (fun r hq => hq _ ⟨rfl, hK x y σ h.1 h.2.1 h.2.2.1.up⟩)
  | 14 => show lq14 L xs i x y K from s_kill h (fun r σ' hi' hq x' hx' => hq _ (fun y' hy' => ⟨rfl, hK _ _ _ hx' hy' hi'⟩))
  | 15 => show lq15 L xs i x y K from ⟨v1, v2, s_killShoe h (fun r σ' hi' hq x' hx' => ⟨v1, v2, hq _ (fun y' hy' => ⟨rfl, hK _ _ _ hx' hy' hi'⟩)⟩)⟩
  | 16 => show lq16 L xs i x y K from ⟨v1, s_schedule h (fun r σ' hi' hq x' hx' => ⟨v1, hq _ (fun y' hy' => ⟨rfl, hK _ _ _ hx' hy' hi'⟩)⟩)⟩
  | 17 => show lq17 L xs i x y K from ⟨v1, s_strokes h (fun r σ' hi' hq x' hx' => ⟨v1, hq _ (fun y' hy' => ⟨rfl, hK _ _ _ hx' hy' hi'⟩)⟩)⟩
  | 18 => show lq18 L xs i x y K from ⟨v1, s_layers h (fun r σ' hi' hq x' hx' => ⟨v1, hq _ (fun y' hy' => ⟨rfl, hK _ _ _ hx' hy' hi'⟩)⟩)⟩
  | 19 => show lq19 L xs i x y K from ⟨v1, v2, s_layerVolume h (fun r σ' hi' hq x' hx' => ⟨v1, v2, hq _ (fun y' hy' => ⟨rfl, hK _ _ _ hx' hy' hi'⟩)⟩)⟩
  | 20 => show lq20 L xs i x y K from ⟨v1, v2, s_layerDensity h (fun r σ' hi' hq x' hx' => ⟨v1, v2, hq _ (fun y' hy' => ⟨rfl, hK _ _ _ hx' hy' hi'⟩)⟩)⟩
  | 21 => show lq21 L xs i x y K from s_gain h (fun r hq => hq _ ⟨rfl, hK x y σ h.1 h.2.1 h.2.2.1.up⟩)
  | 22 => show lq22 L xs i x y K from s_breaks h (fun r hq => hq _ ⟨rfl, hK x y σ h.1 h.2.1 h.2.2.1.up⟩)
  | 23 => show lq23 L xs i x y K from s_greatest h (fun r hq => hq _ ⟨rfl, hK x y σ h.1 h.2.1 h.2.2.1.up⟩)
  | 24 => show lq24 L xs i x y K from s_undo h (fun r σ' hi' hq x' hx' => hq _ (fun y' hy' => ⟨rfl, hK _ _ _ hx' hy' hi'⟩))
  | 25 => show lq25 L xs i x y K from ⟨v1, s_errors h (fun r σ' hi' hq x' hx' => ⟨v1, hq _ (fun y' hy' => ⟨rfl, hK _ _ _ hx' hy' hi'⟩)⟩)⟩
  | 26 => show lq26 L xs i x y K from s_digest h (fun r hq => hq _ (fun y' hy' => ⟨rfl, hK x y' σ h.1 hy' h.2.2.1.up⟩))
  | _ + 27 => show K x y from hK x y σ h.1 h.2.1 h.2.2.1.up
theorem loop_ok {L : Nat} (hL : L ≤ 2560) (xs : Nat → Int32) : ∀ (m n : Nat) (x : Sys) (y : Mod) (σ : PS), n + m = 513 → n ≤ 512 → repS x σ → repM y σ → inv n σ → lq L xs m (nI (5 * n)) x y := by
  intro m
  induction m with
  | zero => intro n x y σ h1 h2; omega
  | succ m ih =>
    intro n x y σ h1 h2 hs hm hi
    unfold lq
    intro c
    have c1 : 5 * n + 5 ≤ L := by
      rw [show (5 : Int32) = nI 5 from rfl, Int32.lt_iff_toInt_lt, pk_sub_toInt (by omega) (by decide), nI_toInt (by omega)] at c
      omega
    refine ⟨vpn (by omega) (by omega), fun k _ _ => case_ok (n := n) ⟨hs, hm, hi, by omega⟩ ?_ ?_ ?_ ?_ (fun x' y' σ' hs' hm' hi' => ?_) k⟩
    · rw [show (1 : Int32) = nI 1 from rfl, nI_add]; exact vpn (by omega) (by omega)
    · rw [show (2 : Int32) = nI 2 from rfl, nI_add]; exact vpn (by omega) (by omega)
    · rw [show (3 : Int32) = nI 3 from rfl, nI_add]; exact vpn (by omega) (by omega)
    · rw [show (4 : Int32) = nI 4 from rfl, nI_add]; exact vpn (by omega) (by omega)
    · rw [show (5 : Int32) = nI 5 from rfl, nI_add, show 5 * n + 5 = 5 * (n + 1) by omega]
      exact ih (n + 1) x' y' σ' (by omega) (by omega) hs' hm' hi'
/-- the well at the beginning -/
def S0 : Nat → Nat := sS (sS (sS (sS (sS (sS (sS (fun _ => 0) 0 1000) 1 9) 2 25) 3 400) 4 1200) 6 2000) 7 8000
theorem okS_0 : okS S0 := ⟨⟨by decide, by decide⟩, ⟨by decide, by decide⟩, ⟨by decide, by decide⟩, ⟨by decide, by decide⟩, ⟨by decide, by decide⟩, by decide, by decide, by decide⟩
theorem initW {Q : Wel → Prop} (hk : ∀ u, repW u (anew S0) → Q u) : qX1_init Q := start_ok (S := S0) ⟨rfl, rfl, rfl, rfl, rfl, rfl, rfl, rfl⟩ ⟨rfl, rfl⟩ okS_0 hk
theorem lstart_ok (L : Nat) (hL : L ≤ 2560) (xs : Nat → Int32) : qX2_init (fun x => qX3_init (fun y => ∃ n, lq L xs n 0 x y)) := by
  refine initW (fun u1 h1 => initW (fun u2 h2 => initW (fun u3 h3 => initW (fun u4 h4 => initW (fun u5 h5 => initW (fun u6 h6 => ?_))))))
  have hs : repS (u1, u2, u3, u4, u5, u6, 0, fun _ => 0) (anew S0, [], fun _ => 0) := ⟨h1, rfl, fun j w hj => by simp at hj, fun _ _ => rfl, ⟨h2.flg, h3.flg, h4.flg, h5.flg, h6.flg⟩⟩
  have hi : inv 0 (anew S0, [], fun _ => 0) := ⟨⟨okW_anew okS_0, by rw [phi_anew]; omega⟩, by show (0 : Nat) ≤ 4; omega, fun w hw => by simp at hw⟩
  refine fillM_ok (S := S0) ?_ (fun f hf => ?_)
  · rw [tN0, tN1, tN2, tN3, tN4, tN6, tN7]
    exact upd_sS (upd_sS (upd_sS (upd_sS (upd_sS (upd_sS (upd_sS (fun _ _ => rfl)))))))
  · exact ⟨513, loop_ok hL xs 513 0 _ _ (anew S0, [], fun _ => 0) rfl (by decide) hs ⟨hf, rfl, fun j w hj => by simp at hj, fun _ _ => rfl⟩ hi⟩
