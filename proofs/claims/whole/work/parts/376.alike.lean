-- needs: 375
/-! How many scenes look alike to one. -/
def akC (a : Rw) (g : Nat) : Nat → Nat → Nat
  | 0, _ => 0
  | s + 1, x => akC a g s x + (if seeP a s ∧ thC g s = x then 1 else 0)
def akM (a : Rw) (g : Nat) : Nat → Nat
  | 0 => 0
  | s + 1 => if seeP a s then max (akM a g s) (akC a g (s + 1) (thC g s)) else akM a g s
theorem akC_le (a : Rw) (g x : Nat) : ∀ s, akC a g s x ≤ s := by
  intro s
  induction s with
  | zero => exact Nat.le_refl 0
  | succ s ih => rw [akC]; split <;> omega
theorem akM_le (a : Rw) (g : Nat) : ∀ s, akM a g s ≤ s := by
  intro s
  induction s with
  | zero => exact Nat.le_refl 0
  | succ s ih =>
    rw [akM]
    have := akC_le a g (thC g s) (s + 1)
    split <;> omega
section
variable {G : Gm} {S S' : St} {a m : Rw} {L : Nat → Lw} {I : Im} {un tn : Nat} {u : Un} {T : Nat → Nat} {fl : Nat → Int32} {Q : Int32 → St → Prop} {K : Gm → St → Prop}
theorem m_mostAlike {j : Nat} (hR : Ref G S a L I un u T tn fl m) (hV : Va a) (hj : j < 6) (z : ∀ S', Ref G S' a L I un u T tn fl m → OffC S S' → Q (nI (akM a (a (32 + j)) 256)) S') : f_X11_mostAlike G 87 (nI j) Q S := by
  have rf : ∀ {S1 : St}, S1.2 = S.2 → (∀ i, i ≠ 113 → S1.1 i = S.1 i) → Ref G S1 a L I un u T tn fl m ∧ OffC S S1 := fun e1 e2 => ⟨hR.ag (fun k _ => by rw [e2 87 (by omega)]) (fun i hi => e2 i (by omega)) (fun i _ => by rw [e1]) (by rw [e1]), ⟨by rw [e1], fun i hi => ⟨e2 i (by omega), by rw [e1]⟩⟩⟩
  have hS := hR.1.1
  have s2 : ∀ (n s : Nat) (S1 : St), n + s = 256 → S1.2 = S.2 → (∀ i, i ≠ 113 → S1.1 i = S.1 i) → (∀ x, x < 256 → S1.1 113 x = nI (akC a (a (32 + j)) s x)) → f_X11_mostAlike_26_n G 87 (nI j) Q (n + 1) (nI (akM a (a (32 + j)) s)) (nI s) S1 := by
    intro n
    induction n with
    | zero =>
      intro s S1 hs e1 e2 e3
      have hs : s = 256 := by omega
      subst hs
      rw [f_X11_mostAlike_26_n]
      exact ite_y (by simp (disch := omega) only [lit, nI_add, pk_mul, leI, ltI, eqI]; omega) (z S1 (rf e1 e2).1 (rf e1 e2).2)
    | succ n ih =>
      intro s S1 hs e1 e2 e3
      rw [f_X11_mostAlike_26_n, nI_1]
      obtain ⟨hR1, o1⟩ := rf e1 e2
      have hS1 := hR1.1.1
      have tl := thC_lt (x := s) (vG_ok (hV.gl hj)) (by omega)
      have cl := akC_le a (a (32 + j)) (thC (a (32 + j)) s) s
      have ml := akM_le a (a (32 + j)) s
      refine ite_n (by simp (disch := omega) only [lit, nI_add, pk_mul, leI, ltI, eqI]; omega) (m_allSee hR1 hV (by omega) (fun p => ite_n (by decide) ?_) (fun p => ite_y rfl ?_))
      · refine m_through hS1 hR1.1.2.1 hR1.1.2.2.1 hV hj (by omega) (ex_y hS1.alikes ?_)
        have i113 : vp_in (nI (thC (a (32 + j)) s)) (G.2.1 113) := by rw [hS1.alikes_l, in_iff (by omega)]; exact tl
        rw [clI (by omega), e3 _ tl, nI_1]
        refine ⟨i113, i113, nm_e (ex_y hS1.alikes ⟨i113, ?_⟩)⟩
        rw [uI_s, if_pos rfl]
        have e3' : ∀ x, x < 256 → (uI S1 113 (thC (a (32 + j)) s) (nI (akC a (a (32 + j)) s (thC (a (32 + j)) s) + 1))).1 113 x = nI (akC a (a (32 + j)) (s + 1) x) := by
          intro x hx
          rw [uI_s, akC]
          by_cases e : x = thC (a (32 + j)) s
          · rw [if_pos e, if_pos ⟨p, e.symm⟩, e]
          · rw [if_neg e, if_neg (fun c => e c.2.symm), Nat.add_zero]; exact e3 x hx
        have w := ih (s + 1) (uI S1 113 (thC (a (32 + j)) s) (nI (akC a (a (32 + j)) s (thC (a (32 + j)) s) + 1))) (by omega) e1 (fun i hi => by rw [uI_n _ _ _ _ hi]; exact e2 i hi) e3'
        rw [akM, if_pos p, akC, if_pos ⟨p, rfl⟩] at w
        refine ite_c (fun h => ?_) (fun h => ?_)
        · rw [leI (by omega) (by omega)] at h
          rw [Nat.max_eq_left h] at w; exact w
        · rw [leI (by omega) (by omega)] at h
          rw [Nat.max_eq_right (by omega)] at w
          exact ex_y hS1.alikes ⟨i113, nm_p (by rw [uI_s, if_pos rfl]) w⟩
      · have w := ih (s + 1) S1 (by omega) e1 e2 (fun x hx => by rw [akC, if_neg (fun c => p c.1), Nat.add_zero]; exact e3 x hx)
        rw [akM, if_neg p] at w; exact w
  have s1 : ∀ (n s : Nat) (S1 : St), n + s = 256 → S1.2 = S.2 → (∀ i, i ≠ 113 → S1.1 i = S.1 i) → (∀ x, x < s → S1.1 113 x = 0) → f_X11_mostAlike_2_n G 87 (nI j) Q (n + 1) (nI s) S1 := by
    intro n
    induction n with
    | zero =>
      intro s S1 hs e1 e2 e3
      have hs : s = 256 := by omega
      subst hs
      rw [f_X11_mostAlike_2_n]
      exact ite_y (by simp (disch := omega) only [lit, nI_add, pk_mul, leI, ltI, eqI]; omega) ⟨257, s2 256 0 S1 (by omega) e1 e2 (fun x hx => by rw [e3 x hx]; rfl)⟩
    | succ n ih =>
      intro s S1 hs e1 e2 e3
      rw [f_X11_mostAlike_2_n, nI_1]
      refine ite_n (by simp (disch := omega) only [lit, nI_add, pk_mul, leI, ltI, eqI]; omega) (ex_y (by rw [e1]; exact hS.alikes) ⟨by rw [hS.alikes_l, in_iff (by omega)]; omega, nm_e (ih (s + 1) _ (by omega) e1 (fun i hi => by rw [uI_n _ _ _ _ hi]; exact e2 i hi) (fun x hx => ?_))⟩)
      rw [clI (by omega), uI_s]
      by_cases e : x = s
      · rw [if_pos e]
      · rw [if_neg e]; exact e3 x (by omega)
  exact ⟨257, s1 256 0 S (by omega) rfl (fun _ _ => rfl) (fun x hx => absurd hx (by omega))⟩
end
