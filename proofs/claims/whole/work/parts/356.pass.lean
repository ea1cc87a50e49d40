-- needs: 355
section
variable {G : Gm} {S S' : St} {a m : Rw} {L : Nat → Lw} {I : Im} {un tn : Nat} {u : Un} {T : Nat → Nat} {fl : Nat → Int32} {Q : Int32 → St → Prop} {K : St → Prop}
theorem dyK_s {lo : Option Lw} {v : Nat} : up (dyK lo a v) (8 + v) (dyV lo a (8 + v)) = dyK lo a (v + 1) := by
  funext i
  unfold up dyK
  by_cases e : i = 8 + v
  · rw [if_pos e, if_pos (by omega), e]
  · rw [if_neg e]
    by_cases e2 : 8 ≤ i ∧ i < 8 + v
    · rw [if_pos e2, if_pos (by omega)]
    · rw [if_neg e2, if_neg (by omega)]
theorem m_passIt (hR : Ref G S a L I un u T tn fl m) (hV : Va a) (h9 : a 4 < 999) (z : ∀ S', Ref G S' (dayA (frc a L) a) L I un u T tn fl m → FrA S S' → K S') : f_X11_passIt G 87 K S := by
  have h6 := hV.1
  have s2 : ∀ (n v : Nat) (S1 : St), n + v = 4 * a 0 → Ref G S1 (dyK (frc a L) a v) L I un u T tn fl m → FrA S S1 → (∀ i, i < 4 * a 0 → (S1.1 111 i).toInt = grwA (frc a L) a (i / 4) (i % 4)) → f_X11_passIt_38_n G 87 K (n + 1) (nI v) S1 := by
    intro n
    induction n with
    | zero =>
      intro v S1 hv hR1 o1 hg
      have hv : v = 4 * a 0 := by omega
      subst hv
      rw [f_X11_passIt_38_n]
      have hS := hR1.1.1
      have e0 : S1.1 90 ((0 : Int32).toNatClampNeg) = nI (a 0) := hR1.1.2.1.1
      have e4 : S1.1 90 ((4 : Int32).toNatClampNeg) = nI (a 4) := hR1.1.2.1.2.2.2.2.1 0 (by omega)
      refine ex_y hS.row ⟨inrow (n := 0) hS (by omega), ?_⟩
      rw [e0]
      refine ite_y (by rw [lit, pk_mul, leI (by omega) (by omega)]; omega) (ex_y hS.row ⟨inrow (n := 4) hS (by omega), inrow (n := 4) hS (by omega), nm_e ?_⟩)
      rw [e4, nI_1]
      exact z _ (hR1.set (i := 4) (x := 4) (by unfold posR; omega) (by omega)) (o1.pu (by omega))
    | succ n ih =>
      intro v S1 hv hR1 o1 hg
      rw [f_X11_passIt_38_n]
      have hS := hR1.1.1
      have e0 : S1.1 90 ((0 : Int32).toNatClampNeg) = nI (a 0) := hR1.1.2.1.1
      have ev : S1.1 90 (8 + v) = nI (a (8 + v)) := by rw [hR1.1.2.1.2.2.2.2.2.1 v (by omega)]; congr 1; exact if_neg (by omega)
      refine ex_y hS.row ⟨inrow (n := 0) hS (by omega), ?_⟩
      rw [e0]
      refine ite_n (by rw [lit, pk_mul, leI (by omega) (by omega)]; omega) (ex_y hS.row (ex_y hS.row ?_))
      rw [show (8 : Int32) + nI v = nI (8 + v) from by rw [lit, nI_add], clI (by omega), clI (by omega), ev]
      refine ⟨inrow hS (by omega), ex_y hS.grows ⟨by rw [hS.grows_l, in_iff (by omega)]; omega, ?_⟩⟩
      have s8 := hV.sin (i := v) (by omega)
      have gg := hg v (by omega)
      have gb := grwA_le (lo := frc a L) (a := a) (j := v / 4) (k := v % 4)
      refine m_within (fun r hr => ⟨inrow hS (by omega), nm_e ?_⟩) (by decide)
      have er : r = nI (dyV (frc a L) a (8 + v)) := by
        have dl := dyV_le (lo := frc a L) (a := a) (i := 8 + v)
        refine i32n (by omega) ?_
        rw [hr, i32_64, add_i, nI_toInt (by omega), gg]
        · unfold dyV
          rw [show 8 + v - 8 = v from by omega]
          have e8 : (8 : Int32).toInt = 8 := rfl
          have e00 : (0 : Int32).toInt = 0 := rfl
          rw [e8, e00]; omega
        all_goals rw [nI_toInt (by omega), gg]; omega
      rw [er, nI_1]
      have hR2 := hR1.set (i := 8 + v) (v := dyV (frc a L) a (8 + v)) (x := 8 + v) (by unfold posR; omega) (by omega)
      rw [dyK_s] at hR2
      exact ih (v + 1) _ (by omega) hR2 (o1.pu (by omega)) (fun i hi => by rw [uI_n _ _ _ _ (by omega)]; exact hg i hi)
  have s1 : ∀ (n v : Nat) (S1 : St), n + v = 4 * a 0 → Ref G S1 a L I un u T tn fl m → FrA S S1 → (∀ i, i < v → (S1.1 111 i).toInt = grwA (frc a L) a (i / 4) (i % 4)) → f_X11_passIt_2_n G 87 K (n + 1) (nI v) S1 := by
    intro n
    induction n with
    | zero =>
      intro v S1 hv hR1 o1 hg
      have hv : v = 4 * a 0 := by omega
      subst hv
      rw [f_X11_passIt_2_n]
      have hS := hR1.1.1
      have e0 : S1.1 90 ((0 : Int32).toNatClampNeg) = nI (a 0) := hR1.1.2.1.1
      refine ex_y hS.row ⟨inrow (n := 0) hS (by omega), ?_⟩
      rw [e0]
      refine ite_y (by rw [lit, pk_mul, leI (by omega) (by omega)]; omega) ⟨4 * a 0 + 1, s2 (4 * a 0) 0 S1 (by omega) ?_ o1 hg⟩
      have e : dyK (frc a L) a 0 = a := by funext i; exact if_neg (by omega)
      rw [e]; exact hR1
    | succ n ih =>
      intro v S1 hv hR1 o1 hg
      rw [f_X11_passIt_2_n]
      have hS := hR1.1.1
      have e0 : S1.1 90 ((0 : Int32).toNatClampNeg) = nI (a 0) := hR1.1.2.1.1
      refine ex_y hS.row ⟨inrow (n := 0) hS (by omega), ?_⟩
      rw [e0]
      refine ite_n (by rw [lit, pk_mul, leI (by omega) (by omega)]; omega) (ex_y hS.grows ?_)
      rw [show (4 : Int32) = nI 4 from rfl, rmI (by omega) (by omega) (by omega), dvI (by omega) (by omega) (by omega)]
      refine m_growsOf (hR1.rfp hV) (by omega) (by omega) (fun S2 r hr f2 => ⟨by rw [hS.grows_l, in_iff (by omega)]; omega, nm_e ?_⟩)
      rw [clI (by omega), nI_1]
      have hR2 := hR1.frR f2
      refine ih (v + 1) _ (by omega) (hR2.ag (fun k hk => by rw [uI_n _ _ _ _ (by omega)]) (fun i hi => uI_n _ _ _ _ (by omega)) (fun _ _ => rfl) rfl) ((o1.trans f2.toA).pu (by omega)) (fun i hi => ?_)
      rw [uI_s]
      by_cases e : i = v
      · rw [if_pos e, e]; exact hr
      · rw [if_neg e, f2.2.1 111 (by omega)]; exact hg i (by omega)
  exact ⟨4 * a 0 + 1, s1 (4 * a 0) 0 S (by omega) hR (FrA.refl S) (fun i hi => absurd hi (by omega))⟩
theorem m_passNow {j k y : Int32} (hR : Ref G S a L I un u T tn fl m) (hV : Va a) (hu : un ≤ 16)
    (h1 : ∀ n, actA (frc a L) a 4 j k y = .inl n → Q (-(nI n)) S)
    (h2 : ∀ r b, actA (frc a L) a 4 j k y = .inr (r, b) → ∀ S', Ref G S' b L I (min 16 (un + 1)) (psh (4, a) u) T tn fl m → FrA S S' → Q (nI r) S') : f_X11_passNow G 87 Q S := by
  have h4 := hV.2.2.2.2.1
  have e4 : S.1 90 ((4 : Int32).toNatClampNeg) = nI (a 4) := hR.1.2.1.2.2.2.2.1 0 (by omega)
  refine ex_y hR.1.1.row ⟨inrow (n := 4) hR.1.1 (by omega), ?_⟩
  rw [e4]
  by_cases h9 : a 4 < 999
  · refine ite_n (by rw [lit, eqI (by omega) (by omega)]; omega) (m_remember (v := 4) hR hu (fun S1 hR1 o1 => m_passIt hR1 hV h9 (fun S2 hR2 o2 => ex_y hR2.1.1.row ⟨inrow (n := 4) hR2.1.1 (by omega), ?_⟩)))
    have e4' : S2.1 90 ((4 : Int32).toNatClampNeg) = nI (a 4 + 1) := by rw [show S2.1 90 ((4 : Int32).toNatClampNeg) = nI (dayA (frc a L) a 4) from hR2.1.2.1.2.2.2.2.1 0 (by omega)]; congr 1
    rw [e4']
    exact h2 _ _ (by unfold actA; rw [if_neg (by omega), if_neg (by omega), if_neg (by omega), if_neg (by omega), if_pos h9]) S2 hR2 (o1.trans o2)
  · refine ite_y (by rw [lit, eqI (by omega) (by omega)]; omega) (h1 3 (by unfold actA; rw [if_neg (by omega), if_neg (by omega), if_neg (by omega), if_neg (by omega), if_neg h9]))
/-- what a deed keeps -/
theorem actA_ok {lo : Option Lw} {v : Nat} {j k y : Int32} {r : Nat} {b : Rw} (hV : Va a) (h : actA lo a v j k y = .inr (r, b)) : Va b ∧ r ≤ 1000 ∧ (∀ i, i < 4 ∨ (5 ≤ i ∧ i < 8) ∨ 38 ≤ i → b i = a i) := by
  have h6 := hV.1
  have ixl : ∀ {j : Int32}, prI a j → ix j < a 0 := by intro j h; unfold prI at h; unfold ix; omega
  unfold actA at h
  split at h
  · split at h; · cases h
    split at h; · cases h
    split at h; · cases h
    split at h
    · rename_i c1 c2 c3 c4
      have i1 := ixl (Decidable.not_not.mp c3)
      have i2 : ix k < 4 := by unfold ix; omega
      simp only [Sum.inr.injEq, Prod.mk.injEq] at h
      obtain ⟨rfl, rfl⟩ := h
      exact ⟨hV.ups (by omega), by omega, fun i hi => up_n a (by omega)⟩
    · cases h
  split at h
  · split at h; · cases h
    split at h; · cases h
    rename_i c1 c2 c3 c4
    have i1 := ixl (Decidable.not_not.mp c3)
    simp only [Sum.inr.injEq, Prod.mk.injEq] at h
    obtain ⟨rfl, rfl⟩ := h
    have := gn_le (glsA lo a (ix j))
    exact ⟨hV.ups (.inr (.inr (.inr (.inr (.inr (.inl ⟨by omega, by omega, glsA_v⟩)))))), by omega, fun i hi => up_n a (by omega)⟩
  split at h
  · split at h; · cases h
    split at h; · cases h
    split at h; · cases h
    rename_i c1 c2 c3 c4 c5 c6
    have i1 := ixl (Decidable.not_not.mp c5)
    have i2 := ixl (Decidable.not_not.mp c6)
    simp only [Sum.inr.injEq, Prod.mk.injEq] at h
    obtain ⟨rfl, rfl⟩ := h
    have := gn_le (a (32 + ix j))
    have := gn_le (a (32 + ix k))
    exact ⟨(hV.ups (.inr (.inr (.inr (.inr (.inr (.inl ⟨by omega, by omega, hV.gl (by omega)⟩))))))).ups (.inr (.inr (.inr (.inr (.inr (.inl ⟨by omega, by omega, hV.gl (by omega)⟩)))))), by omega, fun i hi => by rw [up_n _ (by omega), up_n _ (by omega)]⟩
  split at h
  · split at h; · cases h
    split at h; · cases h
    rename_i c1 c2 c3 c4 c5 c6
    have i1 := ixl (Decidable.not_not.mp c5)
    simp only [Sum.inr.injEq, Prod.mk.injEq] at h
    obtain ⟨rfl, rfl⟩ := h
    have := gn_le (a (32 + ix j))
    exact ⟨hV.ups (.inr (.inr (.inr (.inr (.inr (.inl ⟨by omega, by omega, vG_0⟩)))))), by omega, fun i hi => up_n a (by omega)⟩
  split at h
  · rename_i c9
    simp only [Sum.inr.injEq, Prod.mk.injEq] at h
    obtain ⟨rfl, rfl⟩ := h
    have o : ∀ i, i < 4 ∨ (5 ≤ i ∧ i < 8) ∨ 32 ≤ i → dayA lo a i = a i := fun i hi => by
      unfold dayA; rw [up_n _ (by omega)]; exact if_neg (by omega)
    obtain ⟨h0, h1, h2, h3, h4, h5, h6, h7, h8, h9, h10, h11, h12, h13⟩ := hV
    refine ⟨⟨?_, ?_, ?_, ?_, ?_, ?_, ?_, ?_, fun k hk => ?_, fun k hk => ?_, fun k hk => ?_, fun k hk => ?_, fun k hk => ?_, fun k hk => ?_⟩, by omega, fun i hi => o i (by omega)⟩
    · rw [o _ (by omega)]; exact h0
    · rw [o _ (by omega)]; exact h1
    · rw [o _ (by omega)]; exact h2
    · rw [o _ (by omega), o _ (by omega)]; exact h3
    · rw [show dayA lo a 4 = a 4 + 1 from up_s _ _ _]; omega
    · rw [o _ (by omega)]; exact h5
    · rw [o _ (by omega)]; exact h6
    · rw [o _ (by omega)]; exact h7
    · unfold dayA; rw [up_n _ (by omega)]; unfold dyK; split
      · exact dyV_le
      · exact h8 k hk
    · rw [o _ (by omega)]; exact h9 k hk
    · rw [o _ (by omega)]; exact h10 k hk
    · rw [o _ (by omega)]; exact h11 k hk
    · rw [o _ (by omega)]; exact h12 k hk
    · rw [o _ (by omega)] at hk; rw [o _ (by omega), o _ (by omega)]; exact h13 k hk
  · cases h
end
