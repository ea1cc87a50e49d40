-- needs: 371
/-! What all saw, of a scene. -/
abbrev seeP (a : Rw) (s : Nat) : Prop := ∀ i, i < a 1 → thC (a (32 + a (44 + i))) s = a (52 + i)
section
variable {G : Gm} {S S' : St} {a m : Rw} {L : Nat → Lw} {I : Im} {un tn : Nat} {u : Un} {T : Nat → Nat} {fl : Nat → Int32} {Q : Int32 → St → Prop}
theorem m_allSee {s : Nat} (hR : Ref G S a L I un u T tn fl m) (hV : Va a) (hs : s < 256) (h1 : seeP a s → Q 1 S) (h0 : ¬ seeP a s → Q 0 S) : f_X11_allSee G 87 (nI s) Q S := by
  have h8 := hV.2.1
  have hS := hR.1.1
  have r1 : S.1 90 ((1 : Int32).toNatClampNeg) = nI (a 1) := hR.1.2.1.2.1
  have s0 : ∀ (n i : Nat), ¬ seeP a s → f_X11_allSee_4_n G 87 (nI s) Q (n + 1) 0 (nI i) S := by
    intro n i hn
    rw [f_X11_allSee_4_n]
    refine ex_y hS.row ⟨inrow (n := 1) hS (by omega), ?_⟩
    exact ite_c (fun _ => ⟨.inl rfl, h0 hn⟩) (fun _ => ite_y rfl ⟨.inl rfl, h0 hn⟩)
  have st : ∀ (n i : Nat), n + i = a 1 → (∀ k, k < i → thC (a (32 + a (44 + k))) s = a (52 + k)) → f_X11_allSee_4_n G 87 (nI s) Q (n + 2) 1 (nI i) S := by
    intro n
    induction n with
    | zero =>
      intro i hi hk
      rw [f_X11_allSee_4_n]
      refine ex_y hS.row ⟨inrow (n := 1) hS (by omega), ?_⟩
      rw [r1]
      refine ite_y (by simp (disch := omega) only [lit, nI_add, pk_mul, leI, ltI, eqI]; omega) ⟨.inr rfl, h1 (fun k hk' => hk k (by omega))⟩
    | succ n ih =>
      intro i hi hk
      rw [f_X11_allSee_4_n]
      refine ex_y hS.row ⟨inrow (n := 1) hS (by omega), ?_⟩
      rw [r1]
      refine ite_n (by simp (disch := omega) only [lit, nI_add, pk_mul, leI, ltI, eqI]; omega) (ite_n (by decide) (ex_y hS.row ?_))
      have by6 := hV.by (i := i) (by omega)
      have as8 := hV.as (i := i) (by omega)
      have tl := thC_lt (x := s) (vG_ok (hV.gl (i := a (44 + i)) by6)) hs
      simp (disch := omega) only [show (68 : Int32) = nI 68 from rfl, show (2 : Int32) = nI 2 from rfl, nI_1, nI_add, pk_mul, clI]
      rw [hR.1.2.1.2.2.2.2.2.2.2.2.2.1 i (by omega)]
      refine ⟨inrow hS (by omega), m_through hS hR.1.2.1 hR.1.2.2.1 hV by6 hs (ex_y hS.row ⟨inrow hS (by omega), ?_⟩)⟩
      rw [show 68 + 2 * i + 1 = 69 + 2 * i from by omega, hR.1.2.1.2.2.2.2.2.2.2.2.2.2 i (by omega)]
      refine ite_c (fun h => ?_) (fun h => ?_)
      · rw [eqI (by omega) (by omega)] at h
        refine ih (i + 1) (by omega) (fun k hk' => ?_)
        by_cases e : k = i
        · rw [e]; exact h
        · exact hk k (by omega)
      · rw [eqI (by omega) (by omega)] at h
        exact s0 _ _ (fun hh => h (hh i (by omega)))
  exact ⟨a 1 + 2, st (a 1) 0 (by omega) (fun k hk => absurd hk (by omega))⟩
end
