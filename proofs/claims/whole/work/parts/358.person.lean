-- needs: 357
/-! person, saw, forget, end. -/
def newP (a : Rw) (q : Nat → Nat) : Rw := fun i => if i = 0 then a 0 + 1 else if 8 + 4 * a 0 ≤ i ∧ i < 12 + 4 * a 0 then q (i - (8 + 4 * a 0)) else if i = 32 + a 0 ∨ i = 38 + a 0 then 0 else a i
section
variable {G : Gm} {S S' : St} {p : Nat} {a m : Rw} {L : Nat → Lw} {I : Im} {un tn : Nat} {u : Un} {T : Nat → Nat} {fl : Nat → Int32} {Q : Int32 → St → Prop} {K : Gm → St → Prop}
theorem Va.p1 (hV : Va a) (h6 : a 0 < 6) : Va (up a 0 (a 0 + 1)) := by
  obtain ⟨h0, h1, h2, h3, h4, h5, h6', h7, h8, h9, h10, h11, h12, h13⟩ := hV
  have z : ∀ i, i ≠ 0 → up a 0 (a 0 + 1) i = a i := fun i hi => up_n a hi
  refine ⟨?_, ?_, ?_, ?_, ?_, ?_, ?_, ?_, fun k hk => ?_, fun k hk => ?_, fun k hk => ?_, fun k hk => ?_, fun k hk => ?_, fun k hk => ?_⟩
  · rw [up_s]; omega
  · rw [z _ (by omega)]; exact h1
  · rw [z _ (by omega)]; exact h2
  · rw [z _ (by omega), z _ (by omega)]; exact h3
  · rw [z _ (by omega)]; exact h4
  · rw [z _ (by omega)]; exact h5
  · rw [z _ (by omega)]; exact h6'
  · rw [z _ (by omega)]; exact h7
  · rw [z _ (by omega)]; exact h8 k hk
  · rw [z _ (by omega)]; exact h9 k hk
  · rw [z _ (by omega)]; exact h10 k hk
  · rw [z _ (by omega)]; exact h11 k hk
  · rw [z _ (by omega)]; exact h12 k hk
  · rw [z _ (by omega)] at hk; rw [z _ (by omega), up_s]; have := h13 k hk; omega
theorem Va.ug {j g : Nat} (hV : Va a) (hj : j < 6) (hg : vG g) : Va (up a (32 + j) g) := hV.ups (.inr (.inr (.inr (.inr (.inr (.inl ⟨by omega, by omega, hg⟩))))))
theorem newP_e {q : Nat → Nat} : up (up (up (up (up (up (up a 0 (a 0 + 1)) (8 + (4 * a 0 + 0)) (q 0)) (8 + (4 * a 0 + 1)) (q 1)) (8 + (4 * a 0 + 2)) (q 2)) (8 + (4 * a 0 + 3)) (q 3)) (32 + a 0) 0) (38 + a 0) 0 = newP a q ∨ 6 ≤ a 0 := by
  by_cases h : 6 ≤ a 0
  · exact .inr h
  refine .inl ?_
  funext i
  unfold newP
  by_cases e0 : i = 0
  · rw [if_pos e0, up_n _ (by omega), up_n _ (by omega), up_n _ (by omega), up_n _ (by omega), up_n _ (by omega), up_n _ (by omega), e0, up_s]
  rw [if_neg e0]
  by_cases e1 : 8 + 4 * a 0 ≤ i ∧ i < 12 + 4 * a 0
  · rw [if_pos e1, up_n _ (by omega), up_n _ (by omega)]
    have e : i = 8 + (4 * a 0 + 0) ∨ i = 8 + (4 * a 0 + 1) ∨ i = 8 + (4 * a 0 + 2) ∨ i = 8 + (4 * a 0 + 3) := by omega
    rcases e with e | e | e | e
    · rw [up_n _ (by omega), up_n _ (by omega), up_n _ (by omega), e, up_s]; congr 1; omega
    · rw [up_n _ (by omega), up_n _ (by omega), e, up_s]; congr 1; omega
    · rw [up_n _ (by omega), e, up_s]; congr 1; omega
    · rw [e, up_s]; congr 1; omega
  · rw [if_neg e1]
    by_cases e2 : i = 38 + a 0
    · rw [if_pos (.inr e2), e2, up_s]
    rw [up_n _ e2]
    by_cases e3 : i = 32 + a 0
    · rw [if_pos (.inl e3), e3, up_s]
    rw [up_n _ e3, if_neg (by omega), up_n _ (by omega), up_n _ (by omega), up_n _ (by omega), up_n _ (by omega), up_n _ (by omega)]
theorem newP_v {q : Nat → Nat} (hV : Va a) (h6 : a 0 < 6) (hq : ∀ k, k < 4 → q k ≤ 8) : Va (newP a q) := by
  have e := (newP_e (a := a) (q := q)).resolve_right (by omega)
  rw [← e]
  have q0 := hq 0 (by omega); have q1 := hq 1 (by omega); have q2 := hq 2 (by omega); have q3 := hq 3 (by omega)
  exact (((((((hV.p1 h6).ups (by omega)).ups (by omega)).ups (by omega)).ups (by omega)).ug h6 vG_0).ups (by omega))
theorem c_addPerson (hH : PSh G S.2.2 p) (hP : ParC S p a) (hV : Va a) (h6 : a 0 < 6) (z : ∀ S', Fr (fun i => i = p ∨ i = p + 1 ∨ i = p + 2 ∨ i = p + 3) S S' → ParC S' p (newP a (fun _ => 0)) → Q (nI (a 0)) S') : f_X5_addPerson G p Q S := by
  unfold f_X5_addPerson
  rw [hP.1]
  refine ite_y (by rw [lit, ltI (by omega) (by omega)]; exact h6) (nm_e (nm_e ?_))
  rw [nI_1]
  have hP0 := hP.set (q := p) (i := 0) (v := a 0 + 1) (x := 0) (by unfold pos; omega)
  have hV0 := hV.p1 h6
  have st : ∀ {n k : Nat} {b : Rw} {S1 : St}, k < 4 → PSh G S1.2.2 p → ParC S1 p b → Va b → b 0 = a 0 + 1 → f_X5_addPerson_28_n G p (nI (a 0)) Q n (nI (k + 1)) (uI S1 (p + 1) (4 * a 0 + k) (nI 0)) → f_X5_addPerson_28_n G p (nI (a 0)) Q (n + 1) (nI k) S1 := by
    intro n k b S1 hk hH1 hP1 hV1 hb w
    rw [f_X5_addPerson_28_n, nI_1]
    refine ite_n (by simp (disch := omega) only [lit, nI_add, pk_mul, leI, ltI, eqI]; omega) (c_setSin hH1 hP1 hV1 (by omega) hk ?_)
    rw [show mx 0 (mn 8 (0 : Int32)) = nI 0 from rfl]; exact w
  refine ⟨5, ?_⟩
  have hP1 := hP0.set (q := p + 1) (i := 4 * a 0 + 0) (v := 0) (x := 8 + (4 * a 0 + 0)) (by unfold pos; omega)
  have hV1 : Va (up (up a 0 (a 0 + 1)) (8 + (4 * a 0 + 0)) 0) := hV0.ups (by omega)
  have hP2 := hP1.set (q := p + 1) (i := 4 * a 0 + 1) (v := 0) (x := 8 + (4 * a 0 + 1)) (by unfold pos; omega)
  have hV2 : Va (up (up (up a 0 (a 0 + 1)) (8 + (4 * a 0 + 0)) 0) (8 + (4 * a 0 + 1)) 0) := hV1.ups (by omega)
  have hP3 := hP2.set (q := p + 1) (i := 4 * a 0 + 2) (v := 0) (x := 8 + (4 * a 0 + 2)) (by unfold pos; omega)
  have hV3 : Va (up (up (up (up a 0 (a 0 + 1)) (8 + (4 * a 0 + 0)) 0) (8 + (4 * a 0 + 1)) 0) (8 + (4 * a 0 + 2)) 0) := hV2.ups (by omega)
  have hP4 := hP3.set (q := p + 1) (i := 4 * a 0 + 3) (v := 0) (x := 8 + (4 * a 0 + 3)) (by unfold pos; omega)
  have hV4 : Va (up (up (up (up (up a 0 (a 0 + 1)) (8 + (4 * a 0 + 0)) 0) (8 + (4 * a 0 + 1)) 0) (8 + (4 * a 0 + 2)) 0) (8 + (4 * a 0 + 3)) 0) := hV3.ups (by omega)
  refine st (n := 4) (k := 0) (by omega) hH hP0 hV0 (up_s _ _ _) (st (n := 3) (k := 1) (by omega) hH hP1 hV1 (by rw [up_n _ (by omega), up_s]) (st (n := 2) (k := 2) (by omega) hH hP2 hV2 (by rw [up_n _ (by omega), up_n _ (by omega), up_s]) (st (n := 1) (k := 3) (by omega) hH hP3 hV3 (by rw [up_n _ (by omega), up_n _ (by omega), up_n _ (by omega), up_s]) ?_)))
  have b0 : (up (up (up (up (up a 0 (a 0 + 1)) (8 + (4 * a 0 + 0)) 0) (8 + (4 * a 0 + 1)) 0) (8 + (4 * a 0 + 2)) 0) (8 + (4 * a 0 + 3)) 0) 0 = a 0 + 1 := by rw [up_n _ (by omega), up_n _ (by omega), up_n _ (by omega), up_n _ (by omega), up_s]
  rw [f_X5_addPerson_28_n]
  refine ite_y (by simp (disch := omega) only [lit, nI_add, pk_mul, leI, ltI, eqI]; omega) (c_setGlass (by exact hH) hP4 hV4 (by omega) ?_)
  have hP5 := hP4.set (q := p + 2) (i := a 0) (v := 0) (x := 32 + a 0) (by unfold pos; omega)
  refine c_setWanted (by exact hH) hP5 (hV4.ug h6 vG_0) (by rw [up_n _ (by omega)]; omega) ?_
  have hP6 := hP5.set (q := p + 3) (i := a 0) (v := 0) (x := 38 + a 0) (by unfold pos; omega)
  rw [(newP_e (a := a) (q := fun _ => 0)).resolve_right (by omega)] at hP6
  refine z _ (Fr.uI (Fr.uI (Fr.uI (Fr.uI (Fr.uI (Fr.uI (Fr.uI (Fr.refl S) (by omega)) (by omega)) (by omega)) (by omega)) (by omega)) (by omega)) (by omega)) hP6
/-- the reference takes one in -/
theorem m_come1_full {x1 x2 x3 x4 : Nat} (hR : Ref G S a L I un u T tn fl m) (h1 : x1 ≤ 8) (h2 : x2 ≤ 8) (h3 : x3 ≤ 8) (h4 : x4 ≤ 8) (h6 : a 0 = 6) (z : Q (-5) S) : f_X11_come1 G 87 (nI x1) (nI x2) (nI x3) (nI x4) Q S := by
  refine m_in_y (l := 0) (h := 8) (by omega) rfl rfl (by omega) h1 (ite_n (by decide) (m_in_y (l := 0) (h := 8) (by omega) rfl rfl (by omega) h2 (ite_n (by decide) (m_in_y (l := 0) (h := 8) (by omega) rfl rfl (by omega) h3 (ite_n (by decide) (m_in_y (l := 0) (h := 8) (by omega) rfl rfl (by omega) h4 (ite_n (by decide) ?_)))))))
  have e0 : S.1 90 ((0 : Int32).toNatClampNeg) = nI (a 0) := hR.1.2.1.1
  exact ex_y hR.1.1.row ⟨inrow (n := 0) hR.1.1 (by omega), nm_p e0 (ite_y (by rw [h6]; rfl) z)⟩
theorem m_come1 {x1 x2 x3 x4 : Nat} {q : Nat → Nat} (hR : Ref G S a L I un u T tn fl m) (h1 : x1 ≤ 8) (h2 : x2 ≤ 8) (h3 : x3 ≤ 8) (h4 : x4 ≤ 8) (q0 : q 0 = x1) (q1 : q 1 = x2) (q2 : q 2 = x3) (q3 : q 3 = x4) (h6 : a 0 < 6) (z : ∀ S', Ref G S' (newP a q) L I un u T tn fl m → OffC S S' → (∀ i, i ≠ 90 → S'.1 i = S.1 i) → S'.2 = S.2 → Q (nI (a 0)) S') : f_X11_come1 G 87 (nI x1) (nI x2) (nI x3) (nI x4) Q S := by
  refine m_in_y (l := 0) (h := 8) (by omega) rfl rfl (by omega) h1 (ite_n (by decide) (m_in_y (l := 0) (h := 8) (by omega) rfl rfl (by omega) h2 (ite_n (by decide) (m_in_y (l := 0) (h := 8) (by omega) rfl rfl (by omega) h3 (ite_n (by decide) (m_in_y (l := 0) (h := 8) (by omega) rfl rfl (by omega) h4 (ite_n (by decide) ?_)))))))
  have hS := hR.1.1
  have e0 : S.1 90 ((0 : Int32).toNatClampNeg) = nI (a 0) := hR.1.2.1.1
  refine ex_y hS.row ⟨inrow (n := 0) hS (by omega), nm_p e0 (ite_n (by rw [lit, eqI (by omega) (by omega)]; omega) (ex_y hS.row ?_))⟩
  simp (disch := omega) only [show (8 : Int32) = nI 8 from rfl, show (4 : Int32) = nI 4 from rfl, show (3 : Int32) = nI 3 from rfl, show (2 : Int32) = nI 2 from rfl, nI_1, nI_add, pk_mul, clI]
  refine ⟨inrow hS (by omega), nm_e (ex_y hS.row ⟨inrow hS (by omega), nm_e (ex_y hS.row ⟨inrow hS (by omega), nm_e (ex_y hS.row ⟨inrow hS (by omega), nm_e ?_⟩)⟩)⟩)⟩
  have g1 := hR.set (i := 8 + 4 * a 0) (v := x1) (x := 8 + (4 * a 0 + 0)) (by unfold posR; omega) (by omega)
  have g2 := g1.set (i := 8 + 4 * a 0 + 1) (v := x2) (x := 8 + (4 * a 0 + 1)) (by unfold posR; omega) (by omega)
  have g3 := g2.set (i := 8 + 4 * a 0 + 2) (v := x3) (x := 8 + (4 * a 0 + 2)) (by unfold posR; omega) (by omega)
  have g4 := g3.set (i := 8 + 4 * a 0 + 3) (v := x4) (x := 8 + (4 * a 0 + 3)) (by unfold posR; omega) (by omega)
  have o4 : ∀ i, i ≠ 90 → (uI (uI (uI (uI S 90 (8 + 4 * a 0) (nI x1)) 90 (8 + 4 * a 0 + 1) (nI x2)) 90 (8 + 4 * a 0 + 2) (nI x3)) 90 (8 + 4 * a 0 + 3) (nI x4)).1 i = S.1 i := fun i hi => by rw [uI_n _ _ _ _ hi, uI_n _ _ _ _ hi, uI_n _ _ _ _ hi, uI_n _ _ _ _ hi]
  have o5 : (uI (uI (uI (uI S 90 (8 + 4 * a 0) (nI x1)) 90 (8 + 4 * a 0 + 1) (nI x2)) 90 (8 + 4 * a 0 + 2) (nI x3)) 90 (8 + 4 * a 0 + 3) (nI x4)).2 = S.2 := rfl
  generalize uI (uI (uI (uI S 90 (8 + 4 * a 0) (nI x1)) 90 (8 + 4 * a 0 + 1) (nI x2)) 90 (8 + 4 * a 0 + 2) (nI x3)) 90 (8 + 4 * a 0 + 3) (nI x4) = S4 at g4 o4 o5 ⊢
  have key : newP a q = up (up (up (up (up (up (up a (8 + (4 * a 0 + 0)) x1) (8 + (4 * a 0 + 1)) x2) (8 + (4 * a 0 + 2)) x3) (8 + (4 * a 0 + 3)) x4) (32 + a 0) 0) (38 + a 0) 0) 0 (a 0 + 1) := by
    rw [← (newP_e (a := a) (q := q)).resolve_right (by omega), q0, q1, q2, q3]
    funext i
    unfold up
    by_cases e : i = 0
    · rw [if_neg (by omega), if_neg (by omega), if_neg (by omega), if_neg (by omega), if_neg (by omega), if_neg (by omega), if_pos e, if_pos e]
    · simp only [e, if_false]
  generalize hb : up (up (up (up a (8 + (4 * a 0 + 0)) x1) (8 + (4 * a 0 + 1)) x2) (8 + (4 * a 0 + 2)) x3) (8 + (4 * a 0 + 3)) x4 = b at g4 key
  have st : ∀ (n k : Nat) (S1 : St), n + k = 5 → S1.2 = S4.2 → (∀ i, i ≠ 90 → S1.1 i = S4.1 i) → (∀ i, (i < 32 + 5 * a 0 ∨ 32 + 5 * a 0 + 5 ≤ i) → S1.1 90 i = S4.1 90 i) → (∀ i, i < k → S1.1 90 (32 + 5 * a 0 + i) = 0) → f_X11_come1_131_n G 87 (nI (a 0)) Q (n + 1) (nI k) S1 := by
    intro n
    induction n with
    | zero =>
      intro k S1 hk e1 e2 e3 e4
      have hk : k = 5 := by omega
      subst hk
      rw [f_X11_come1_131_n]
      have hR1 : Ref G S1 (up b (32 + a 0) 0) L I un u T tn fl m := g4.row1 (g4.1.2.1.setG h6 e3 (e4 0 (by omega)) (fun i hi => by rw [show 33 + 5 * a 0 + i = 32 + 5 * a 0 + (i + 1) from by omega, e4 (i + 1) (by omega), gk_big (by rw [gn_0]; omega)]; rfl)) (up_n _ (by omega)) (fun i hi => e3 i (by omega)) e2 e1
      have hR2 := hR1.set (i := 62 + a 0) (v := 0) (x := 38 + a 0) (by unfold posR; omega) (by omega)
      refine ite_y (by simp (disch := omega) only [lit, nI_add, pk_mul, leI, ltI, eqI]; omega) (ex_y hR1.1.1.row ?_)
      rw [show (62 : Int32) + nI (a 0) = nI (62 + a 0) from by rw [lit, nI_add], clI (by omega)]
      refine ⟨inrow hS (by omega), nm_e (ex_y hR1.1.1.row ⟨inrow (n := 0) hS (by omega), inrow (n := 0) hS (by omega), nm_e ?_⟩)⟩
      have e0' : (uI S1 90 (62 + a 0) 0).1 90 ((0 : Int32).toNatClampNeg) = nI (a 0) := by
        rw [uI_p _ _ _ _ (by show 0 ≠ 62 + a 0; omega), e3 _ (by left; show 0 < 32 + 5 * a 0; omega)]
        show S4.1 90 0 = _
        rw [g4.1.2.1.1, ← hb, up_n _ (by omega), up_n _ (by omega), up_n _ (by omega), up_n _ (by omega)]
      rw [e0', nI_1]
      have hR3 := hR2.set (i := 0) (v := a 0 + 1) (x := 0) (by unfold posR; omega) (by omega)
      rw [← key] at hR3
      refine z _ hR3 ?_ (fun i hi => ?_) ?_
      · exact ((OffC.of1 (e1.trans o5) (fun i hi => (e2 i hi).trans (o4 i hi))).uI (i := 90) (by omega) (by omega)).uI (i := 90) (by omega) (by omega)
      · rw [uI_n _ _ _ _ hi, uI_n _ _ _ _ hi, e2 i hi, o4 i hi]
      · exact e1.trans o5
    | succ n ih =>
      intro k S1 hk e1 e2 e3 e4
      rw [f_X11_come1_131_n]
      refine ite_n (by simp (disch := omega) only [lit, nI_add, pk_mul, leI, ltI, eqI]; omega) (ex_y (by rw [e1, o5]; exact hS.row) ?_)
      simp (disch := omega) only [show (32 : Int32) = nI 32 from rfl, show (5 : Int32) = nI 5 from rfl, nI_1, nI_add, pk_mul, clI]
      refine ⟨inrow hS (by omega), nm_e (ih (k + 1) _ (by omega) e1 (fun i hi => by rw [uI_n _ _ _ _ hi]; exact e2 i hi) (fun i hi => by rw [uI_s, if_neg (by omega)]; exact e3 i hi) (fun i hi => ?_))⟩
      rw [uI_s]
      by_cases e : i = k
      · rw [if_pos (by omega)]
      · rw [if_neg (by omega)]; exact e4 i (by omega)
  exact ⟨6, st 5 0 S4 (by omega) rfl (fun _ _ => rfl) (fun _ _ => rfl) (fun i hi => absurd hi (by omega))⟩
end
