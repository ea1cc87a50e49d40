-- needs: 361
/-! A parish is copied. -/
section
variable {G : Gm} {S S' : St} {p r : Nat} {a : Rw} {K : St → Prop}
/-- what a copy leaves -/
def Cpd (p r : Nat) (S S' : St) : Prop := S'.2.1 = S.2.1 ∧ (∀ i, (i < p ∨ p + 6 < i) → S'.1 i = S.1 i) ∧ (∀ i, i ≠ p + 7 → S'.2.2 i = S.2.2 i) ∧ (∀ k, k < 6 → S'.2.2 (p + 7) k = S.2.2 (r + 7) k) ∧ (∀ k, 6 ≤ k → S'.2.2 (p + 7) k = S.2.2 (p + 7) k)
theorem cp1 {S S0 : St} {x y n : Nat} (hn : n < 2147483648) (hy : ∀ k, S.1 x k = S0.1 x k) : (∀ i, i ≠ y → (cpI S x 0 y 0 (nI n)).1 i = S.1 i) ∧ (∀ k, k < n → (cpI S x 0 y 0 (nI n)).1 y k = S0.1 x k) ∧ (cpI S x 0 y 0 (nI n)).2 = S.2 :=
  ⟨fun i hi => cpI_n hi, fun k hk => by rw [cpI_s hn, if_pos hk, hy k], rfl⟩
theorem c_copyFrom (hp : PSh G S.2.2 p) (hr : PSh G S.2.2 r) (hP : ParC S r a) (hd : p + 7 < r ∨ r + 7 < p) (z : ∀ S', Cpd p r S S' → ParC S' p a → K S') : f_X5_copyFrom G p r K S := by
  obtain ⟨h0, h1, h2, h3, h4, h5, h6, h7, h8, h9⟩ := hP
  obtain ⟨p1, p2, p3, p4, p6, p7, p9, l1, l2, l3, l4, l5, l6, l7⟩ := hp
  obtain ⟨r1, r2, r3, r4, r6, r7, r9, m1, m2, m3, m4, m5, m6, m7⟩ := hr
  refine nm_e ?_
  have A0 : (uI S p 0 (S.1 r 0)).1 p 0 = S.1 r 0 := by rw [uI_s, if_pos rfl]
  have A1 : ∀ i, i ≠ p → (uI S p 0 (S.1 r 0)).1 i = S.1 i := fun i hi => uI_n _ _ _ _ hi
  have A2 : (uI S p 0 (S.1 r 0)).2 = S.2 := rfl
  generalize uI S p 0 (S.1 r 0) = S1 at A0 A1 A2 ⊢
  refine ex_y (by rw [A2]; exact r1) (ex_y (by rw [A2]; exact p1) ⟨by rw [l1, m1]; exact cp_ok (n := 24) (by omega) (by omega) (by omega), nm_e ?_⟩)
  obtain ⟨B1, B2, B3⟩ := cp1 (S := S1) (S0 := S) (x := r + 1) (y := p + 1) (n := 24) (by omega) (fun k => by rw [A1 _ (by omega)])
  rw [show nI 24 = 24 from rfl] at B1 B2 B3
  generalize cpI S1 (r + 1) 0 (p + 1) 0 24 = S2 at B1 B2 B3 ⊢
  have R2 : S2.2 = S.2 := B3.trans A2
  refine ex_y (by rw [R2]; exact r2) (ex_y (by rw [R2]; exact p2) ⟨by rw [l2, m2]; exact cp_ok (n := 6) (by omega) (by omega) (by omega), nm_e ?_⟩)
  obtain ⟨C1, C2, C3⟩ := cp1 (S := S2) (S0 := S) (x := r + 2) (y := p + 2) (n := 6) (by omega) (fun k => by rw [B1 _ (by omega), A1 _ (by omega)])
  rw [show nI 6 = 6 from rfl] at C1 C2 C3
  generalize cpI S2 (r + 2) 0 (p + 2) 0 6 = S3 at C1 C2 C3 ⊢
  have R3 : S3.2 = S.2 := C3.trans R2
  refine ex_y (by rw [R3]; exact r3) (ex_y (by rw [R3]; exact p3) ⟨by rw [l3, m3]; exact cp_ok (n := 6) (by omega) (by omega) (by omega), nm_e ?_⟩)
  obtain ⟨D1, D2, D3⟩ := cp1 (S := S3) (S0 := S) (x := r + 3) (y := p + 3) (n := 6) (by omega) (fun k => by rw [C1 _ (by omega), B1 _ (by omega), A1 _ (by omega)])
  rw [show nI 6 = 6 from rfl] at D1 D2 D3
  generalize cpI S3 (r + 3) 0 (p + 3) 0 6 = S4 at D1 D2 D3 ⊢
  have R4 : S4.2 = S.2 := D3.trans R3
  refine ex_y (by rw [R4]; exact r4) (ex_y (by rw [R4]; exact p4) ⟨by rw [l4, m4]; exact cp_ok (n := 4) (by omega) (by omega) (by omega), nm_e ?_⟩)
  obtain ⟨E1, E2, E3⟩ := cp1 (S := S4) (S0 := S) (x := r + 4) (y := p + 4) (n := 4) (by omega) (fun k => by rw [D1 _ (by omega), C1 _ (by omega), B1 _ (by omega), A1 _ (by omega)])
  rw [show nI 4 = 4 from rfl] at E1 E2 E3
  generalize cpI S4 (r + 4) 0 (p + 4) 0 4 = S5 at E1 E2 E3 ⊢
  have R5 : S5.2 = S.2 := E3.trans R4
  have F0 : ∀ i, i ≠ p → i ≠ p + 1 → i ≠ p + 2 → i ≠ p + 3 → i ≠ p + 4 → S5.1 i = S.1 i := fun i e0 e1 e2 e3 e4 => by rw [E1 i e4, D1 i e3, C1 i e2, B1 i e1, A1 i e0]
  refine nm_e ?_
  have G0 : (uI S5 p 5 (S5.1 r 5)).1 p 5 = S.1 r 5 := by rw [uI_s, if_pos rfl, F0 r (by omega) (by omega) (by omega) (by omega) (by omega)]
  have G00 : (uI S5 p 5 (S5.1 r 5)).1 p 0 = S.1 r 0 := by rw [uI_s, if_neg (by omega), E1 _ (by omega), D1 _ (by omega), C1 _ (by omega), B1 _ (by omega)]; exact A0
  have G1 : ∀ i, i ≠ p → (uI S5 p 5 (S5.1 r 5)).1 i = S5.1 i := fun i hi => uI_n _ _ _ _ hi
  have G2 : (uI S5 p 5 (S5.1 r 5)).2 = S5.2 := rfl
  generalize uI S5 p 5 (S5.1 r 5) = S6 at G0 G00 G1 G2 ⊢
  have R6 : S6.2 = S.2 := G2.trans R5
  refine ex_y (by rw [R6]; exact r6) (ex_y (by rw [R6]; exact p6) ⟨by rw [l5, m5]; exact cp_ok (n := 8) (by omega) (by omega) (by omega), nm_e ?_⟩)
  obtain ⟨H1, H2, H3⟩ := cp1 (S := S6) (S0 := S) (x := r + 5) (y := p + 5) (n := 8) (by omega) (fun k => by rw [G1 _ (by omega), F0 _ (by omega) (by omega) (by omega) (by omega) (by omega)])
  rw [show nI 8 = 8 from rfl] at H1 H2 H3
  generalize cpI S6 (r + 5) 0 (p + 5) 0 8 = S7 at H1 H2 H3 ⊢
  have R7 : S7.2 = S.2 := H3.trans R6
  refine ex_y (by rw [R7]; exact r7) (ex_y (by rw [R7]; exact p7) ⟨by rw [l6, m6]; exact cp_ok (n := 8) (by omega) (by omega) (by omega), nm_e ?_⟩)
  obtain ⟨I1, I2, I3⟩ := cp1 (S := S7) (S0 := S) (x := r + 6) (y := p + 6) (n := 8) (by omega) (fun k => by rw [H1 _ (by omega), G1 _ (by omega), F0 _ (by omega) (by omega) (by omega) (by omega) (by omega)])
  rw [show nI 8 = 8 from rfl] at I1 I2 I3
  generalize cpI S7 (r + 6) 0 (p + 6) 0 8 = S8 at I1 I2 I3 ⊢
  have R8 : S8.2 = S.2 := I3.trans R7
  have F1 : ∀ i, (i < p ∨ p + 6 < i) → S8.1 i = S.1 i := fun i hi => by rw [I1 i (by omega), H1 i (by omega), G1 i (by omega), F0 i (by omega) (by omega) (by omega) (by omega) (by omega)]
  refine nm_e ?_
  have J0 : (uI S8 p 8 (S8.1 r 8)).1 p 8 = S.1 r 8 := by rw [uI_s, if_pos rfl, F1 r (by omega)]
  have J1 : (uI S8 p 8 (S8.1 r 8)).1 p 0 = S.1 r 0 := by rw [uI_s, if_neg (by omega), I1 _ (by omega), H1 _ (by omega)]; exact G00
  have J2 : (uI S8 p 8 (S8.1 r 8)).1 p 5 = S.1 r 5 := by rw [uI_s, if_neg (by omega), I1 _ (by omega), H1 _ (by omega)]; exact G0
  have J3 : ∀ i, i ≠ p → (uI S8 p 8 (S8.1 r 8)).1 i = S8.1 i := fun i hi => uI_n _ _ _ _ hi
  have J4 : (uI S8 p 8 (S8.1 r 8)).2 = S8.2 := rfl
  generalize uI S8 p 8 (S8.1 r 8) = S9 at J0 J1 J2 J3 J4 ⊢
  have R9 : S9.2 = S.2 := J4.trans R8
  -- the laws
  have st : ∀ (n k : Nat) (S1 : St), n + k = 6 → S1.1 = S9.1 → S1.2.1 = S.2.1 → (∀ i, i ≠ p + 7 → S1.2.2 i = S.2.2 i) → (∀ j, S1.2.2 (p + 7) j = if j < k then S.2.2 (r + 7) j else S.2.2 (p + 7) j) → f_X5_copyFrom_115_n G p r K (n + 1) (nI k) S1 := by
    intro n
    induction n with
    | zero =>
      intro k S1 hk e1 e2 e3 e4
      have hk : k = 6 := by omega
      subst hk
      rw [f_X5_copyFrom_115_n]
      refine ite_y (by simp (disch := omega) only [lit, nI_add, pk_mul, leI, ltI, eqI]; omega) (nm_e (z _ ⟨e2, fun i hi => ?_, e3, fun j hj => ?_, fun j hj => ?_⟩ ?_))
      · rw [uI_n _ _ _ _ (by omega), e1, J3 i (by omega), F1 i hi]
      · show S1.2.2 (p + 7) j = _; rw [e4, if_pos hj]
      · show S1.2.2 (p + 7) j = _; rw [e4, if_neg (by omega)]
      · have N : ∀ i, i ≠ p → (uI S1 p 10 (S1.1 r 10)).1 i = S8.1 i := fun i hi => by rw [uI_n _ _ _ _ hi, e1, J3 i hi]
        refine ⟨?_, ?_, ?_, ?_, fun k hk => ?_, fun k hk => ?_, fun k hk => ?_, fun k hk => ?_, fun k hk => ?_, fun k hk => ?_⟩
        · rw [uI_s, if_neg (by omega), e1, J1]; exact h0
        · rw [uI_s, if_neg (by omega), e1, J2]; exact h1
        · rw [uI_s, if_neg (by omega), e1, J0]; exact h2
        · rw [uI_s, if_pos rfl, e1, J3 r (by omega), F1 r (by omega)]; exact h3
        · rw [N _ (by omega), I1 _ (by omega), H1 _ (by omega), G1 _ (by omega), E2 k hk]; exact h4 k hk
        · rw [N _ (by omega), I1 _ (by omega), H1 _ (by omega), G1 _ (by omega), E1 _ (by omega), D1 _ (by omega), C1 _ (by omega), B2 k hk]; exact h5 k hk
        · rw [N _ (by omega), I1 _ (by omega), H1 _ (by omega), G1 _ (by omega), E1 _ (by omega), D1 _ (by omega), C2 k hk]; exact h6 k hk
        · rw [N _ (by omega), I1 _ (by omega), H1 _ (by omega), G1 _ (by omega), E1 _ (by omega), D2 k hk]; exact h7 k hk
        · rw [N _ (by omega), I1 _ (by omega), H2 k hk]; exact h8 k hk
        · rw [N _ (by omega), I2 k hk]; exact h9 k hk
    | succ n ih =>
      intro k S1 hk e1 e2 e3 e4
      rw [f_X5_copyFrom_115_n]
      refine ite_n (by simp (disch := omega) only [lit, nI_add, pk_mul, leI, ltI, eqI]; omega) (ex_y (by rw [e3 _ (by omega)]; exact p9) (ex_y (by rw [e3 _ (by omega)]; exact r9) ⟨by rw [m7, in_iff (by omega)]; omega, nm_e ⟨by rw [l7, in_iff (by omega)]; omega, nm_e ?_⟩⟩))
      rw [clI (by omega), nI_1]
      refine ih (k + 1) _ (by omega) e1 e2 (fun i hi => by rw [uR_n hi]; exact e3 i hi) (fun j => ?_)
      rw [uR_s, e4, e3 (r + 7) (by omega)]
      by_cases e : j = k
      · rw [if_pos e, if_pos (by omega), e]
      · rw [if_neg e]
        by_cases e' : j < k
        · rw [if_pos e', if_pos (by omega)]
        · rw [if_neg e', if_neg (by omega)]
  exact ⟨7, st 6 0 S9 (by omega) rfl (by rw [R9]) (fun i _ => by rw [R9]) (fun j => by rw [if_neg (by omega), R9])⟩
end
