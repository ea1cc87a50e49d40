/-! The class reads clauses and texts. -/
section
variable {G : Gm} {B S S' : St} {tk ts tv : Nat → Nat} {tc q : Nat} {od : Bool} {Q : Int32 → St → Prop} {K : St → Prop} {k p N : Nat} {c : Cd} {us : Nat → Prop}
theorem EnvC.fl (hE : EnvC G S tk ts tv tc od q) : S.1 75 8 = (if od = true then 0 else 1) := hE.2.2.2.2.2.1
theorem CGo.trans {S'' : St} (h : CGo G tk ts tv tc od q S S') (h' : CGo G tk ts tv tc od q S' S'') : CGo G tk ts tv tc od q S S'' := ⟨h.1.trans h'.1, h'.2.1, h'.2.2.trans h.2.2⟩
theorem CGo.ofP (hE : EnvC G B tk ts tv tc od q) (hF : FrP B q S) : CGo G tk ts tv tc od q B S := ⟨hF.toC, hE.re hF, hF.2.1 81 (by omega) (by omega) (by omega) (by omega)⟩
theorem CGo.mk {w : Nat} (hE : EnvC G S tk ts tv tc od q) (v : Int32) : CGo G tk ts tv tc od q S (uI S 84 (4 * q + w) v) := ⟨(FrC.refl q S).u (by omega), hE.u84, uI_n _ _ _ _ (by omega)⟩
/-- how often -/
theorem c_tms (hE : EnvC G S tk ts tv tc od q) (h : CSt S od q k p N c us S) (hk : k ≤ tc) (hN : N ≤ k) (y : ∀ k' r, gTms tk tv k = .inr (k', r) → ∀ S', CGo G tk ts tv tc od q S S' → (S'.1 82 q = nI r ∨ (r = 1 ∧ S'.1 82 q = S.1 82 q)) → S'.1 84 = S.1 84 → CSt S' od q k' p N c us S' → K S') (e : ∀ x, gTms tk tv k = .inl x → ∀ S', CGo G tk ts tv tc od q S S' → CBd S' tc q (ts x) S' → K S') : f_X6_restOfOrder_29 G 75 K S := by
  have hA := hE.2.1
  have t4 := hA.1
  refine c_here hE (FrP.refl S q) h.2.1 hk (ite_c (fun d => nm_e ?_) (fun d => ?_))
  · rw [show (10 : Int32) = nI 10 from rfl, tI_e (hA.2.2 k).1 (by omega) (by omega)] at d
    have hk2 : k < tc := tk_lt hA (by omega)
    have tvb := (hA.2.2 (k + 1)).2.1
    have h2 := h.next
    refine c_numHere hE h2.1 h2.2.1 (by omega) ?_
    have bad : ¬ (tk (k + 1) = 50 ∧ 1 ≤ tv (k + 1) ∧ tv (k + 1) ≤ 20) → f_X6_restOfOrder_64 G 75 K (uI S 75 6 (S.1 75 6 + 1)) := by
      intro hb
      refine h2.fail hE (by omega) (by omega) (fun S2 hB => e (k + 1) ?_ S2 (CGo.ofP hE hB.1) hB.re)
      unfold gTms; rw [if_pos d, if_neg hb]
    by_cases h5 : tk (k + 1) = 50
    · rw [if_pos h5]
      refine ite_c (fun d1 => ?_) (fun d1 => ite_c (fun d2 => nm_e ?_) (fun d2 => ?_))
      · rw [lit, ltI (by omega) (by omega)] at d1; exact bad (by omega)
      · rw [lit, ltI (by omega) (by omega)] at d1
        rw [lit, leI (by omega) (by omega)] at d2
        have h3 := h2.next
        have hE3 := hE.re h3.1
        refine ex_y hE3.1.r75_10 (c_repeat hE3 ?_)
        refine y (k + 2) (tv (k + 1)) ?_ _ ⟨h3.1.toC.u (by omega), hE3.u82, ?_⟩ (.inl ?_) ?_ h3.re.u82
        · unfold gTms; rw [if_pos d, if_pos ⟨h5, by omega, d2⟩]
        · rw [uI_n _ _ _ _ (by omega)]; exact h3.1.2.1 81 (by omega) (by omega) (by omega) (by omega)
        · rw [uI_s, if_pos rfl]
        · rw [uI_n _ _ _ _ (by omega)]; exact h3.1.2.1 84 (by omega) (by omega) (by omega) (by omega)
      · rw [lit, leI (by omega) (by omega)] at d2; exact bad (by omega)
    · rw [if_neg h5]
      exact ite_y (by decide) (bad (fun hb => h5 hb.1))
  · rw [show (10 : Int32) = nI 10 from rfl, tI_e (hA.2.2 k).1 (by omega) (by omega)] at d
    exact y k 1 (by unfold gTms; rw [if_neg d]) S ⟨FrC.refl q S, hE, rfl⟩ (.inr ⟨rfl, rfl⟩) rfl h
theorem c_tmsB {x : Nat} (hE : EnvC G S tk ts tv tc od q) (h : CBd S tc q x S) (z : K S) : f_X6_restOfOrder_29 G 75 K S := c_hereB hE h (ite_n (by decide) z)
theorem c_rest {v : Nat} (hE : EnvC G S tk ts tv tc true q) (h : CSt S true q k p N c us S) (hv : v ≤ 4) (hk : k ≤ tc) (hp : p ≤ 50) (hN : N ≤ k) (y : ∀ k' p' two r, gRest tk tv true v k p = .inr (k', p', two, r) → ∀ S' N' c' us', CGo G tk ts tv tc true q S S' → (S'.1 82 q = nI r ∨ (r = 1 ∧ S'.1 82 q = S.1 82 q)) → S'.1 84 = S.1 84 → CSt S' true q k' p' N' c' us' S' → N' + k ≤ N + k' → SgO 0 c' us' N N' two → (∀ i, i < N → c' i = c i) → (∀ w, us w → us' w) → K S') (e : ∀ x, gRest tk tv true v k p = .inl x → ∀ S', CGo G tk ts tv tc true q S S' → CBd S' tc q (ts x) S' → K S') : f_X6_restOfOrder G 75 (nI v) K S := by
  have hA := hE.2.1
  have t4 := hA.1
  -- behind the second sum
  have t29 : ∀ k1 p1 two, gTwo tk tv v k p = .inr (k1, p1, two) → ∀ S1 N1 c1 us1, CGo G tk ts tv tc true q S S1 → S1.1 82 = S.1 82 → S1.1 84 = S.1 84 → CSt S1 true q k1 p1 N1 c1 us1 S1 → N1 + k ≤ N + k1 → SgO 0 c1 us1 N N1 two → (∀ i, i < N → c1 i = c i) → (∀ w, us w → us1 w) → f_X6_restOfOrder_29 G 75 K S1 := by
    intro k1 p1 two h2 S1 N1 c1 us1 g1 g82 g84 hS1 hN1 hsg hc hu
    obtain ⟨b1, b2, b3⟩ := (gTwo_ok (v := v) hA hk hp).2 k1 p1 two h2
    refine c_tms g1.2.1 hS1 b2 (by omega) ?_ ?_
    · intro k' r hr S2 g2 hrr h84 hS2
      obtain ⟨d1, d2, _⟩ := (gTms_ok (k := k1) hA b2).2 k' r hr
      refine y k' p1 two r ?_ S2 N1 c1 us1 (g1.trans g2) ?_ (h84.trans g84) hS2 (by omega) hsg hc hu
      · unfold gRest; rw [if_pos rfl, h2]; simp only []; rw [hr]
      · rw [← g82]; exact hrr
    · intro x hx S2 g2 hB
      refine e x ?_ S2 (g1.trans g2) hB
      unfold gRest; rw [if_pos rfl, h2]; simp only []; rw [hx]
  have bad : ∀ x, gTwo tk tv v k p = .inl x → ∀ S1, CGo G tk ts tv tc true q S S1 → CBd S1 tc q (ts x) S1 → K S1 := by
    intro x hx S1 g1 hB
    refine e x ?_ S1 g1 hB
    unfold gRest; rw [if_pos rfl, hx]
  have t21 : ∀ t, t = (if v = 0 then 11 else 12) → v = 0 ∨ v = 2 → f_X6_restOfOrder_21 G 75 (nI t) 75 K S := by
    intro t ht hv2
    have t12 : t = 11 ∨ t = 12 := by rw [ht]; split <;> omega
    refine c_expect (t := t) hE (by omega) (by omega) h hk (by omega) (fun he => ?_) (fun he S1 hB => ?_)
    · have hk2 : k < tc := tk_lt hA (by omega)
      have hE2 := hE.re h.next.1
      have g0 := CGo.ofP hE h.next.1
      have w := c_opt_sum (b := true) (K := fun S2 => f_X6_restOfOrder_29 G 75 K S2) hE2 h.next.re (by omega) hp (by omega) (fun k' p' o ho S2 N2 c2 us2 g2 g82 g84 hS2 hN2 hsg hc hu => ?_) (fun x hx S2 g2 hB => ?_)
      · rw [if_pos rfl] at w; exact w
      · refine t29 k' p' o ?_ S2 N2 c2 us2 (g0.trans g2) (g82.trans (h.next.1.2.1 82 (by omega) (by omega) (by omega) (by omega))) (g84.trans (h.next.1.2.1 84 (by omega) (by omega) (by omega) (by omega))) hS2 (by omega) hsg hc hu
        unfold gTwo; rw [if_pos hv2, ← ht, if_pos he]; exact ho
      · refine c_tmsB g2.2.1 hB (bad x ?_ S2 (g0.trans g2) hB)
        unfold gTwo; rw [if_pos hv2, ← ht, if_pos he]; exact hx
    · have g1 := CGo.ofP hE hB.1
      refine c_sumB g1.2.1 (m := 10) (d := 0) (by omega) _ _ S1 hB.re (fun S2 hB2 => ?_)
      have g2 := g1.trans (CGo.ofP g1.2.1 hB2.1)
      refine c_tmsB g2.2.1 hB2.re (bad k ?_ S2 g2 hB2.re)
      unfold gTwo; rw [if_pos hv2, ← ht, if_neg he]
  have nov : ¬ (v = 0 ∨ v = 2) → f_X6_restOfOrder_29 G 75 K S := fun hv2 => t29 k p none (by unfold gTwo; rw [if_neg hv2]) S N c us ⟨FrC.refl q S, hE, rfl⟩ rfl rfl h (by omega) rfl (fun _ _ => rfl) (fun _ h => h)
  unfold f_X6_restOfOrder
  refine ite_c (fun d => ?_) (fun d => ite_c (fun d2 => ?_) (fun d2 => ?_))
  · rw [lit, eqI (by omega) (by omega)] at d
    refine ite_y (by rw [d]; rfl) (t21 11 (by rw [if_pos d]) (.inl d))
  · rw [lit, eqI (by omega) (by omega)] at d d2
    refine ite_n (by rw [d2]; decide) (t21 12 (by rw [if_neg d]) (.inr d2))
  · rw [lit, eqI (by omega) (by omega)] at d d2
    exact nov (by omega)
theorem c_restB {x v : Nat} (hE : EnvC G S tk ts tv tc od q) (h : CBd S tc q x S) (z : ∀ S', CGo G tk ts tv tc od q S S' → CBd S' tc q x S' → K S') : f_X6_restOfOrder G 75 (nI v) K S := by
  have t21 : ∀ t, t < 400 → t ≠ 51 → f_X6_restOfOrder_21 G 75 (nI t) 75 K S := by
    intro t ht ht2
    refine c_expectB (t := t) hE ht ht2 h (fun S1 hB => ?_)
    have g1 := CGo.ofP hE hB.1
    refine c_sumB g1.2.1 (m := 10) (d := 0) (by omega) _ _ S1 hB.re (fun S2 hB2 => ?_)
    have g2 := g1.trans (CGo.ofP g1.2.1 hB2.1)
    exact c_tmsB g2.2.1 hB2.re (z S2 g2 hB2.re)
  have n29 : f_X6_restOfOrder_29 G 75 K S := c_tmsB hE h (z S ⟨FrC.refl q S, hE, rfl⟩ h)
  have t9 : f_X6_restOfOrder_9 G 75 (nI v) K S := ite_c (fun _ => t21 11 (by omega) (by omega)) (fun _ => t21 12 (by omega) (by omega))
  exact ite_c (fun _ => t9) (fun _ => ite_c (fun _ => t9) (fun _ => n29))
def usC (od : Bool) (u : Int32) (w : Nat) : Prop := w < 22 ∧ (od = false → w < 9) ∧ ub u w
/-- a clause as the class keeps it -/
def CRec (od : Bool) (i : Nat) (z : Cz) (S : St) (c : Cd) (N : Nat) : Prop := S.1 81 i = nI z.1 ∧ S.1 82 i = nI z.2.1 ∧ z.1 ≤ vbL od ∧ 1 ≤ z.2.1 ∧ z.2.1 ≤ 20 ∧ ∃ m0 m1 m2 m3, S.1 84 (4 * i) = nI (2 * m0) ∧ S.1 84 (4 * i + 1) = nI (2 * m1) ∧ S.1 84 (4 * i + 2) = nI (2 * m2) ∧ S.1 84 (4 * i + 3) = nI (2 * m3) ∧ m3 ≤ N ∧ SgO 0 c (usC od (S.1 83 i)) m0 m1 z.2.2.1 ∧ SgO 0 c (usC od (S.1 83 i)) m1 m2 z.2.2.2.1 ∧ SgO 1 c (usC od (S.1 83 i)) m2 m3 z.2.2.2.2
theorem CRec.keep {i : Nat} {z : Cz} {c' : Cd} {N' : Nat} (h : CRec od i z S c N) (f : FrC q S S') (hi : i < q) (hc : ∀ j, j < N → c' j = c j) (hN : N ≤ N') : CRec od i z S' c' N' := by
  obtain ⟨h1, h2, h3, h4, h5, m0, m1, m2, m3, g0, g1, g2, g3, gN, s0, s1, s2⟩ := h
  obtain ⟨a1, a2, a3⟩ := f.2.2.2.1 i hi
  have l0 := s0.le
  have l1 := s1.le
  have l2 := s2.le
  refine ⟨by rw [a1]; exact h1, by rw [a2]; exact h2, h3, h4, h5, m0, m1, m2, m3, ?_, ?_, ?_, ?_, by omega, ?_, ?_, ?_⟩
  · rw [f.2.2.2.2 _ (by omega)]; exact g0
  · rw [f.2.2.2.2 _ (by omega)]; exact g1
  · rw [f.2.2.2.2 _ (by omega)]; exact g2
  · rw [f.2.2.2.2 _ (by omega)]; exact g3
  · rw [a3]; exact s0.keep (fun k x1 x2 => hc k (by omega)) (fun _ h => h)
  · rw [a3]; exact s1.keep (fun k x1 x2 => hc k (by omega)) (fun _ h => h)
  · rw [a3]; exact s2.keep (fun k x1 x2 => hc k (by omega)) (fun _ h => h)
/-- the class's reader between clauses -/
def CTx (G : Gm) (tk ts tv : Nat → Nat) (tc : Nat) (od : Bool) (q k p N : Nat) (c : Cd) (S : St) : Prop :=
  ShC G S.2.2 ∧ TkA tk ts tv tc ∧ S.1 75 5 = nI tc ∧ (∀ i, i < tc → S.1 77 i = tI (tk i) ∧ S.1 79 i = nI (tv i)) ∧ (∀ i, i ≤ tc → S.1 78 i = nI (ts i)) ∧ S.1 75 8 = (if od = true then 0 else 1) ∧ S.1 80 5 = nI q ∧ S.1 75 6 = nI k ∧ S.1 75 7 = nI p ∧ S.1 75 9 = -1 ∧ S.1 80 6 = nI (2 * N) ∧ (∀ i, i < N → S.1 85 (2 * i) = nI (c i).1 ∧ S.1 85 (2 * i + 1) = nI (agC (c i)))
theorem c_open {v : Nat} (h : CTx G tk ts tv tc od q k p N c S) (hq : q < 12) (z : ∀ S', FrC q S S' → EnvC G S' tk ts tv tc od q → CSt S' od q (k + 1) p N c (fun _ => False) S' → S'.1 81 q = nI v → S'.1 82 q = 1 → S'.1 84 (4 * q) = nI (2 * N) → K S') : ∀ S1, S1 = uI S 75 6 (S.1 75 6 + 1) → (∃ a3, S1.2.2 75 10 = some a3 ∧ f_X8_open G a3 (nI v) K S1) := by
  obtain ⟨hS, hA, h5, h77, h78, h8, h80, h6, h7, h9, h86, hc⟩ := h
  refine nm_e (ex_y hS.r75_10 ?_)
  have r0 : ∀ i, i ≠ 75 → (uI S 75 6 (S.1 75 6 + 1)).1 i = S.1 i := fun i hi => uI_n _ _ _ _ hi
  unfold f_X8_open
  rw [r0 80 (by omega), h80]
  refine ite_n (nI_nn (by omega)) (ex_y (by exact hS.r80_0) (ite_n (by rw [hS.l81, leI (by omega) (by omega)]; omega) (ex_y (by exact hS.r80_0) ?_)))
  rw [hS.l81, in_iff (by omega), clI (by omega)]
  refine ⟨hq, nm_e (ex_y (by exact hS.r80_1) ?_)⟩
  rw [uI_n _ 81 _ _ (by omega), r0 80 (by omega), h80, hS.l82, in_iff (by omega), clI (by omega)]
  refine ⟨hq, nm_e (ex_y (by exact hS.r80_2) ?_)⟩
  rw [uI_n _ 82 _ _ (by omega), uI_n _ 81 _ _ (by omega), r0 80 (by omega), h80, hS.l83, in_iff (by omega), clI (by omega)]
  refine ⟨hq, nm_e (nm_e ?_)⟩
  rw [uI_n _ 83 _ _ (by omega), uI_n _ 82 _ _ (by omega), uI_n _ 81 _ _ (by omega), r0 80 (by omega), h80, nI_1]
  have f4 : FrC q S (uI (uI (uI (uI (uI S 75 6 (S.1 75 6 + 1)) 81 q (nI v)) 82 q 1) 83 q 0) 80 5 (nI (q + 1))) := (((((FrC.refl q S).u (by omega)).u (by omega)).u (by omega)).u (by omega)).u (by omega)
  have ri : ∀ i, i ≠ 75 → i ≠ 80 → i ≠ 81 → i ≠ 82 → i ≠ 83 → (uI (uI (uI (uI (uI S 75 6 (S.1 75 6 + 1)) 81 q (nI v)) 82 q 1) 83 q 0) 80 5 (nI (q + 1))).1 i = S.1 i := by
    intro i a b c d e
    rw [uI_n _ _ _ _ b, uI_n _ _ _ _ e, uI_n _ _ _ _ d, uI_n _ _ _ _ c, r0 i a]
  have r75 : ∀ j, j ≠ 6 → (uI (uI (uI (uI (uI S 75 6 (S.1 75 6 + 1)) 81 q (nI v)) 82 q 1) 83 q 0) 80 5 (nI (q + 1))).1 75 j = S.1 75 j := by
    intro j hj
    rw [uI_n _ 80 _ _ (by omega), uI_n _ 83 _ _ (by omega), uI_n _ 82 _ _ (by omega), uI_n _ 81 _ _ (by omega), uI_p _ _ _ _ hj]
  have r756 : (uI (uI (uI (uI (uI S 75 6 (S.1 75 6 + 1)) 81 q (nI v)) 82 q 1) 83 q 0) 80 5 (nI (q + 1))).1 75 6 = nI (k + 1) := by
    rw [uI_n _ 80 _ _ (by omega), uI_n _ 83 _ _ (by omega), uI_n _ 82 _ _ (by omega), uI_n _ 81 _ _ (by omega), uI_s, if_pos rfl, h6, nI_1]
  have r805 : (uI (uI (uI (uI (uI S 75 6 (S.1 75 6 + 1)) 81 q (nI v)) 82 q 1) 83 q 0) 80 5 (nI (q + 1))).1 80 5 = nI (q + 1) := by rw [uI_s, if_pos rfl]
  have r806 : (uI (uI (uI (uI (uI S 75 6 (S.1 75 6 + 1)) 81 q (nI v)) 82 q 1) 83 q 0) 80 5 (nI (q + 1))).1 80 6 = nI (2 * N) := by
    rw [uI_s, if_neg (by omega), uI_n _ 83 _ _ (by omega), uI_n _ 82 _ _ (by omega), uI_n _ 81 _ _ (by omega), r0 80 (by omega)]; exact h86
  have r81 : (uI (uI (uI (uI (uI S 75 6 (S.1 75 6 + 1)) 81 q (nI v)) 82 q 1) 83 q 0) 80 5 (nI (q + 1))).1 81 q = nI v := by
    rw [uI_n _ 80 _ _ (by omega), uI_n _ 83 _ _ (by omega), uI_n _ 82 _ _ (by omega), uI_s, if_pos rfl]
  have r82 : (uI (uI (uI (uI (uI S 75 6 (S.1 75 6 + 1)) 81 q (nI v)) 82 q 1) 83 q 0) 80 5 (nI (q + 1))).1 82 q = 1 := by
    rw [uI_n _ 80 _ _ (by omega), uI_n _ 83 _ _ (by omega), uI_s, if_pos rfl]
  have hE : EnvC G (uI (uI (uI (uI (uI S 75 6 (S.1 75 6 + 1)) 81 q (nI v)) 82 q 1) 83 q 0) 80 5 (nI (q + 1))) tk ts tv tc od q := ⟨hS, hA, by rw [r75 5 (by omega)]; exact h5, by rw [ri 77 (by omega) (by omega) (by omega) (by omega) (by omega), ri 79 (by omega) (by omega) (by omega) (by omega) (by omega)]; exact h77, by rw [ri 78 (by omega) (by omega) (by omega) (by omega) (by omega)]; exact h78, by rw [r75 8 (by omega)]; exact h8, r805, hq⟩
  have hC : CSt (uI (uI (uI (uI (uI S 75 6 (S.1 75 6 + 1)) 81 q (nI v)) 82 q 1) 83 q 0) 80 5 (nI (q + 1))) od q (k + 1) p N c (fun _ => False) (uI (uI (uI (uI (uI S 75 6 (S.1 75 6 + 1)) 81 q (nI v)) 82 q 1) 83 q 0) 80 5 (nI (q + 1))) := ⟨FrP.refl _ q, r756, by rw [r75 7 (by omega)]; exact h7, by rw [r75 9 (by omega)]; exact h9, r806, by rw [ri 85 (by omega) (by omega) (by omega) (by omega) (by omega)]; exact hc, fun w hw => hw.elim⟩
  generalize uI (uI (uI (uI (uI S 75 6 (S.1 75 6 + 1)) 81 q (nI v)) 82 q 1) 83 q 0) 80 5 (nI (q + 1)) = S4 at f4 hE hC r81 r82 r806 ⊢
  refine c_mark (w := 0) hE (by omega) (z _ (f4.u (by omega)) hE.u84 hC.u84 ?_ ?_ ?_)
  · rw [uI_n _ _ _ _ (by omega)]; exact r81
  · rw [uI_n _ _ _ _ (by omega)]; exact r82
  · rw [Nat.add_zero, uI_s, if_pos rfl]; exact r806
end
