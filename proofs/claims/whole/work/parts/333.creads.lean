/-! The class reads a text. -/
section
variable {G : Gm} {B S S' : St} {tk ts tv : Nat → Nat} {tc q : Nat} {od : Bool} {Q : Int32 → St → Prop} {K : St → Prop} {k p N : Nat} {c : Cd} {us : Nat → Prop}
theorem c_tail (hE : EnvC G S tk ts tv tc od q) (h : CSt S od q k p N c us S) (hk : k ≤ tc) (hp : p ≤ 50) (hN : N ≤ k) (y : ∀ k' p' o, gOpt (decide (tk k = 9)) (gTest tk tv od 8) k (k + 1) p = .inr (k', p', o) → ∀ S' N' c' us', CGo G tk ts tv tc od q S S' → S'.1 82 = S.1 82 → S'.1 84 (4 * q + 2) = nI (2 * N) → S'.1 84 (4 * q + 3) = nI (2 * N') → (∀ j, j < 4 * q + 2 → S'.1 84 j = S.1 84 j) → CSt S' od q k' p' N' c' us' S' → N' + k ≤ N + k' → SgO 1 c' us' N N' o → (∀ i, i < N → c' i = c i) → (∀ w, us w → us' w) → K S') (e : ∀ x, gOpt (decide (tk k = 9)) (gTest tk tv od 8) k (k + 1) p = .inl x → ∀ S', CGo G tk ts tv tc od q S S' → CBd S' tc q (ts x) S' → K S') : f_X6_clause_102 G 75 K S := by
  have hA := hE.2.1
  have t4 := hA.1
  refine c_mark3 (w := 2) hE (by omega) ?_
  have g1 := CGo.mk (w := 2) hE (S.1 80 6)
  have h1 : CSt (uI S 84 (4 * q + 2) (S.1 80 6)) od q k p N c us (uI S 84 (4 * q + 2) (S.1 80 6)) := h.u84
  have m2 : (uI S 84 (4 * q + 2) (S.1 80 6)).1 84 (4 * q + 2) = nI (2 * N) := by rw [uI_s, if_pos rfl]; exact h.2.2.2.2.1
  have mj : ∀ j, j < 4 * q + 2 → (uI S 84 (4 * q + 2) (S.1 80 6)).1 84 j = S.1 84 j := fun j hj => by rw [uI_s, if_neg (by omega)]
  have m82 : (uI S 84 (4 * q + 2) (S.1 80 6)).1 82 = S.1 82 := uI_n _ _ _ _ (by omega)
  generalize uI S 84 (4 * q + 2) (S.1 80 6) = S1 at g1 h1 m2 mj m82 ⊢
  have hE1 := g1.2.1
  refine c_here hE1 (FrP.refl S1 q) h1.2.1 hk (ite_c (fun d => nm_e ?_) (fun d => ?_))
  · rw [show (9 : Int32) = nI 9 from rfl, tI_e (hA.2.2 k).1 (by omega) (by omega)] at d
    have hk2 : k < tc := tk_lt hA (by omega)
    refine c_test hE1 8 10 0 rfl (by omega) _ (k + 1) p N c us _ (by omega) hp (by omega) h1.next ?_ ?_
    · intro k' p' f hg S2 N2 c2 us2 hh hS2 hN2 hseg hh2 hc hu
      have g2 := CGo.ofP hE1 hS2.1
      refine c_mark3 (w := 3) g2.2.1 (by omega) ?_
      refine y k' p' (some f) ?_ _ N2 c2 us2 ((g1.trans g2).trans (CGo.mk g2.2.1 _)) ?_ ?_ ?_ (fun j hj => ?_) hS2.re.u84 (by omega) ⟨hh, by omega, hseg⟩ hc hu
      · unfold gOpt; rw [if_pos (decide_eq_true d), hg]
      · rw [uI_n _ _ _ _ (by omega), hS2.1.2.1 82 (by omega) (by omega) (by omega) (by omega)]; exact m82
      · rw [uI_s, if_neg (by omega), hS2.1.2.1 84 (by omega) (by omega) (by omega) (by omega)]; exact m2
      · rw [uI_s, if_pos rfl]; exact hS2.2.2.2.2.1
      · rw [uI_s, if_neg (by omega), hS2.1.2.1 84 (by omega) (by omega) (by omega) (by omega)]; exact mj j hj
    · intro x hx S2 hB
      have g2 := CGo.ofP hE1 hB.1
      refine c_mark3 (w := 3) g2.2.1 (by omega) ?_
      refine e x ?_ _ ((g1.trans g2).trans (CGo.mk g2.2.1 _)) hB.re.u84
      unfold gOpt; rw [if_pos (decide_eq_true d), hx]
  · rw [show (9 : Int32) = nI 9 from rfl, tI_e (hA.2.2 k).1 (by omega) (by omega)] at d
    refine c_mark3 (w := 3) hE1 (by omega) ?_
    refine y k p none ?_ _ N c us (g1.trans (CGo.mk hE1 _)) ?_ ?_ ?_ (fun j hj => ?_) h1.u84 (by omega) rfl (fun _ _ => rfl) (fun _ h => h)
    · unfold gOpt; rw [if_neg (by simp [d])]
    · rw [uI_n _ _ _ _ (by omega)]; exact m82
    · rw [uI_s, if_neg (by omega)]; exact m2
    · rw [uI_s, if_pos rfl]; exact h1.2.2.2.2.1
    · rw [uI_s, if_neg (by omega)]; exact mj j hj
theorem c_tailB {x : Nat} (hE : EnvC G S tk ts tv tc od q) (h : CBd S tc q x S) (z : ∀ S', CGo G tk ts tv tc od q S S' → CBd S' tc q x S' → K S') : f_X6_clause_102 G 75 K S := by
  refine c_mark3 (w := 2) hE (by omega) ?_
  have g1 := CGo.mk (w := 2) hE (S.1 80 6)
  have h1 : CBd (uI S 84 (4 * q + 2) (S.1 80 6)) tc q x (uI S 84 (4 * q + 2) (S.1 80 6)) := h.u84
  generalize uI S 84 (4 * q + 2) (S.1 80 6) = S1 at g1 h1 ⊢
  refine c_hereB g1.2.1 h1 (ite_n (by decide) (c_mark3 (w := 3) g1.2.1 (by omega) ?_))
  exact z _ (g1.trans (CGo.mk g1.2.1 _)) h1.u84
theorem c_82B {x v : Nat} (hE : EnvC G S tk ts tv tc od q) (h : CBd S tc q x S) (z : ∀ S', CGo G tk ts tv tc od q S S' → CBd S' tc q x S' → K S') : f_X6_clause_82 G 75 (nI v) K S := by
  refine c_mark3 (w := 1) hE (by omega) ?_
  have g1 := CGo.mk (w := 1) hE (S.1 80 6)
  have h1 : CBd (uI S 84 (4 * q + 1) (S.1 80 6)) tc q x (uI S 84 (4 * q + 1) (S.1 80 6)) := h.u84
  generalize uI S 84 (4 * q + 1) (S.1 80 6) = S1 at g1 h1 ⊢
  refine ite_c (fun _ => ?_) (fun _ => ?_)
  · exact c_restB g1.2.1 h1 (fun S2 g2 hB => c_tailB g2.2.1 hB (fun S3 g3 hB3 => z S3 ((g1.trans g2).trans g3) hB3))
  · exact c_tailB g1.2.1 h1 (fun S3 g3 hB3 => z S3 (g1.trans g3) hB3)
theorem CTx.fail (h : CTx G tk ts tv tc od q k p N c S) (hk : k ≤ tc) (z : ∀ S', FrC q S S' → S'.1 75 6 = nI tc → S'.1 75 9 = nI (ts k) → K S') : f_X6_fail G 75 K S := by
  obtain ⟨hS, hA, h5, h77, h78, h8, h80, h6, h7, h9, h86, hc⟩ := h
  refine c_fail0 hS hA h5 h78 h6 h9 hk (z _ (((FrC.refl q S).u (by omega)).u (by omega)) ?_ ?_)
  · rw [uI_s, if_pos rfl]
  · rw [uI_s, if_neg (by omega), uI_s, if_pos rfl]
theorem CTx.of {S : St} (hE : EnvC G S tk ts tv tc od q) (h : CSt S od q k p N c us S) : CTx G tk ts tv tc od (q + 1) k p N c S := by
  obtain ⟨a, b, cc, d, e, f, g, hq⟩ := hE
  obtain ⟨_, h6, h7, h9, h80, hcd, hu⟩ := h
  exact ⟨a, b, cc, d, e, f, g, h6, h7, h9, h80, hcd⟩
theorem c_clause (h : CTx G tk ts tv tc od q k p N c S) (hq : q < 12) (hk : k ≤ tc) (hp : p ≤ 50) (hN : N ≤ k) (y : ∀ k' p' z, gClause tk tv od k p = .inr (k', p', z) → ∀ S' N' c', FrC q S S' → CTx G tk ts tv tc od (q + 1) k' p' N' c' S' → CRec od q z S' c' N' → (∀ i, i < N → c' i = c i) → N ≤ N' → N' ≤ k' → K S') (e : ∀ x, gClause tk tv od k p = .inl x → ∀ S', FrC q S S' → S'.1 75 6 = nI tc → S'.1 75 9 = nI (ts x) → K S') : f_X6_clause G 75 K S := by
  obtain ⟨hS, hA, h5, h77, h78, h8, h80, h6, h7, h9, h86, hc⟩ := id h
  have t4 := hA.1
  have tkb := (hA.2.2 k).1
  refine c_here0 hS hA h5 (fun i hi => (h77 i hi).1) h6 hk ?_
  have bad : ¬ (vbB od ≤ tk k ∧ tk k ≤ vbB od + vbL od) → f_X6_clause_38 G 75 K S := by
    intro hb
    refine h.fail hk (e k ?_)
    unfold gClause; rw [if_neg hb]
  have vb : vbB od ≤ 4 ∧ vbL od ≤ 4 := by unfold vbB vbL; split <;> omega
  have key : ∀ (K' : Int32 → Prop), True := fun _ => trivial
  have c16 : f_X6_clause_16 G 75 (nI (vbB od)) (tI (tk k)) K S := by
    by_cases hv : vbB od ≤ tk k ∧ tk k ≤ vbB od + vbL od
    · have e1 : tI (tk k) - nI (vbB od) = nI (tk k - vbB od) := by
        unfold tI; rw [if_neg (by omega), sbI hv.1]
      refine nm_p e1 (ite_n (nI_nn (by omega)) ?_)
      -- from the verb on
      have hk2 : k < tc := tk_lt hA (by omega)
      generalize hvv : tk k - vbB od = v
      have hv4 : v ≤ vbL od := by omega
      have o35 : f_X6_clause_35 G 75 (nI v) (nI (vbL od)) (nI v) K S := by
        refine ite_y (by rw [leI (by omega) (by omega)]; exact hv4) (c_open (v := v) h hq (fun S1 f1 hE1 h1 a81 a82 a840 => ?_))
        have c74 : f_X6_clause_74 G 75 (nI v) (nI (vbL od)) (nI v) K S1 := by
          have w := c_opt_sum (b := decide (v ≠ vbL od)) (K := fun S2 => f_X6_clause_82 G 75 (nI v) K S2) hE1 h1 (by omega) hp (by omega) (fun k1 p1 one ho S2 N2 c2 us2 g2 g82 g84 hS2 hN2 hsg hc2 hu2 => ?_) (fun x hx S2 g2 hB => ?_)
          · refine ite_c (fun d => ?_) (fun d => ?_)
            · rw [eqI (by omega) (by omega)] at d
              rw [if_neg (by simp [d])] at w; exact w
            · rw [eqI (by omega) (by omega)] at d
              rw [if_pos (by simp [d])] at w; exact w
          · -- behind the first sum
            have ok1 := (gOpt_ok (b := decide (v ≠ vbL od)) (k0 := k + 1) (k := k + 1) (gSum_ok (od := od) hA 8) (by omega) (fun _ => by omega) (Nat.le_refl _) hp).2 k1 p1 one ho
            refine c_mark3 (w := 1) g2.2.1 (by omega) ?_
            have g3 := CGo.mk (w := 1) g2.2.1 (S2.1 80 6)
            have h3 : CSt (uI S2 84 (4 * q + 1) (S2.1 80 6)) od q k1 p1 N2 c2 us2 (uI S2 84 (4 * q + 1) (S2.1 80 6)) := hS2.u84
            have m1 : (uI S2 84 (4 * q + 1) (S2.1 80 6)).1 84 (4 * q + 1) = nI (2 * N2) := by rw [uI_s, if_pos rfl]; exact hS2.2.2.2.2.1
            have m0 : (uI S2 84 (4 * q + 1) (S2.1 80 6)).1 84 (4 * q) = nI (2 * N) := by rw [uI_s, if_neg (by omega), g84]; exact a840
            have m82 : (uI S2 84 (4 * q + 1) (S2.1 80 6)).1 82 q = 1 := by rw [uI_n _ _ _ _ (by omega), g82]; exact a82
            have m81 : (uI S2 84 (4 * q + 1) (S2.1 80 6)).1 81 q = nI v := by rw [uI_n _ _ _ _ (by omega), g2.2.2]; exact a81
            have f3 : FrC q S (uI S2 84 (4 * q + 1) (S2.1 80 6)) := f1.trans (g2.1.trans g3.1)
            generalize uI S2 84 (4 * q + 1) (S2.1 80 6) = S3 at g3 h3 m1 m0 m82 m81 f3 ⊢
            have tail : ∀ k2 p2 two rep, gRest tk tv od v k1 p1 = .inr (k2, p2, two, rep) → ∀ S4 N4 c4 us4, FrC q S S4 → EnvC G S4 tk ts tv tc od q → S4.1 81 q = nI v → S4.1 82 q = nI rep → S4.1 84 (4 * q) = nI (2 * N) → S4.1 84 (4 * q + 1) = nI (2 * N2) → CSt S4 od q k2 p2 N4 c4 us4 S4 → N4 + k1 ≤ N2 + k2 → SgO 0 c4 us4 N2 N4 two → (∀ i, i < N2 → c4 i = c2 i) → (∀ w, us2 w → us4 w) → f_X6_clause_102 G 75 K S4 := by
              intro k2 p2 two rep hr S4 N4 c4 us4 f4 hE4 b81 b82 b840 b841 h4 hN4 hsg4 hc4 hu4
              obtain ⟨r1, r2, r3, r4, r5⟩ := (gRest_ok (od := od) (v := v) hA ok1.2.1 ok1.2.2).2 k2 p2 two rep hr
              refine c_tail hE4 h4 r2 r3 (by omega) ?_ ?_
              · intro k3 p3 test ht S5 N5 c5 us5 g5 g82 t2 t3 tj h5 hN5 hsg5 hc5 hu5
                have er : gClause tk tv od k p = .inr (k3, p3, (v, rep, one, two, test)) := by
                  unfold gClause; rw [if_pos hv, hvv, ho]; simp only []; rw [hr]; simp only []; rw [ht]
                have l2 := hsg.le
                have l4 := hsg4.le
                have l5 := hsg5.le
                refine y k3 p3 _ er S5 N5 c5 (f4.trans g5.1) (CTx.of g5.2.1 h5) ⟨?_, ?_, hv4, r4, r5, N, N2, N4, N5, ?_, ?_, t2, t3, Nat.le_refl _, ?_, ?_, ?_⟩ ?_ (by omega) (by omega)
                · rw [g5.2.2]; exact b81
                · rw [g82]; exact b82
                · rw [tj _ (by omega)]; exact b840
                · rw [tj _ (by omega)]; exact b841
                · exact hsg.keep (fun j x1 x2 => by rw [hc5 j (by omega), hc4 j (by omega)]) (fun w hw => h5.2.2.2.2.2.2 w (hu5 w (hu4 w hw)))
                · exact hsg4.keep (fun j x1 x2 => by rw [hc5 j (by omega)]) (fun w hw => h5.2.2.2.2.2.2 w (hu5 w hw))
                · exact hsg5.keep (fun j x1 x2 => rfl) (fun w hw => h5.2.2.2.2.2.2 w hw)
                · intro j hj
                  rw [hc5 j (by omega), hc4 j (by omega)]; exact hc2 j hj
              · intro x hx S5 g5 hB
                refine e x ?_ S5 (f4.trans g5.1) hB.2.1 hB.2.2.1
                unfold gClause; rw [if_pos hv, hvv, ho]; simp only []; rw [hr]; simp only []; rw [hx]
            cases hod : od with
            | false =>
              refine ite_n (by rw [g3.2.1.fl, hod]; decide) ?_
              refine tail k1 p1 none 1 ?_ S3 N2 c2 us2 f3 g3.2.1 m81 (by rw [m82]; rfl) m0 m1 h3 (by omega) rfl (fun _ _ => rfl) (fun _ h => h)
              unfold gRest; rw [hod, if_neg (by simp)]
            | true =>
              refine ite_y (by rw [g3.2.1.fl, hod]; rfl) ?_
              have hE3 := g3.2.1
              rw [hod] at hE3 h3
              refine c_rest hE3 h3 (by omega) ok1.2.1 ok1.2.2 (by omega) ?_ ?_
              · intro k2 p2 two rep hr S4 N4 c4 us4 g4 hrr h84 h4 hN4 hsg4 hc4 hu4
                refine tail k2 p2 two rep (by rw [hod]; exact hr) S4 N4 c4 us4 (f3.trans g4.1) (by rw [hod]; exact g4.2.1) ?_ ?_ ?_ ?_ (by rw [hod]; exact h4) hN4 hsg4 hc4 hu4
                · rw [g4.2.2]; exact m81
                · rcases hrr with hrr | ⟨hr1, hrr⟩
                  · exact hrr
                  · rw [hrr, m82, hr1]; rfl
                · rw [h84]; exact m0
                · rw [h84]; exact m1
              · intro x hx S4 g4 hB
                refine c_tailB g4.2.1 hB (fun S5 g5 hB5 => e x ?_ S5 (f3.trans (g4.1.trans g5.1)) hB5.2.1 hB5.2.2.1)
                unfold gClause; rw [if_pos hv, hvv, ho]; simp only []; rw [show gRest tk tv od v k1 p1 = .inl x from by rw [hod]; exact hx]
          · refine c_82B g2.2.1 hB (fun S3 g3 hB3 => e x ?_ S3 (f1.trans (g2.1.trans g3.1)) hB3.2.1 hB3.2.2.1)
            unfold gClause; rw [if_pos hv, hvv, hx]
        have fl1 := hE1.fl
        cases hod : od with
        | false =>
          rw [hod] at fl1 c74
          exact ite_n (by rw [fl1]; decide) c74
        | true =>
          rw [hod] at fl1 c74
          exact ite_y (by rw [fl1]; rfl) c74
      cases hod : od with
      | false =>
        rw [hod] at o35 h8
        exact ite_n (by rw [h8]; decide) o35
      | true =>
        rw [hod] at o35 h8
        exact ite_y (by rw [h8]; rfl) o35
    · have bad2 : f_X6_clause_38 G 75 K S := bad hv
      clear bad
      unfold f_X6_clause_16
      by_cases h99 : tk k = 99
      · have : tI (tk k) = -1 := by unfold tI; rw [if_pos h99]
        rw [this]
        cases od with
        | false => exact nm_e (ite_y (by decide) bad2)
        | true => exact nm_e (ite_y (by decide) bad2)
      · have : tI (tk k) = nI (tk k) := by unfold tI; rw [if_neg h99]
        rw [this]
        by_cases hlt : tk k < vbB od
        · exact nm_e (ite_y (pk_sneg (by omega) hlt) bad2)
        · rw [sbI (by omega)]
          have big : ¬ nI (tk k - vbB od) ≤ nI (vbL od) := by rw [leI (by omega) (by omega)]; omega
          refine nm_e (ite_n (nI_nn (by omega)) ?_)
          cases od with
          | false => exact ite_n (by rw [h8]; decide) (ite_n big bad2)
          | true => exact ite_y (by rw [h8]; rfl) (ite_n big bad2)
  cases hod : od with
  | false =>
    rw [hod] at c16 h8
    exact ite_n (by rw [h8]; decide) c16
  | true =>
    rw [hod] at c16 h8
    exact ite_y (by rw [h8]; rfl) c16
end
