/-! The reference reads a law. -/
def pwH : List Nat := [0, 1, 2, 3]
def pwA : List Nat := [4, 6, 5, 7, 8]
def aV (v : Nat) : Nat := if v = 1 then 2 else if v = 2 then 1 else v
set_option maxRecDepth 100000 in
theorem pwH_t {t : Nat} (ht : t < 400) : acF pwH nI t 4 = (if t ≤ 3 then nI t else -1) := all_dec (P := fun t => acF pwH nI t 4 = (if t ≤ 3 then nI t else -1)) (by decide +kernel) ht
set_option maxRecDepth 100000 in
theorem pwA_t {t : Nat} (ht : t < 400) : acF pwA nI t 5 = (if 4 ≤ t ∧ t ≤ 8 then nI (aV (t - 4)) else -1) := all_dec (P := fun t => acF pwA nI t 5 = (if 4 ≤ t ∧ t ≤ 8 then nI (aV (t - 4)) else -1)) (by decide +kernel) ht
theorem wdH_c : ∀ j, j < 4 → wdH.getD j 0 = wcd (pwH.getD j 0) ∧ pwH.getD j 0 < 27 := fun j hj => all_dec (N := 4) (P := fun j => wdH.getD j 0 = wcd (pwH.getD j 0) ∧ pwH.getD j 0 < 27) (by decide +kernel) hj
theorem wdA_c : ∀ j, j < 5 → wdA.getD j 0 = wcd (pwA.getD j 0) ∧ pwA.getD j 0 < 27 := fun j hj => all_dec (N := 5) (P := fun j => wdA.getD j 0 = wcd (pwA.getD j 0) ∧ pwA.getD j 0 < 27) (by decide +kernel) hj
/-- a law's clause as the reference keeps it while it reads -/
def LRec (i : Nat) (z : Cz) (S : St) (c : Cd) (N : Nat) : Prop := S.1 98 (8 * i) = nI z.1 ∧ z.1 ≤ 3 ∧ (z.1 = 3 ↔ z.2.2.1 = none) ∧ ∃ m0 m2 m3, S.1 98 (8 * i + 3) = nI m0 ∧ S.1 98 (8 * i + 4) = nI m2 ∧ S.1 98 (8 * i + 5) = nI m2 ∧ S.1 98 (8 * i + 6) = nI m3 ∧ m3 ≤ N ∧ SgO 0 c (UU false) m0 m2 z.2.2.1 ∧ SgO 1 c (UU false) m2 m3 z.2.2.2.2
section
variable {G : Gm} {B S S' : St} {Q : Int32 → St → Prop} {K : St → Prop} {k p N n : Nat} {c : Cd} {T : Nat → Nat} {tn : Nat}
theorem LRec.keep {i : Nat} {z : Cz} {c' : Cd} {N' : Nat} (h : LRec i z S c N) (f : FrL n S S') (hi : i < n) (hc : ∀ j, j < N → c' j = c j) (hN : N ≤ N') : LRec i z S' c' N' := by
  obtain ⟨h1, h2, h3, m0, m2, m3, g0, g2, g2b, g3, gN, s0, s2⟩ := h
  have l0 := s0.le
  have l2 := s2.le
  have r : ∀ j, j < 8 * n → S'.1 98 j = S.1 98 j := fun j hj => (f.2.2.2.2.2 j hj).1
  refine ⟨by rw [r _ (by omega)]; exact h1, h2, h3, m0, m2, m3, ?_, ?_, ?_, ?_, by omega, s0.keep (fun k x1 x2 => hc k (by omega)) (fun _ h => h), s2.keep (fun k x1 x2 => hc k (by omega)) (fun _ h => h)⟩
  · rw [r _ (by omega)]; exact g0
  · rw [r _ (by omega)]; exact g2
  · rw [r _ (by omega)]; exact g2b
  · rw [r _ (by omega)]; exact g3
theorem in96 (hS : ShR G S.2.2) {j : Nat} (hj : j < 96) : vp_in (nI j) (G.2.1 98) := by rw [hS.nClause_l, in_iff (by omega)]; exact hj
theorem m_lawcl (h : RTx G T tn false n k p N c S) (hn : n ≤ 12) (hk : k ≤ tcT T tn) (hp : p ≤ 50) (y : n < 12 → ∀ k' p' z, gClause (tkT T tn) (tvT T tn) false k p = .inr (k', p', z) → ∀ S' N' c', FrL n S S' → RTx G T tn false (n + 1) k' p' N' c' S' → LRec n z S' c' N' → (∀ j, j < N → c' j = c j) → N ≤ N' → K S') (e : ∀ x, (n = 12 ∧ x = k) ∨ (n < 12 ∧ gClause (tkT T tn) (tvT T tn) false k p = .inl x) → ∀ S', FrL n S S' → S'.1 87 19 = nI (stT T tn x) → S'.1 87 20 = 1 → K S') : f_X11_readLaw G 87 K S := by
  have hE := h.env
  have hA := hE.2.1
  have hS := h.1.1
  have t4 := hA.1
  have tkb := (hA.2.2 k).1
  have n8 := h.2.2.2.1
  -- the head is known
  have head : ∀ v1, v1 = (if tkT T tn k ≤ 3 then nI (tkT T tn k) else -1) → (if v1 = (-1) then f_X11_readLaw_53 G 87 v1 87 K S else (if 12 ≤ (S.1 87 22) then f_X11_readLaw_53 G 87 v1 87 K S else f_X11_readLaw_54 G 87 v1 1 87 K S)) := by
    intro v1 hv1
    have bad : (n = 12 ∨ ¬ tkT T tn k ≤ 3) → f_X11_readLaw_53 G 87 v1 87 K S := by
      intro hb
      refine h.must_n (fun S1 f1 h19 h20 => ite_n (by rw [h20]; decide) (e k ?_ S1 f1 h19 h20))
      by_cases h12 : n = 12
      · exact .inl ⟨h12, rfl⟩
      · refine .inr ⟨by omega, ?_⟩
        unfold gClause
        rw [if_neg (by show ¬ (0 ≤ tkT T tn k ∧ tkT T tn k ≤ 0 + 3); rcases hb with hb | hb <;> omega)]
    by_cases h3 : tkT T tn k ≤ 3
    · rw [if_pos h3] at hv1
      refine ite_n (by rw [hv1]; exact nI_n1 (by omega)) ?_
      by_cases h12 : n = 12
      · exact ite_y (by rw [n8, lit, leI (by omega) (by omega)]; omega) (bad (.inl h12))
      refine ite_n (by rw [n8, lit, leI (by omega) (by omega)]; omega) ?_
      have hk2 : k < tcT T tn := tk_lt hA (by omega)
      refine h.must_y hk2 (fun S1 f1 h1 => ite_y h1.2.2.2.2.2.2.2.1 (nm_p (e' := nI (8 * n)) (by rw [h1.2.2.2.1, show (8 : Int32) = nI 8 from rfl, pk_mul]) ?_))
      have body : ∀ S2, FrL n S S2 → RTx G T tn false n (k + 1) p N c S2 → (∃ a2, S2.2.2 87 23 = some a2 ∧ (vp_in (nI (8 * n)) (G.2.1 a2) ∧ ∀ S4, S4 = uI S2 a2 (nI (8 * n)).toNatClampNeg v1 → (∀ S5, S5 = uI S4 87 22 ((S4.1 87 22) + 1) → (∃ a6, S5.2.2 87 23 = some a6 ∧ (vp_in (nI (8 * n) + 3) (G.2.1 a6) ∧ ∀ S8, S8 = uI S5 a6 (nI (8 * n) + 3).toNatClampNeg (S5.1 87 24) → (if v1 = 3 then f_X11_readLaw_135 G 87 (nI (8 * n)) K S8 else f_X11_readExpression G 87 0 (fun S10 => f_X11_readLaw_135 G 87 (nI (8 * n)) K S10) S8)))))) := by
        intro S2 f2 h2
        have e3 : nI (8 * n) + 3 = nI (8 * n + 3) := by rw [show (3 : Int32) = nI 3 from rfl, nI_add]
        have e4 : nI (8 * n) + 4 = nI (8 * n + 4) := by rw [show (4 : Int32) = nI 4 from rfl, nI_add]
        have e5 : nI (8 * n) + 5 = nI (8 * n + 5) := by rw [show (5 : Int32) = nI 5 from rfl, nI_add]
        have e6 : nI (8 * n) + 6 = nI (8 * n + 6) := by rw [show (6 : Int32) = nI 6 from rfl, nI_add]
        refine ex_y h2.1.1.nClause ⟨in96 h2.1.1 (by omega), nm_e (nm_e (ex_y (by exact h2.1.1.nClause) ?_))⟩
        rw [e3, clI (by omega), clI (by omega)]
        have h4 := (h2.u (i := 98) (j := 8 * n) (v := v1) (.inl rfl)).n22
        have r24 : (uI (uI S2 98 (8 * n) v1) 87 22 ((uI S2 98 (8 * n) v1).1 87 22 + 1)).1 87 24 = nI N := h4.2.2.2.2.2.2.2.2.1
        refine ⟨in96 h2.1.1 (by omega), nm_e ?_⟩
        rw [r24]
        have h5 := h4.u (i := 98) (j := 8 * n + 3) (v := nI N) (.inl rfl)
        have f5 : FrL n S (uI (uI (uI S2 98 (8 * n) v1) 87 22 ((uI S2 98 (8 * n) v1).1 87 22 + 1)) 98 (8 * n + 3) (nI N)) := ((f2.u (by omega)).u (by omega)).u (by omega)
        have a0 : (uI (uI (uI S2 98 (8 * n) v1) 87 22 ((uI S2 98 (8 * n) v1).1 87 22 + 1)) 98 (8 * n + 3) (nI N)).1 98 (8 * n) = v1 := by
          rw [uI_s, if_neg (by omega), uI_n _ 87 _ _ (by omega), uI_s, if_pos rfl]
        have a3 : (uI (uI (uI S2 98 (8 * n) v1) 87 22 ((uI S2 98 (8 * n) v1).1 87 22 + 1)) 98 (8 * n + 3) (nI N)).1 98 (8 * n + 3) = nI N := by rw [uI_s, if_pos rfl]
        generalize uI (uI (uI S2 98 (8 * n) v1) 87 22 ((uI S2 98 (8 * n) v1).1 87 22 + 1)) 98 (8 * n + 3) (nI N) = S5 at h5 f5 a0 a3 ⊢
        -- behind a fault
        have b185 : ∀ S6 x, FrL n S S6 → gClause (tkT T tn) (tvT T tn) false k p = .inl x → S6.1 87 19 = nI (stT T tn x) → S6.1 87 20 = 1 → f_X11_readLaw_185 G 87 (nI (8 * n)) K S6 := by
          intro S6 x f6 er h19 h20
          have hS6 : ShR G S6.2.2 := by rw [f6.1]; exact hS
          refine ex_y hS6.nClause ?_
          rw [e6, clI (by omega)]
          refine ⟨in96 hS6 (by omega), nm_e (e x (.inr ⟨by omega, er⟩) _ (f6.u (by omega)) ?_ ?_)⟩
          · rw [uI_n _ _ _ _ (by omega)]; exact h19
          · rw [uI_n _ _ _ _ (by omega)]; exact h20
        have b135 : ∀ S6 x, FrL n S S6 → gClause (tkT T tn) (tvT T tn) false k p = .inl x → S6.1 87 19 = nI (stT T tn x) → S6.1 87 20 = 1 → f_X11_readLaw_135 G 87 (nI (8 * n)) K S6 := by
          intro S6 x f6 er h19 h20
          have hS6 : ShR G S6.2.2 := by rw [f6.1]; exact hS
          refine ex_y hS6.nClause ?_
          rw [e4, clI (by omega)]
          refine ⟨in96 hS6 (by omega), nm_e (ex_y (by exact hS6.nClause) ?_)⟩
          rw [e5, clI (by omega)]
          refine ⟨in96 hS6 (by omega), nm_e ?_⟩
          have q20 : (uI (uI S6 98 (8 * n + 4) (S6.1 87 24)) 98 (8 * n + 5) ((uI S6 98 (8 * n + 4) (S6.1 87 24)).1 87 24)).1 87 20 = 1 := by
            rw [uI_n _ _ _ _ (by omega), uI_n _ _ _ _ (by omega)]; exact h20
          refine ite_n (by rw [q20]; decide) (b185 _ x ((f6.u (by omega)).u (by omega)) er ?_ q20)
          rw [uI_n _ _ _ _ (by omega), uI_n _ _ _ _ (by omega)]; exact h19
        -- the test
        have g135 : ∀ k1 p1 one, gOpt (decide (tkT T tn k - vbB false ≠ vbL false)) (gSum (tkT T tn) (tvT T tn) false 8) (k + 1) (k + 1) p = .inr (k1, p1, one) → ∀ S6 N6 c6, FrL n S S6 → RTx G T tn false (n + 1) k1 p1 N6 c6 S6 → S6.1 98 (8 * n) = v1 → S6.1 98 (8 * n + 3) = nI N → SgO 0 c6 (UU false) N N6 one → (∀ j, j < N → c6 j = c j) → f_X11_readLaw_135 G 87 (nI (8 * n)) K S6 := by
          intro k1 p1 one ho S6 N6 c6 f6 h6 x0 x3 sg6 hc6
          obtain ⟨o1, o2, o3⟩ := (gOpt_ok (b := decide (tkT T tn k - vbB false ≠ vbL false)) (k0 := k + 1) (k := k + 1) (gSum_ok (od := false) hA 8) (by omega) (fun _ => by omega) (Nat.le_refl _) hp).2 k1 p1 one ho
          have hS6 := h6.1.1
          have r24 : S6.1 87 24 = nI N6 := h6.2.2.2.2.2.2.2.2.1
          refine ex_y hS6.nClause ?_
          rw [e4, clI (by omega), r24]
          refine ⟨in96 hS6 (by omega), nm_e (ex_y (by exact hS6.nClause) ?_)⟩
          have h7 := h6.u (i := 98) (j := 8 * n + 4) (v := nI N6) (.inl rfl)
          have r24b : (uI S6 98 (8 * n + 4) (nI N6)).1 87 24 = nI N6 := h7.2.2.2.2.2.2.2.2.1
          rw [e5, clI (by omega), r24b]
          refine ⟨in96 hS6 (by omega), nm_e ?_⟩
          have h8 := h7.u (i := 98) (j := 8 * n + 5) (v := nI N6) (.inl rfl)
          have f8 : FrL n S (uI (uI S6 98 (8 * n + 4) (nI N6)) 98 (8 * n + 5) (nI N6)) := (f6.u (by omega)).u (by omega)
          have z0 : (uI (uI S6 98 (8 * n + 4) (nI N6)) 98 (8 * n + 5) (nI N6)).1 98 (8 * n) = v1 := by rw [uI_s, if_neg (by omega), uI_s, if_neg (by omega)]; exact x0
          have z3 : (uI (uI S6 98 (8 * n + 4) (nI N6)) 98 (8 * n + 5) (nI N6)).1 98 (8 * n + 3) = nI N := by rw [uI_s, if_neg (by omega), uI_s, if_neg (by omega)]; exact x3
          have z4 : (uI (uI S6 98 (8 * n + 4) (nI N6)) 98 (8 * n + 5) (nI N6)).1 98 (8 * n + 4) = nI N6 := by rw [uI_s, if_neg (by omega), uI_s, if_pos rfl]
          have z5 : (uI (uI S6 98 (8 * n + 4) (nI N6)) 98 (8 * n + 5) (nI N6)).1 98 (8 * n + 5) = nI N6 := by rw [uI_s, if_pos rfl]
          generalize uI (uI S6 98 (8 * n + 4) (nI N6)) 98 (8 * n + 5) (nI N6) = S8 at h8 f8 z0 z3 z4 z5 ⊢
          have gr : gRest (tkT T tn) (tvT T tn) false (tkT T tn k - vbB false) k1 p1 = .inr (k1, p1, none, 1) := by unfold gRest; rw [if_neg (by simp)]
          have hv : vbB false ≤ tkT T tn k ∧ tkT T tn k ≤ vbB false + vbL false := ⟨Nat.zero_le _, by show tkT T tn k ≤ 0 + 3; omega⟩
          have g185 : ∀ k2 p2 test, gOpt (decide (tkT T tn k1 = 9)) (gTest (tkT T tn) (tvT T tn) false 8) k1 (k1 + 1) p1 = .inr (k2, p2, test) → ∀ S9 N9 c9, FrL n S S9 → RTx G T tn false (n + 1) k2 p2 N9 c9 S9 → S9.1 98 = S8.1 98 → SgO 1 c9 (UU false) N6 N9 test → (∀ j, j < N6 → c9 j = c6 j) → f_X11_readLaw_185 G 87 (nI (8 * n)) K S9 := by
            intro k2 p2 test ht S9 N9 c9 f9 h9 e98 sg9 hc9
            have r24 : S9.1 87 24 = nI N9 := h9.2.2.2.2.2.2.2.2.1
            have er : gClause (tkT T tn) (tvT T tn) false k p = .inr (k2, p2, (tkT T tn k, 1, one, none, test)) := by
              unfold gClause; rw [if_pos hv, ho]; simp only []; rw [gr]; simp only []; rw [ht]; rfl
            have l6 := sg6.le
            have l9 := sg9.le
            refine ex_y h9.1.1.nClause ?_
            rw [e6, clI (by omega), r24]
            refine ⟨in96 h9.1.1 (by omega), nm_e (y (by omega) k2 p2 _ er _ N9 c9 (f9.u (by omega)) (h9.u (.inl rfl)) ⟨?_, h3, ?_, N, N6, N9, ?_, ?_, ?_, ?_, Nat.le_refl _, ?_, sg9⟩ ?_ (by omega))⟩
            · rw [uI_s, if_neg (by omega), e98, z0]; exact hv1
            · show tkT T tn k = 3 ↔ one = none
              unfold gOpt at ho
              by_cases h33 : tkT T tn k = 3
              · have : decide (tkT T tn k - vbB false ≠ vbL false) = false := by rw [h33]; decide
                rw [this, if_neg (by simp)] at ho
                cases ho
                exact ⟨fun _ => rfl, fun _ => h33⟩
              · have : decide (tkT T tn k - vbB false ≠ vbL false) = true := by
                  apply decide_eq_true
                  show tkT T tn k - 0 ≠ 3
                  omega
                rw [this, if_pos rfl] at ho
                refine ⟨fun h' => absurd h' h33, fun h' => ?_⟩
                subst h'
                revert ho
                cases gSum (tkT T tn) (tvT T tn) false 8 (k + 1) p with
                | inl q => intro ho; cases ho
                | inr r => obtain ⟨q1, q2, q3⟩ := r; intro ho; cases ho
            · rw [uI_s, if_neg (by omega), e98]; exact z3
            · rw [uI_s, if_neg (by omega), e98]; exact z4
            · rw [uI_s, if_neg (by omega), e98]; exact z5
            · rw [uI_s, if_pos rfl]
            · exact sg6.keep (fun j x1 x2 => hc9 j x2) (fun _ h => h)
            · intro j hj
              rw [hc9 j (by omega)]; exact hc6 j hj
          refine ite_y h8.2.2.2.2.2.2.2.1 (h8.word (t := 9) (by omega) (fun h9 => ite_n (by decide) ?_) (fun h9 => ite_y rfl ?_))
          · have hk3 : k1 < tcT T tn := tk_lt hA (by omega)
            refine h8.nextk hk3 (fun S9 f9 e98n _ h9' => ?_)
            refine h9'.test (by omega) o3 ?_ ?_
            · intro k2 p2 F hg S10 N10 c10 hh f10 e98 _ h10 sg10 hh10 hc10
              refine g185 k2 p2 (some F) ?_ S10 N10 c10 (f8.trans ((f9.mono (by omega)).trans (f10.mono (by omega)))) h10 ?_ ⟨hh, hh10, sg10⟩ hc10
              · unfold gOpt; rw [if_pos (decide_eq_true h9), hg]
              · rw [e98, e98n]
            · intro x hx S10 f10 h19 h20
              refine b185 S10 x (f8.trans ((f9.mono (by omega)).trans (f10.mono (by omega)))) ?_ h19 h20
              unfold gClause; rw [if_pos hv, ho]; simp only []; rw [gr]; simp only []; unfold gOpt; rw [if_pos (decide_eq_true h9), hx]
          · exact g185 k1 p1 none (by unfold gOpt; rw [if_neg (by simp [h9])]) S8 N6 c6 f8 h8 rfl rfl (fun _ _ => rfl)
        refine ite_c (fun d => ?_) (fun d => ?_)
        · rw [hv1, show (3 : Int32) = nI 3 from rfl, eqI (by omega) (by omega)] at d
          refine g135 (k + 1) p none ?_ S5 N c f5 h5 a0 a3 rfl (fun _ _ => rfl)
          unfold gOpt
          have : decide (tkT T tn k - vbB false ≠ vbL false) = false := by rw [d]; decide
          rw [this, if_neg (by simp)]
        · rw [hv1, show (3 : Int32) = nI 3 from rfl, eqI (by omega) (by omega)] at d
          have dt : decide (tkT T tn k - vbB false ≠ vbL false) = true := by
            apply decide_eq_true
            show tkT T tn k - 0 ≠ 3
            omega
          have hv : vbB false ≤ tkT T tn k ∧ tkT T tn k ≤ vbB false + vbL false := ⟨Nat.zero_le _, by show tkT T tn k ≤ 0 + 3; omega⟩
          refine h5.sum (by omega) hp ?_ ?_
          · intro k1 p1 F hg S6 N6 c6 hh f6 e98 _ h6 sg6 hh6 hc6
            refine g135 k1 p1 (some F) ?_ S6 N6 c6 (f5.trans (f6.mono (by omega))) h6 (by rw [e98]; exact a0) (by rw [e98]; exact a3) ⟨hh, hh6, sg6⟩ hc6
            unfold gOpt; rw [dt, if_pos rfl, hg]
          · intro x hx S6 f6 h19 h20
            refine b135 S6 x (f5.trans (f6.mono (by omega))) ?_ h19 h20
            unfold gClause; rw [if_pos hv]; unfold gOpt; rw [dt, if_pos rfl, hx]
      -- eight zeros first
      have zero : ∀ m j S2, j + m = 8 → FrL n S S2 → RTx G T tn false n (k + 1) p N c S2 → f_X11_readLaw_75_n G 87 v1 (nI (8 * n)) K (m + 1) (nI j) S2 := by
        intro m
        induction m with
        | zero =>
          intro j S2 hj f2 h2
          rw [f_X11_readLaw_75_n]
          exact ite_y (by simp (disch := omega) only [lit, nI_add, pk_mul, leI, ltI, eqI]; omega) (body S2 f2 h2)
        | succ m ih =>
          intro j S2 hj f2 h2
          rw [f_X11_readLaw_75_n]
          refine ite_n (by simp (disch := omega) only [lit, nI_add, pk_mul, leI, ltI, eqI]; omega) (ex_y h2.1.1.nClause ?_)
          rw [nI_add, clI (by omega), nI_1]
          exact ⟨in96 h2.1.1 (by omega), nm_e (ih (j + 1) _ (by omega) (f2.u (by omega)) (h2.u (.inl rfl)))⟩
      exact ⟨9, zero 8 0 S1 rfl f1 h1⟩
    · rw [if_neg h3] at hv1
      exact ite_y hv1 (bad (.inr h3))
  have main : ∀ m j, j + m = 4 → f_X11_readLaw_4_n G 87 K (m + 1) (acF pwH nI (tkT T tn k) j) (nI j) S := by
    intro m
    induction m with
    | zero =>
      intro j hj
      rw [f_X11_readLaw_4_n]
      refine ite_y (by simp (disch := omega) only [lit, nI_add, pk_mul, leI, ltI, eqI]; omega) (head _ ?_)
      rw [show j = 4 from by omega, pwH_t tkb]
    | succ m ih =>
      intro j hj
      have w := ih (j + 1) (by omega)
      rw [f_X11_readLaw_4_n]
      obtain ⟨c1, c2⟩ := wdH_c j (by omega)
      refine ite_n (by simp (disch := omega) only [lit, nI_add, pk_mul, leI, ltI, eqI]; omega) (ex_y hS.heads ?_)
      rw [hS.heads_l, in_iff (by omega), clI (by omega), h.2.2.1.2.2.1 j (by omega), c1, nI_1]
      unfold acF at w
      refine ⟨by omega, h.word c2 (fun e => ?_) (fun e => ?_)⟩
      · rw [if_pos e] at w; exact ite_n (by decide) w
      · rw [if_neg e] at w; exact ite_y rfl w
  exact ⟨5, main 4 0 rfl⟩
end
