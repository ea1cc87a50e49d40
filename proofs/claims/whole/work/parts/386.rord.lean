-- needs: 385
/-! The reference reads orders. -/
/-- an order as the reference keeps it -/
def ORec (i : Nat) (z : Cz) (S : St) (c : Cd) (N : Nat) : Prop := S.1 119 (8 * i) = nI (aV z.1) ∧ z.1 ≤ 4 ∧ S.1 119 (8 * i + 7) = nI z.2.1 ∧ z.2.1 ≤ 20 ∧ ∃ m0 m1 m2 m3 m4 m5, S.1 119 (8 * i + 1) = nI m0 ∧ S.1 119 (8 * i + 2) = nI m1 ∧ S.1 119 (8 * i + 3) = nI m2 ∧ S.1 119 (8 * i + 4) = nI m3 ∧ S.1 119 (8 * i + 5) = nI m4 ∧ S.1 119 (8 * i + 6) = nI m5 ∧ m1 ≤ N ∧ m3 ≤ N ∧ m5 ≤ N ∧ SgO 0 c (UU true) m0 m1 z.2.2.1 ∧ SgO 0 c (UU true) m2 m3 z.2.2.2.1 ∧ SgO 1 c (UU true) m4 m5 z.2.2.2.2
section
variable {G : Gm} {B S S' : St} {Q : Int32 → St → Prop} {K : St → Prop} {k p N n : Nat} {c : Cd} {T : Nat → Nat} {tn : Nat}
theorem ORec.keep {i : Nat} {z : Cz} {c' : Cd} {N' : Nat} (h : ORec i z S c N) (f : FrL n S S') (hi : i < n) (hc : ∀ j, j < N → c' j = c j) (hN : N ≤ N') : ORec i z S' c' N' := by
  obtain ⟨h1, h2, h3, h4, m0, m1, m2, m3, m4, m5, g1, g2, g3, g4, g5, g6, l1, l3, l5, s0, s1, s2⟩ := h
  have r : ∀ j, j < 8 * n → S'.1 119 j = S.1 119 j := fun j hj => (f.2.2.2.2.2 j hj).2
  refine ⟨by rw [r _ (by omega)]; exact h1, h2, by rw [r _ (by omega)]; exact h3, h4, m0, m1, m2, m3, m4, m5, by rw [r _ (by omega)]; exact g1, by rw [r _ (by omega)]; exact g2, by rw [r _ (by omega)]; exact g3, by rw [r _ (by omega)]; exact g4, by rw [r _ (by omega)]; exact g5, by rw [r _ (by omega)]; exact g6, by omega, by omega, by omega, s0.keep (fun k x1 x2 => hc k (by omega)) (fun _ h => h), s1.keep (fun k x1 x2 => hc k (by omega)) (fun _ h => h), s2.keep (fun k x1 x2 => hc k (by omega)) (fun _ h => h)⟩
theorem ino (hS : ShR G S.2.2) {j : Nat} (hj : j < 96) : vp_in (nI j) (G.2.1 119) := by rw [hS.nOrder_l, in_iff (by omega)]; exact hj
theorem m_readSum {A : Nat} (f0 : FrL n B S) (h : RTx G T tn true (n + 1) k p N c S) (hA0 : 8 * n ≤ A) (hA : A + 1 < 96) (hA1 : A + 1 < 8 * (n + 1)) (hk : k ≤ tcT T tn) (hp : p ≤ 50) (y : ∀ k' p' F, gSum (tkT T tn) (tvT T tn) true 8 k p = .inr (k', p', F) → ∀ S' N' c', FrL n B S' → RTx G T tn true (n + 1) k' p' N' c' S' → S'.1 119 A = nI N → S'.1 119 (A + 1) = nI N' → (∀ j, j ≠ A → j ≠ A + 1 → S'.1 119 j = S.1 119 j) → SgO 0 c' (UU true) N N' (some F) → (∀ j, j < N → c' j = c j) → K S') (e : ∀ x, gSum (tkT T tn) (tvT T tn) true 8 k p = .inl x → ∀ S', FrL n B S' → S'.1 87 19 = nI (stT T tn x) → S'.1 87 20 = 1 → K S') : f_X11_readSum G 87 (nI A) K S := by
  have hS := h.1.1
  have r24 : S.1 87 24 = nI N := h.2.2.2.2.2.2.2.2.1
  refine ex_y hS.nOrder ⟨ino hS (by omega), nm_e ?_⟩
  rw [clI (by omega), r24]
  have h1 := h.u (i := 119) (j := A) (v := nI N) (.inr rfl)
  have f1 : FrL n B (uI S 119 A (nI N)) := f0.u (.inl ⟨.inr rfl, hA0⟩)
  have a0 : (uI S 119 A (nI N)).1 119 A = nI N := by rw [uI_s, if_pos rfl]
  have a1 : ∀ j, j ≠ A → (uI S 119 A (nI N)).1 119 j = S.1 119 j := fun j hj => by rw [uI_s, if_neg hj]
  generalize uI S 119 A (nI N) = S1 at h1 f1 a0 a1 ⊢
  refine ite_y h1.2.2.2.2.2.2.2.1 (h1.sum hk hp (fun k' p' F hg S2 N2 c2 hh f2 _ e119 h2 sg hh32 hc => ?_) (fun x hx S2 f2 h19 h20 => ?_))
  · have r24b : S2.1 87 24 = nI N2 := h2.2.2.2.2.2.2.2.2.1
    refine ex_y h2.1.1.nOrder ?_
    rw [nI_1, clI (by omega), r24b]
    refine ⟨ino h2.1.1 (by omega), nm_e (y k' p' F hg _ N2 c2 ((f1.trans (f2.mono (by omega))).u (.inl ⟨.inr rfl, by omega⟩)) (h2.u (.inr rfl)) ?_ ?_ (fun j j1 j2 => ?_) ⟨hh, hh32, sg⟩ hc)⟩
    · rw [uI_s, if_neg (by omega), e119]; exact a0
    · rw [uI_s, if_pos rfl]
    · rw [uI_s, if_neg j2, e119]; exact a1 j j1
  · have hS2 : ShR G S2.2.2 := by rw [f2.1]; exact h1.1.1
    refine ex_y hS2.nOrder ?_
    rw [nI_1, clI (by omega)]
    refine ⟨ino hS2 (by omega), nm_e (e x hx _ ((f1.trans (f2.mono (by omega))).u (.inl ⟨.inr rfl, by omega⟩)) ?_ ?_)⟩
    · rw [uI_n _ _ _ _ (by omega)]; exact h19
    · rw [uI_n _ _ _ _ (by omega)]; exact h20
theorem m_readSumB {A : Nat} {x : Int32} (f0 : FrL n B S) (hS : ShR G S.2.2) (hA0 : 8 * n ≤ A) (hA : A + 1 < 96) (h19 : S.1 87 19 = x) (h20 : S.1 87 20 = 1) (e : ∀ S', FrL n B S' → S'.1 87 19 = x → S'.1 87 20 = 1 → K S') : f_X11_readSum G 87 (nI A) K S := by
  refine ex_y hS.nOrder ⟨ino hS (by omega), nm_e ?_⟩
  rw [clI (by omega)]
  have f1 : FrL n B (uI S 119 A (S.1 87 24)) := f0.u (.inl ⟨.inr rfl, hA0⟩)
  refine ite_n (by rw [uI_n _ _ _ _ (by omega), h20]; decide) (ex_y (by exact hS.nOrder) ?_)
  rw [nI_1, clI (by omega)]
  refine ⟨ino (S := S) hS (by omega), nm_e (e _ (f1.u (.inl ⟨.inr rfl, by omega⟩)) ?_ ?_)⟩
  · rw [uI_n _ _ _ _ (by omega), uI_n _ _ _ _ (by omega)]; exact h19
  · rw [uI_n _ _ _ _ (by omega), uI_n _ _ _ _ (by omega)]; exact h20
theorem m_ordcl (h : RTx G T tn true n k p N c S) (hn : n ≤ 12) (hk : k ≤ tcT T tn) (hp : p ≤ 50) (y : n < 12 → ∀ k' p' z, gClause (tkT T tn) (tvT T tn) true k p = .inr (k', p', z) → ∀ S' N' c', FrL n S S' → RTx G T tn true (n + 1) k' p' N' c' S' → ORec n z S' c' N' → (∀ j, j < N → c' j = c j) → N ≤ N' → K S') (e : ∀ x, (n = 12 ∧ x = k) ∨ (n < 12 ∧ gClause (tkT T tn) (tvT T tn) true k p = .inl x) → ∀ S', FrL n S S' → S'.1 87 19 = nI (stT T tn x) → S'.1 87 20 = 1 → K S') : f_X11_readOrder G 87 K S := by
  have hE := h.env
  have hA := hE.2.1
  have hS := h.1.1
  have t4 := hA.1
  have tkb := (hA.2.2 k).1
  have n8 := h.2.2.2.1
  have head : ∀ v1, v1 = (if 4 ≤ tkT T tn k ∧ tkT T tn k ≤ 8 then nI (aV (tkT T tn k - 4)) else -1) → (if v1 = (-1) then f_X11_readOrder_53 G 87 v1 87 K S else (if 12 ≤ (S.1 87 22) then f_X11_readOrder_53 G 87 v1 87 K S else f_X11_readOrder_54 G 87 v1 1 87 K S)) := by
    intro v1 hv1
    have bad : (n = 12 ∨ ¬ (4 ≤ tkT T tn k ∧ tkT T tn k ≤ 8)) → f_X11_readOrder_53 G 87 v1 87 K S := by
      intro hb
      refine h.must_n (fun S1 f1 h19 h20 => ite_n (by rw [h20]; decide) (e k ?_ S1 f1 h19 h20))
      by_cases h12 : n = 12
      · exact .inl ⟨h12, rfl⟩
      · refine .inr ⟨by omega, ?_⟩
        unfold gClause
        rw [if_neg (by show ¬ (4 ≤ tkT T tn k ∧ tkT T tn k ≤ 4 + 4); rcases hb with hb | hb; exact absurd hb h12; exact hb)]
    by_cases h3 : 4 ≤ tkT T tn k ∧ tkT T tn k ≤ 8
    · rw [if_pos h3] at hv1
      have av5 : aV (tkT T tn k - 4) ≤ 4 := by unfold aV; split <;> (try split) <;> omega
      refine ite_n (by rw [hv1]; exact nI_n1 (by omega)) ?_
      by_cases h12 : n = 12
      · exact ite_y (by rw [n8, lit, leI (by omega) (by omega)]; omega) (bad (.inl h12))
      refine ite_n (by rw [n8, lit, leI (by omega) (by omega)]; omega) ?_
      have hk2 : k < tcT T tn := tk_lt hA (by omega)
      have hv : vbB true ≤ tkT T tn k ∧ tkT T tn k ≤ vbB true + vbL true := h3
      refine h.must_y hk2 (fun S1 f1 h1 => ite_y h1.2.2.2.2.2.2.2.1 (nm_p (e' := nI (8 * n)) (by rw [h1.2.2.2.1, show (8 : Int32) = nI 8 from rfl, pk_mul]) (nm_e ?_)))
      have f1' : FrL n S (uI S1 87 22 (S1.1 87 22 + 1)) := f1.u (by omega)
      have h1' := h1.n22
      generalize uI S1 87 22 (S1.1 87 22 + 1) = S1' at f1' h1' ⊢
      have e1 : nI (8 * n) + 1 = nI (8 * n + 1) := by rw [nI_1]
      have e3 : nI (8 * n) + 3 = nI (8 * n + 3) := by rw [show (3 : Int32) = nI 3 from rfl, nI_add]
      have e5 : nI (8 * n) + 5 = nI (8 * n + 5) := by rw [show (5 : Int32) = nI 5 from rfl, nI_add]
      have e6 : nI (8 * n) + 6 = nI (8 * n + 6) := by rw [show (6 : Int32) = nI 6 from rfl, nI_add]
      have e7 : nI (8 * n) + 7 = nI (8 * n + 7) := by rw [show (7 : Int32) = nI 7 from rfl, nI_add]
      -- behind a fault
      have b251 : ∀ S6 x, FrL n S S6 → gClause (tkT T tn) (tvT T tn) true k p = .inl x → S6.1 87 19 = nI (stT T tn x) → S6.1 87 20 = 1 → f_X11_readOrder_251 G 87 (nI (8 * n)) K S6 := by
        intro S6 x f6 er h19 h20
        have hS6 : ShR G S6.2.2 := by rw [f6.1]; exact hS
        refine ex_y hS6.nOrder ?_
        rw [e6, clI (by omega)]
        refine ⟨ino hS6 (by omega), nm_e (e x (.inr ⟨by omega, er⟩) _ (f6.u (by omega)) ?_ ?_)⟩
        · rw [uI_n _ _ _ _ (by omega)]; exact h19
        · rw [uI_n _ _ _ _ (by omega)]; exact h20
      have b213 : ∀ S6 x, FrL n S S6 → gClause (tkT T tn) (tvT T tn) true k p = .inl x → S6.1 87 19 = nI (stT T tn x) → S6.1 87 20 = 1 → f_X11_readOrder_213 G 87 (nI (8 * n)) K S6 := by
        intro S6 x f6 er h19 h20
        have hS6 : ShR G S6.2.2 := by rw [f6.1]; exact hS
        refine ex_y hS6.nOrder ?_
        rw [e5, clI (by omega)]
        refine ⟨ino hS6 (by omega), nm_e (ite_n (by rw [uI_n _ _ _ _ (by omega), h20]; decide) (b251 _ x (f6.u (by omega)) er ?_ ?_))⟩
        · rw [uI_n _ _ _ _ (by omega)]; exact h19
        · rw [uI_n _ _ _ _ (by omega)]; exact h20
      have b165 : ∀ S6 x, FrL n S S6 → gClause (tkT T tn) (tvT T tn) true k p = .inl x → S6.1 87 19 = nI (stT T tn x) → S6.1 87 20 = 1 → f_X11_readOrder_165 G 87 (nI (8 * n)) K S6 := by
        intro S6 x f6 er h19 h20
        have hS6 : ShR G S6.2.2 := by rw [f6.1]; exact hS
        refine ex_y hS6.nOrder ?_
        rw [e7, clI (by omega)]
        refine ⟨ino hS6 (by omega), nm_e (ite_n (by rw [uI_n _ _ _ _ (by omega), h20]; decide) (b213 _ x (f6.u (by omega)) er ?_ ?_))⟩
        · rw [uI_n _ _ _ _ (by omega)]; exact h19
        · rw [uI_n _ _ _ _ (by omega)]; exact h20
      have b158 : ∀ S6 x, FrL n S S6 → gClause (tkT T tn) (tvT T tn) true k p = .inl x → S6.1 87 19 = nI (stT T tn x) → S6.1 87 20 = 1 → f_X11_readOrder_158 G 87 (nI (8 * n)) K S6 := by
        intro S6 x f6 er h19 h20
        have hS6 : ShR G S6.2.2 := by rw [f6.1]; exact hS
        unfold f_X11_readOrder_158
        rw [e3]
        exact m_readSumB f6 hS6 (by omega) (by omega) h19 h20 (fun S7 f7 g19 g20 => b165 S7 x f7 er g19 g20)
      have b125 : ∀ S6 x, FrL n S S6 → gClause (tkT T tn) (tvT T tn) true k p = .inl x → S6.1 87 19 = nI (stT T tn x) → S6.1 87 20 = 1 → f_X11_readOrder_125 G 87 v1 (nI (8 * n)) K S6 := by
        intro S6 x f6 er h19 h20
        exact ite_c (fun _ => b165 S6 x f6 er h19 h20) (fun _ => ite_n (by rw [h20]; decide) (b158 S6 x f6 er h19 h20))
      -- the test
      have g213 : ∀ k1 p1 one k2 p2 two rep, gOpt (decide (tkT T tn k - vbB true ≠ vbL true)) (gSum (tkT T tn) (tvT T tn) true 8) (k + 1) (k + 1) p = .inr (k1, p1, one) → gRest (tkT T tn) (tvT T tn) true (tkT T tn k - vbB true) k1 p1 = .inr (k2, p2, two, rep) → ∀ S6 N6 c6, FrL n S S6 → RTx G T tn true (n + 1) k2 p2 N6 c6 S6 → S6.1 119 (8 * n) = v1 → S6.1 119 (8 * n + 7) = nI rep → ∀ m0 m1 m2 m3, S6.1 119 (8 * n + 1) = nI m0 → S6.1 119 (8 * n + 2) = nI m1 → S6.1 119 (8 * n + 3) = nI m2 → S6.1 119 (8 * n + 4) = nI m3 → m1 ≤ N6 → m3 ≤ N6 → SgO 0 c6 (UU true) m0 m1 one → SgO 0 c6 (UU true) m2 m3 two → (∀ j, j < N → c6 j = c j) → N ≤ N6 → f_X11_readOrder_213 G 87 (nI (8 * n)) K S6 := by
        intro k1 p1 one k2 p2 two rep ho hr S6 N6 c6 f6 h6 x0 x7 m0 m1 m2 m3 x1 x2 x3 x4 l1 l3 s1 s2 hc6 hN6
        obtain ⟨o1, o2, o3⟩ := (gOpt_ok (b := decide (tkT T tn k - vbB true ≠ vbL true)) (k0 := k + 1) (k := k + 1) (gSum_ok (od := true) hA 8) (by omega) (fun _ => by omega) (Nat.le_refl _) hp).2 k1 p1 one ho
        obtain ⟨q1, q2, q3, q4, q5⟩ := (gRest_ok (od := true) hA o2 o3).2 k2 p2 two rep hr
        have hS6 := h6.1.1
        have r24 : S6.1 87 24 = nI N6 := h6.2.2.2.2.2.2.2.2.1
        refine ex_y hS6.nOrder ?_
        rw [e5, clI (by omega), r24]
        refine ⟨ino hS6 (by omega), nm_e ?_⟩
        have h7 := h6.u (i := 119) (j := 8 * n + 5) (v := nI N6) (.inr rfl)
        have f7 : FrL n S (uI S6 119 (8 * n + 5) (nI N6)) := f6.u (by omega)
        have z5 : (uI S6 119 (8 * n + 5) (nI N6)).1 119 (8 * n + 5) = nI N6 := by rw [uI_s, if_pos rfl]
        have zz : ∀ j, j ≠ 8 * n + 5 → (uI S6 119 (8 * n + 5) (nI N6)).1 119 j = S6.1 119 j := fun j hj => by rw [uI_s, if_neg hj]
        generalize uI S6 119 (8 * n + 5) (nI N6) = S8 at h7 f7 z5 zz ⊢
        have g251 : ∀ k3 p3 test, gOpt (decide (tkT T tn k2 = 9)) (gTest (tkT T tn) (tvT T tn) true 8) k2 (k2 + 1) p2 = .inr (k3, p3, test) → ∀ S9 N9 c9, FrL n S S9 → RTx G T tn true (n + 1) k3 p3 N9 c9 S9 → S9.1 119 = S8.1 119 → SgO 1 c9 (UU true) N6 N9 test → (∀ j, j < N6 → c9 j = c6 j) → f_X11_readOrder_251 G 87 (nI (8 * n)) K S9 := by
          intro k3 p3 test ht S9 N9 c9 f9 h9 e119 sg9 hc9
          have r24 : S9.1 87 24 = nI N9 := h9.2.2.2.2.2.2.2.2.1
          have er : gClause (tkT T tn) (tvT T tn) true k p = .inr (k3, p3, (tkT T tn k - vbB true, rep, one, two, test)) := by
            unfold gClause; rw [if_pos hv, ho]; simp only []; rw [hr]; simp only []; rw [ht]
          have l9 := sg9.le
          refine ex_y h9.1.1.nOrder ?_
          rw [e6, clI (by omega), r24]
          have zw : ∀ j, j ≠ 8 * n + 6 → j ≠ 8 * n + 5 → (uI S9 119 (8 * n + 6) (nI N9)).1 119 j = S6.1 119 j := fun j a b => by rw [uI_s, if_neg a, e119]; exact zz j b
          refine ⟨ino h9.1.1 (by omega), nm_e (y (by omega) k3 p3 _ er _ N9 c9 (f9.u (by omega)) (h9.u (.inr rfl)) ⟨?_, ?_, ?_, q5, m0, m1, m2, m3, N6, N9, ?_, ?_, ?_, ?_, ?_, ?_, by omega, by omega, Nat.le_refl _, ?_, ?_, sg9⟩ ?_ (by omega))⟩
          · rw [zw _ (by omega) (by omega), x0, hv1]; rfl
          · show tkT T tn k - 4 ≤ 4; omega
          · rw [zw _ (by omega) (by omega)]; exact x7
          · rw [zw _ (by omega) (by omega)]; exact x1
          · rw [zw _ (by omega) (by omega)]; exact x2
          · rw [zw _ (by omega) (by omega)]; exact x3
          · rw [zw _ (by omega) (by omega)]; exact x4
          · rw [uI_s, if_neg (by omega), e119]; exact z5
          · rw [uI_s, if_pos rfl]
          · exact s1.keep (fun j _ x2 => hc9 j (by omega)) (fun _ h => h)
          · exact s2.keep (fun j _ x2 => hc9 j (by omega)) (fun _ h => h)
          · intro j hj
            rw [hc9 j (by omega)]; exact hc6 j hj
        refine ite_y h7.2.2.2.2.2.2.2.1 (h7.word (t := 9) (by omega) (fun h9 => ite_n (by decide) ?_) (fun h9 => ite_y rfl ?_))
        · have hk3 : k2 < tcT T tn := tk_lt hA (by omega)
          refine h7.nextk hk3 (fun S9 f9 _ e119n h9' => ?_)
          refine h9'.test (by omega) q3 ?_ ?_
          · intro k3 p3 F hg S10 N10 c10 hh f10 _ e119 h10 sg10 hh10 hc10
            refine g251 k3 p3 (some F) ?_ S10 N10 c10 (f7.trans ((f9.mono (by omega)).trans (f10.mono (by omega)))) h10 ?_ ⟨hh, hh10, sg10⟩ hc10
            · unfold gOpt; rw [if_pos (decide_eq_true h9), hg]
            · rw [e119, e119n]
          · intro x hx S10 f10 h19 h20
            refine b251 S10 x (f7.trans ((f9.mono (by omega)).trans (f10.mono (by omega)))) ?_ h19 h20
            unfold gClause; rw [if_pos hv, ho]; simp only []; rw [hr]; simp only []; unfold gOpt; rw [if_pos (decide_eq_true h9), hx]
        · exact g251 k2 p2 none (by unfold gOpt; rw [if_neg (by simp [h9])]) S8 N6 c6 f7 h7 rfl rfl (fun _ _ => rfl)
      -- how often
      have g165 : ∀ k1 p1 one k2 p2 two, gOpt (decide (tkT T tn k - vbB true ≠ vbL true)) (gSum (tkT T tn) (tvT T tn) true 8) (k + 1) (k + 1) p = .inr (k1, p1, one) → gTwo (tkT T tn) (tvT T tn) (tkT T tn k - vbB true) k1 p1 = .inr (k2, p2, two) → ∀ S6 N6 c6, FrL n S S6 → RTx G T tn true (n + 1) k2 p2 N6 c6 S6 → S6.1 119 (8 * n) = v1 → ∀ m0 m1 m2 m3, S6.1 119 (8 * n + 1) = nI m0 → S6.1 119 (8 * n + 2) = nI m1 → S6.1 119 (8 * n + 3) = nI m2 → S6.1 119 (8 * n + 4) = nI m3 → m1 ≤ N6 → m3 ≤ N6 → SgO 0 c6 (UU true) m0 m1 one → SgO 0 c6 (UU true) m2 m3 two → (∀ j, j < N → c6 j = c j) → N ≤ N6 → f_X11_readOrder_165 G 87 (nI (8 * n)) K S6 := by
        intro k1 p1 one k2 p2 two ho h2 S6 N6 c6 f6 h6 x0 m0 m1 m2 m3 x1 x2 x3 x4 l1 l3 s1 s2 hc6 hN6
        obtain ⟨o1, o2, o3⟩ := (gOpt_ok (b := decide (tkT T tn k - vbB true ≠ vbL true)) (k0 := k + 1) (k := k + 1) (gSum_ok (od := true) hA 8) (by omega) (fun _ => by omega) (Nat.le_refl _) hp).2 k1 p1 one ho
        obtain ⟨q1, q2, q3⟩ := (gTwo_ok (v := tkT T tn k - vbB true) hA o2 o3).2 k2 p2 two h2
        have hS6 := h6.1.1
        have er : ∀ x, gTms (tkT T tn) (tvT T tn) k2 = .inl x → gClause (tkT T tn) (tvT T tn) true k p = .inl x := by
          intro x hx
          unfold gClause; rw [if_pos hv, ho]; simp only []; unfold gRest; rw [if_pos rfl, h2]; simp only []; rw [hx]
        have eg : ∀ k3 rep, gTms (tkT T tn) (tvT T tn) k2 = .inr (k3, rep) → gRest (tkT T tn) (tvT T tn) true (tkT T tn k - vbB true) k1 p1 = .inr (k3, p2, two, rep) := by
          intro k3 rep hx
          unfold gRest; rw [if_pos rfl, h2]; simp only []; rw [hx]
        refine ex_y hS6.nOrder ?_
        rw [e7, clI (by omega)]
        refine ⟨ino hS6 (by omega), nm_e ?_⟩
        have h7 := h6.u (i := 119) (j := 8 * n + 7) (v := 1) (.inr rfl)
        have f7 : FrL n S (uI S6 119 (8 * n + 7) 1) := f6.u (by omega)
        have z7 : (uI S6 119 (8 * n + 7) 1).1 119 (8 * n + 7) = nI 1 := by rw [uI_s, if_pos rfl]; rfl
        have zz : ∀ j, j ≠ 8 * n + 7 → (uI S6 119 (8 * n + 7) 1).1 119 j = S6.1 119 j := fun j hj => by rw [uI_s, if_neg hj]
        generalize uI S6 119 (8 * n + 7) 1 = S8 at h7 f7 z7 zz ⊢
        refine ite_y h7.2.2.2.2.2.2.2.1 (h7.word (t := 10) (by omega) (fun h10 => ite_n (by decide) ?_) (fun h10 => ite_y rfl ?_))
        · have hk3 : k2 < tcT T tn := tk_lt hA (by omega)
          refine h7.nextk hk3 (fun S9 f9 _ e119n h9 => ex_y h9.1.1.nOrder ?_)
          refine h9.number (lo := 1) (hi := 20) (by omega) (by omega) (by omega) (fun t1 t2 t3 S10 f10 h10' => ?_) (fun hno S10 r f10 h19 h20 => ?_)
          · refine ⟨ino h9.1.1 (by omega), nm_e ?_⟩
            have e119 : S10.1 119 = S9.1 119 ∨ True := .inr trivial
            have w119 : ∀ j, j < 8 * (n + 1) → S10.1 119 j = S9.1 119 j := fun j hj => (f10.2.2.2.2.2 j hj).2
            have v : ∀ j, j ≠ 8 * n + 7 → j < 8 * (n + 1) → (uI S10 119 (8 * n + 7) (nI (tvT T tn (k2 + 1)))).1 119 j = S6.1 119 j := fun j a b => by rw [uI_s, if_neg a, w119 j b, e119n]; exact zz j a
            refine g213 k1 p1 one (k2 + 2) p2 two (tvT T tn (k2 + 1)) ho (eg _ _ ?_) _ N6 c6 ((f7.trans ((f9.mono (by omega)).trans (f10.mono (by omega)))).u (by omega)) (h10'.u (.inr rfl)) ?_ ?_ m0 m1 m2 m3 ?_ ?_ ?_ ?_ l1 l3 s1 s2 hc6 hN6
            · unfold gTms; rw [if_pos h10, if_pos ⟨t1, t2, t3⟩]
            · rw [v _ (by omega) (by omega)]; exact x0
            · rw [uI_s, if_pos rfl]
            · rw [v _ (by omega) (by omega)]; exact x1
            · rw [v _ (by omega) (by omega)]; exact x2
            · rw [v _ (by omega) (by omega)]; exact x3
            · rw [v _ (by omega) (by omega)]; exact x4
          · refine ⟨ino h9.1.1 (by omega), nm_e (b213 _ (k2 + 1) ((f7.trans ((f9.mono (by omega)).trans (f10.mono (by omega)))).u (by omega)) (er _ ?_) ?_ ?_)⟩
            · unfold gTms; rw [if_pos h10, if_neg hno]
            · rw [uI_n _ _ _ _ (by omega)]; exact h19
            · rw [uI_n _ _ _ _ (by omega)]; exact h20
        · refine g213 k1 p1 one k2 p2 two 1 ho (eg _ _ ?_) S8 N6 c6 f7 h7 ?_ z7 m0 m1 m2 m3 ?_ ?_ ?_ ?_ l1 l3 s1 s2 hc6 hN6
          · unfold gTms; rw [if_neg h10]
          · rw [zz _ (by omega)]; exact x0
          · rw [zz _ (by omega)]; exact x1
          · rw [zz _ (by omega)]; exact x2
          · rw [zz _ (by omega)]; exact x3
          · rw [zz _ (by omega)]; exact x4
      -- the second sum
      have g125 : ∀ k1 p1 one, gOpt (decide (tkT T tn k - vbB true ≠ vbL true)) (gSum (tkT T tn) (tvT T tn) true 8) (k + 1) (k + 1) p = .inr (k1, p1, one) → ∀ S6 N6 c6, FrL n S S6 → RTx G T tn true (n + 1) k1 p1 N6 c6 S6 → S6.1 119 (8 * n) = v1 → ∀ m0 m1, S6.1 119 (8 * n + 1) = nI m0 → S6.1 119 (8 * n + 2) = nI m1 → S6.1 119 (8 * n + 3) = nI 0 → S6.1 119 (8 * n + 4) = nI 0 → m1 ≤ N6 → SgO 0 c6 (UU true) m0 m1 one → (∀ j, j < N → c6 j = c j) → N ≤ N6 → f_X11_readOrder_125 G 87 v1 (nI (8 * n)) K S6 := by
        intro k1 p1 one ho S6 N6 c6 f6 h6 x0 m0 m1 x1 x2 x3 x4 l1 s1 hc6 hN6
        obtain ⟨o1, o2, o3⟩ := (gOpt_ok (b := decide (tkT T tn k - vbB true ≠ vbL true)) (k0 := k + 1) (k := k + 1) (gSum_ok (od := true) hA 8) (by omega) (fun _ => by omega) (Nat.le_refl _) hp).2 k1 p1 one ho
        have ev : tkT T tn k - vbB true = tkT T tn k - 4 := rfl
        by_cases two : tkT T tn k - 4 = 0 ∨ tkT T tn k - 4 = 2
        · refine ite_n ?_ (ite_y h6.2.2.2.2.2.2.2.1 ?_)
          · rw [hv1, show (2 : Int32) = nI 2 from rfl, leI (by omega) (by omega)]
            unfold aV
            rcases two with h0 | h0
            · rw [h0]; decide
            · rw [h0]; decide
          have er : ∀ x, gTwo (tkT T tn) (tvT T tn) (tkT T tn k - vbB true) k1 p1 = .inl x → gClause (tkT T tn) (tvT T tn) true k p = .inl x := by
            intro x hx
            unfold gClause; rw [if_pos hv, ho]; simp only []; unfold gRest; rw [if_pos rfl, hx]
          have g158 : ∀ t, t < 27 → t = (if tkT T tn k - 4 = 0 then 11 else 12) → f_X11_isWord G 87 (wcd t) (fun r2 S1 => f_X11_must G 87 r2 (fun S3 => f_X11_readOrder_158 G 87 (nI (8 * n)) K S3) S1) S6 := by
            intro t ht et
            refine h6.word ht (fun hw => ?_) (fun hw => ?_)
            · have hk3 : k1 < tcT T tn := tk_lt hA (by rw [hw]; omega)
              refine h6.must_y hk3 (fun S7 f7 h7 => ?_)
              have w119 : ∀ j, j < 8 * (n + 1) → S7.1 119 j = S6.1 119 j := fun j hj => (f7.2.2.2.2.2 j hj).2
              unfold f_X11_readOrder_158
              rw [e3]
              have tw : gTwo (tkT T tn) (tvT T tn) (tkT T tn k - vbB true) k1 p1 = gOpt true (gSum (tkT T tn) (tvT T tn) true 8) (k1 + 1) (k1 + 1) p1 := by
                unfold gTwo; rw [ev, if_pos two, if_pos (by rw [hw]; exact et)]
              refine m_readSum (f6.trans (f7.mono (by omega))) h7 (by omega) (by omega) (by omega) (by omega) o3 (fun k3 p3 F hg S8 N8 c8 f8 h8 y3 y4 yj sg8 hc8 => ?_) (fun x hx S8 f8 h19 h20 => ?_)
              · have l8 := sg8.le
                refine g165 k1 p1 one k3 p3 (some F) ho ?_ S8 N8 c8 f8 h8 ?_ m0 m1 N6 N8 ?_ ?_ y3 y4 (by omega) (Nat.le_refl _) ?_ sg8 ?_ (by omega)
                · rw [tw]; unfold gOpt; rw [if_pos rfl, hg]
                · rw [yj _ (by omega) (by omega), w119 _ (by omega)]; exact x0
                · rw [yj _ (by omega) (by omega), w119 _ (by omega)]; exact x1
                · rw [yj _ (by omega) (by omega), w119 _ (by omega)]; exact x2
                · exact s1.keep (fun j _ q => hc8 j (by omega)) (fun _ h => h)
                · intro j hj; rw [hc8 j (by omega)]; exact hc6 j hj
              · refine b165 S8 x f8 (er x ?_) h19 h20
                rw [tw]; unfold gOpt; rw [if_pos rfl, hx]
            · refine h6.must_n (fun S7 f7 h19 h20 => b158 S7 k1 (f6.trans (f7.mono (by omega))) (er k1 ?_) h19 h20)
              unfold gTwo; rw [ev, if_pos two, if_neg (by rw [← et]; exact hw)]
          refine ite_c (fun h0 => ?_) (fun h0 => ?_)
          · rw [hv1, show (0 : Int32) = nI 0 from rfl, eqI (by omega) (by omega)] at h0
            refine g158 11 (by omega) ?_
            rcases two with h2 | h2
            · rw [if_pos h2]
            · rw [h2] at h0; exact absurd h0 (by decide)
          · rw [hv1, show (0 : Int32) = nI 0 from rfl, eqI (by omega) (by omega)] at h0
            refine g158 12 (by omega) ?_
            rcases two with h2 | h2
            · rw [h2] at h0; exact absurd rfl h0
            · rw [if_neg (by omega)]
        · refine ite_y ?_ (g165 k1 p1 one k1 p1 none ho ?_ S6 N6 c6 f6 h6 x0 m0 m1 0 0 x1 x2 x3 x4 l1 (by omega) s1 rfl hc6 hN6)
          · rw [hv1, show (2 : Int32) = nI 2 from rfl, leI (by omega) (by omega)]
            have q : tkT T tn k - 4 = 1 ∨ tkT T tn k - 4 = 3 ∨ tkT T tn k - 4 = 4 := by omega
            rcases q with h0 | h0 | h0
            · rw [h0]; decide
            · rw [h0]; decide
            · rw [h0]; decide
          · unfold gTwo; rw [ev, if_neg two]
      -- eight zeros first
      have zero : ∀ m j S2, j + m = 8 → FrL n S S2 → RTx G T tn true (n + 1) (k + 1) p N c S2 → (∀ i, i < j → S2.1 119 (8 * n + i) = 0) → f_X11_readOrder_85_n G 87 v1 (nI (8 * n)) K (m + 1) (nI j) S2 := by
        intro m
        induction m with
        | zero =>
          intro j S2 hj f2 h2 z2
          have r24 : S2.1 87 24 = nI N := h2.2.2.2.2.2.2.2.2.1
          rw [f_X11_readOrder_85_n]
          refine ite_y (by simp (disch := omega) only [lit, nI_add, pk_mul, leI, ltI, eqI]; omega) (ex_y h2.1.1.nOrder ⟨ino h2.1.1 (by omega), nm_e ?_⟩)
          rw [clI (by omega)]
          have h5 := h2.u (i := 119) (j := 8 * n) (v := v1) (.inr rfl)
          have f5 : FrL n S (uI S2 119 (8 * n) v1) := f2.u (by omega)
          have a0 : (uI S2 119 (8 * n) v1).1 119 (8 * n) = v1 := by rw [uI_s, if_pos rfl]
          have az : ∀ i, 1 ≤ i → i < 8 → (uI S2 119 (8 * n) v1).1 119 (8 * n + i) = nI 0 := fun i i1 i8 => by rw [uI_s, if_neg (by omega)]; exact z2 i (by omega)
          generalize uI S2 119 (8 * n) v1 = S5 at h5 f5 a0 az ⊢
          refine ite_c (fun d => ?_) (fun d => ?_)
          · have d : tkT T tn k - 4 = 4 := by
              rw [hv1, show (4 : Int32) = nI 4 from rfl, eqI (by omega) (by omega)] at d
              unfold aV at d
              split at d
              · omega
              · split at d <;> omega
            refine g125 (k + 1) p none ?_ S5 N c f5 h5 a0 0 0 (az 1 (by omega) (by omega)) (az 2 (by omega) (by omega)) (az 3 (by omega) (by omega)) (az 4 (by omega) (by omega)) (by omega) rfl (fun _ _ => rfl) (Nat.le_refl _)
            unfold gOpt
            have : decide (tkT T tn k - vbB true ≠ vbL true) = false := by
              show decide (tkT T tn k - 4 ≠ 4) = false
              rw [d]; decide
            rw [this, if_neg (by simp)]
          · have d : ¬ tkT T tn k - 4 = 4 := by
              intro h4
              rw [hv1, h4] at d
              exact d rfl
            have dt : decide (tkT T tn k - vbB true ≠ vbL true) = true := decide_eq_true d
            rw [e1]
            refine m_readSum f5 h5 (by omega) (by omega) (by omega) (by omega) hp (fun k1 p1 F hg S6 N6 c6 f6 h6 y1 y2 yj sg6 hc6 => ?_) (fun x hx S6 f6 h19 h20 => ?_)
            · have l6 := sg6.le
              refine g125 k1 p1 (some F) ?_ S6 N6 c6 f6 h6 ?_ N N6 y1 y2 ?_ ?_ (Nat.le_refl _) sg6 hc6 (by omega)
              · unfold gOpt; rw [dt, if_pos rfl, hg]
              · rw [yj _ (by omega) (by omega)]; exact a0
              · rw [yj _ (by omega) (by omega)]; exact az 3 (by omega) (by omega)
              · rw [yj _ (by omega) (by omega)]; exact az 4 (by omega) (by omega)
            · refine b125 S6 x f6 ?_ h19 h20
              unfold gClause; rw [if_pos hv]; unfold gOpt; rw [dt, if_pos rfl, hx]
        | succ m ih =>
          intro j S2 hj f2 h2 z2
          rw [f_X11_readOrder_85_n]
          refine ite_n (by simp (disch := omega) only [lit, nI_add, pk_mul, leI, ltI, eqI]; omega) (ex_y h2.1.1.nOrder ?_)
          rw [nI_add, clI (by omega), nI_1]
          refine ⟨ino h2.1.1 (by omega), nm_e (ih (j + 1) _ (by omega) (f2.u (by omega)) (h2.u (.inr rfl)) (fun i hi => ?_))⟩
          rw [uI_s]
          by_cases ei : i = j
          · rw [if_pos (by rw [ei])]
          · rw [if_neg (by omega)]; exact z2 i (by omega)
      exact ⟨9, zero 8 0 S1' rfl f1' h1' (fun i hi => absurd hi (by omega))⟩
    · rw [if_neg h3] at hv1
      exact ite_y hv1 (bad (.inr h3))
  have main : ∀ m j, j + m = 5 → f_X11_readOrder_4_n G 87 K (m + 1) (acF pwA nI (tkT T tn k) j) (nI j) S := by
    intro m
    induction m with
    | zero =>
      intro j hj
      rw [f_X11_readOrder_4_n]
      refine ite_y (by simp (disch := omega) only [lit, nI_add, pk_mul, leI, ltI, eqI]; omega) (head _ ?_)
      rw [show j = 5 from by omega, pwA_t tkb]
    | succ m ih =>
      intro j hj
      have w := ih (j + 1) (by omega)
      rw [f_X11_readOrder_4_n]
      obtain ⟨c1, c2⟩ := wdA_c j (by omega)
      refine ite_n (by simp (disch := omega) only [lit, nI_add, pk_mul, leI, ltI, eqI]; omega) (ex_y hS.acts ?_)
      rw [hS.acts_l, in_iff (by omega), clI (by omega), h.2.2.1.2.2.2 j (by omega), c1, nI_1]
      unfold acF at w
      refine ⟨by omega, h.word c2 (fun e => ?_) (fun e => ?_)⟩
      · rw [if_pos e] at w; exact ite_n (by decide) w
      · rw [if_neg e] at w; exact ite_y rfl w
  exact ⟨6, main 5 0 rfl⟩
end
