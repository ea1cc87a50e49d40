-- needs: 353
/-! The reference's deeds. -/
section
variable {G : Gm} {S S' : St} {a m : Rw} {L : Nat → Lw} {I : Im} {un tn : Nat} {u : Un} {T : Nat → Nat} {fl : Nat → Int32} {Q : Int32 → St → Prop} {K : St → Prop}
theorem OffC.of1 (h1 : S'.2 = S.2) (h2 : ∀ i, i ≠ 90 → S'.1 i = S.1 i) : OffC S S' := ⟨by rw [h1], fun i hi => ⟨h2 i (by omega), by rw [h1]⟩⟩
theorem Ref.row1 {b : Rw} (h : Ref G S a L I un u T tn fl m) (hf : RowR (S'.1 90) b) (hb : b 2 = a 2) (h85 : ∀ i, 85 ≤ i → S'.1 90 i = S.1 90 i) (hM : ∀ i, i ≠ 90 → S'.1 i = S.1 i) (hJ : S'.2 = S.2) : Ref G S' b L I un u T tn fl m :=
  h.row hf hb h85 rfl hM hJ
theorem m_sinNow {j k y : Int32} (hR : Ref G S a L I un u T tn fl m) (hV : Va a) (hu : un ≤ 16)
    (h1 : ∀ n, actA (frc a L) a 0 j k y = .inl n → Q (-(nI n)) S)
    (h2 : ∀ r b, actA (frc a L) a 0 j k y = .inr (r, b) → ∀ S', Ref G S' b L I (min 16 (un + 1)) (psh (0, a) u) T tn fl m → FrA S S' → Q (nI r) S') : f_X11_sinNow G 87 j k y Q S := by
  have h6 := hV.1
  have e8 : (8 : Int64).toInt = 8 := rfl
  have em8 : (-8 : Int64).toInt = -8 := rfl
  have e0 : (0 : Int64).toInt = 0 := rfl
  unfold f_X11_sinNow
  by_cases hk : ¬ (0 ≤ k.toInt ∧ k.toInt < 4)
  · exact m_kind_n (k_rng (n := 4) (by omega) hk) (ite_y rfl (h1 1 (by unfold actA; rw [if_pos rfl, if_pos hk])))
  obtain ⟨kk, hkk, rfl⟩ := (ar_c 4 (by omega) k).resolve_right (fun h => hk (rg_no (n := 4) (by omega) h))
  refine m_kind_y hkk (ite_n (by decide) (m_in (fun y1 y2 => ite_n (by decide) ?_) (fun hy => ite_y rfl (h1 1 (by unfold actA; rw [if_pos rfl, if_neg hk, if_pos (by rw [i32_64] at hy; omega)])))))
  rw [i32_64] at y1 y2
  have hy : ¬ ¬ (-8 ≤ y.toInt ∧ y.toInt ≤ 8) := by omega
  rcases ar_c (a 0) (by omega) j with ⟨jj, hjj, rfl⟩ | hj
  · have s8 := hV.sin (i := 4 * jj + kk) (by omega)
    have ej : ix (nI jj) = jj := ix_n (by omega)
    have ek : ix (nI kk) = kk := ix_n (by omega)
    refine m_person_y hR.1.1 hR.1.2.1 hV hjj (ite_n (by decide) (ex_y hR.1.1.row ?_))
    simp (disch := omega) only [show (8 : Int32) = nI 8 from rfl, show (4 : Int32) = nI 4 from rfl, nI_add, pk_mul, clI]
    refine ⟨inrow hR.1.1 (by omega), ?_⟩
    rw [show 8 + 4 * jj + kk = 8 + (4 * jj + kk) from by omega, hR.1.2.1.2.2.2.2.2.1 _ (by omega)]
    refine nm_e ?_
    have ex : (nI (a (8 + (4 * jj + kk))) + y).toInt = (a (8 + (4 * jj + kk)) : Int) + y.toInt := by rw [add_i, nI_toInt (by omega)] <;> rw [nI_toInt (by omega)] <;> omega
    refine m_in (fun x1 x2 => ite_n (by decide) ?_) (fun hx => ite_y rfl (h1 3 (by unfold actA; rw [if_pos rfl, if_neg hk, if_neg hy, if_neg (fun h => h (pr_y hV hjj)), ej, ek, if_neg (by rw [i32_64, ex] at hx; omega)])))
    rw [i32_64, ex] at x1 x2
    have en : nI (a (8 + (4 * jj + kk))) + y = nI ((a (8 + (4 * jj + kk)) : Int) + y.toInt).toNat := i32n (by omega) (by rw [ex]; omega)
    rw [en]
    refine m_remember (v := 0) hR hu (fun S1 hR1 o1 => ex_y hR1.1.1.row ⟨inrow hR1.1.1 (by omega), nm_e ?_⟩)
    refine h2 _ _ (by unfold actA; rw [if_pos rfl, if_neg hk, if_neg hy, if_neg (fun h => h (pr_y hV hjj)), ej, ek, if_pos (by omega)]) _ (hR1.set (by unfold posR; omega) (by omega)) (o1.pu (by omega))
  · exact m_person_n hR.1.1 hR.1.2.1 hV hj (ite_y rfl (h1 2 (by unfold actA; rw [if_pos rfl, if_neg hk, if_neg hy, if_pos (pr_n hV hj)])))
theorem gk_big {g i : Nat} (h : gn g ≤ i) : gk g i = 0 := if_neg (by omega)
theorem m_grindIt {j : Nat} (hR : Ref G S a L I un u T tn fl m) (hV : Va a) (hj : j < 6) (z : ∀ S', Ref G S' (up a (32 + j) (glsA (frc a L) a j)) L I un u T tn fl m → FrA S S' → Q (nI (gn (glsA (frc a L) a j))) S') : f_X11_grindIt G 87 (nI j) Q S := by
  refine m_layGround (hR.rfp hV) hj (fun S1 f1 hl => ?_)
  have hR1 := hR.frX f1 (by intro i hi; omega)
  have o1 : FrA S S1 := f1.toA
  have hS := hR1.1.1
  refine nm_p (e' := nI (33 + 5 * j)) (by simp (disch := omega) only [lit, nI_add, pk_mul]; congr 1; omega) (ex_y hS.row ?_)
  rw [lit, sbI (by omega), clI (by omega), show 33 + 5 * j - 1 = 32 + 5 * j from by omega]
  refine ⟨inrow hS (by omega), nm_e ?_⟩
  have gle := gn_le (glsA (frc a L) a j)
  -- the lenses are laid
  have s2 : ∀ (n k : Nat) (S2 : St), n + k = 4 → S2.2 = S1.2 → (∀ i, i ≠ 90 → S2.1 i = S1.1 i) → (∀ i, (i < 32 + 5 * j ∨ 32 + 5 * j + 5 ≤ i) → S2.1 90 i = S1.1 90 i) → S2.1 90 (32 + 5 * j) = nI (gn (glsA (frc a L) a j)) → (∀ i, i < 4 → S2.1 90 (33 + 5 * j + i) = nI (gk (glsK (frc a L) a j k) i)) → f_X11_grindIt_52_n G 87 (nI (gn (glsA (frc a L) a j))) Q (n + 1) (nI (33 + 5 * j + gn (glsK (frc a L) a j k))) (nI k) S2 := by
    intro n
    induction n with
    | zero =>
      intro k S2 hk e1 e2 e3 e4 e5
      have hk : k = 4 := by omega
      subst hk
      refine ite_y (by simp (disch := omega) only [lit, nI_add, pk_mul, leI, ltI, eqI]; omega) (z S2 ?_ (o1.trans (FrA.of1 e1 e2)))
      exact hR1.row1 (hR1.1.2.1.setG hj e3 e4 (by rw [← glsK_4]; exact e5)) (up_n a (by omega)) (fun i hi => e3 i (by omega)) e2 e1
    | succ n ih =>
      intro k S2 hk e1 e2 e3 e4 e5
      rw [f_X11_grindIt_52_n]
      have gk4 : gn (glsK (frc a L) a j k) ≤ k := by
        have h := glsK_d (lo := frc a L) (a := a) (j := j) k (by omega)
        have : ∀ {n g : Nat}, dgs n g → gnn n g ≤ n := by
          intro n
          induction n with
          | zero => intro g h; exact Nat.le_refl 0
          | succ n ih => intro g h; show (if g = 0 then 0 else gnn n (g / 10) + 1) ≤ n + 1
                         rcases h with h | ⟨_, _, h⟩
                         · rw [if_pos h]; omega
                         · split
                           · omega
                           · have := ih h; omega
        have gg : ∀ q, ∀ {n g : Nat}, dgs n g → gnn (n + q) g = gnn n g := by
          intro q
          induction q with
          | zero => intro n g h; rfl
          | succ q ih => intro n g h; rw [show n + (q + 1) = (n + q) + 1 from by omega, gnn_up (dgs_m h (by omega)), ih h]
        have e := gg (4 - k) h
        rw [show k + (4 - k) = 4 from by omega] at e
        unfold gn
        rw [e]; exact this h
      have l7 := lenA_le (lo := frc a L) (a := a) (j := j) (k := k) (by omega)
      refine ite_n (by simp (disch := omega) only [lit, nI_add, pk_mul, leI, ltI, eqI]; omega) (ex_y (by rw [e1]; exact hS.groundTo) ⟨by rw [hS.groundTo_l, in_iff (by omega)]; omega, ?_⟩)
      have el : S2.1 110 k = nI (lenA (frc a L) a j k) := by rw [e2 110 (by omega)]; exact hl k (by omega)
      rw [clI (by omega), el, nI_1]
      have d3 : dgs 3 (glsK (frc a L) a j k) := dgs_m (glsK_d k (by omega)) (by omega)
      refine ite_c (fun d => ?_) (fun d => ?_)
      · rw [lit, eqI (by omega) (by omega)] at d
        have eg : glsK (frc a L) a j (k + 1) = glsK (frc a L) a j k := by show gAdd _ _ = _; unfold gAdd; rw [if_pos d]
        have w := ih (k + 1) S2 (by omega) e1 e2 e3 e4 (by rw [eg]; exact e5)
        rw [eg] at w; exact w
      · rw [lit, eqI (by omega) (by omega)] at d
        have eg : glsK (frc a L) a j (k + 1) = glsK (frc a L) a j k * 10 + lenA (frc a L) a j k + 1 := by show gAdd _ _ = _; unfold gAdd; rw [if_neg d]
        refine ex_y (by rw [e1]; exact hS.row) (ex_y (by rw [e1]; exact hS.groundTo) ⟨by rw [hS.groundTo_l, in_iff (by omega)]; omega, inrow hS (by omega), nm_e ?_⟩)
        rw [clI (by omega), el, nI_1]
        have w := ih (k + 1) (uI S2 90 (33 + 5 * j + gn (glsK (frc a L) a j k)) (nI (lenA (frc a L) a j k))) (by omega) e1 (fun i hi => by rw [uI_n _ _ _ _ hi]; exact e2 i hi) (fun i hi => by rw [uI_s, if_neg (by omega)]; exact e3 i hi) (by rw [uI_s, if_neg (by omega)]; exact e4) (fun i hi => by
          rw [uI_s, eg, gk_add d3 l7]
          by_cases c1 : i = gn (glsK (frc a L) a j k)
          · rw [if_pos (by omega), if_neg (by omega), if_pos c1]
          · rw [if_neg (by omega), e5 i hi]
            by_cases c2 : i < gn (glsK (frc a L) a j k)
            · rw [if_pos c2]
            · rw [if_neg c2, if_neg c1, gk_big (by omega)])
        rw [eg, gn_add d3 l7, ← Nat.add_assoc] at w; exact w
  have s1 : ∀ (n k : Nat) (S2 : St), n + k = 4 → S2.2 = S1.2 → (∀ i, i ≠ 90 → S2.1 i = S1.1 i) → (∀ i, (i < 32 + 5 * j ∨ 32 + 5 * j + 5 ≤ i) → S2.1 90 i = S1.1 90 i) → S2.1 90 (32 + 5 * j) = nI (gn (glsA (frc a L) a j)) → (∀ i, i < k → S2.1 90 (33 + 5 * j + i) = 0) → f_X11_grindIt_27_n G 87 (nI (gn (glsA (frc a L) a j))) (nI (33 + 5 * j)) Q (n + 1) (nI k) S2 := by
    intro n
    induction n with
    | zero =>
      intro k S2 hk e1 e2 e3 e4 e5
      have hk : k = 4 := by omega
      subst hk
      exact ite_y (by simp (disch := omega) only [lit, nI_add, pk_mul, leI, ltI, eqI]; omega) ⟨5, s2 4 0 S2 (by omega) e1 e2 e3 e4 (fun i hi => by rw [e5 i hi]; show (0 : Int32) = nI (gk 0 i); rw [gk_big (by rw [gn_0]; omega)]; rfl)⟩
    | succ n ih =>
      intro k S2 hk e1 e2 e3 e4 e5
      rw [f_X11_grindIt_27_n]
      refine ite_n (by simp (disch := omega) only [lit, nI_add, pk_mul, leI, ltI, eqI]; omega) (ex_y (by rw [e1]; exact hS.row) ?_)
      rw [nI_add, clI (by omega), nI_1]
      refine ⟨inrow hS (by omega), nm_e (ih (k + 1) _ (by omega) e1 (fun i hi => by rw [uI_n _ _ _ _ hi]; exact e2 i hi) (fun i hi => by rw [uI_s, if_neg (by omega)]; exact e3 i hi) (by rw [uI_s, if_neg (by omega)]; exact e4) (fun i hi => ?_))⟩
      rw [uI_s]
      by_cases e : i = k
      · rw [if_pos (by omega)]
      · rw [if_neg (by omega)]; exact e5 i (by omega)
  exact ⟨5, s1 4 0 _ (by omega) rfl (fun i hi => uI_n _ _ _ _ hi) (fun i hi => by rw [uI_s, if_neg (by omega)]) (by rw [uI_s, if_pos rfl]) (fun i hi => absurd hi (by omega))⟩
theorem m_grindNow {j k y : Int32} (hR : Ref G S a L I un u T tn fl m) (hV : Va a) (hu : un ≤ 16)
    (h1 : ∀ n, actA (frc a L) a 1 j k y = .inl n → ∀ S', Ref G S' a L I un u T tn fl m → FrA S S' → Q (-(nI n)) S')
    (h2 : ∀ r b, actA (frc a L) a 1 j k y = .inr (r, b) → ∀ S', Ref G S' b L I (min 16 (un + 1)) (psh (1, a) u) T tn fl m → FrA S S' → Q (nI r) S') : f_X11_grindNow G 87 j Q S := by
  have h6 := hV.1
  unfold f_X11_grindNow
  rcases ar_c (a 0) (by omega) j with ⟨jj, hjj, rfl⟩ | hj
  · have ej : ix (nI jj) = jj := ix_n (by omega)
    refine m_person_y hR.1.1 hR.1.2.1 hV hjj (ite_n (by decide) (m_isBarred (hR.rfp hV) (by omega) (fun S1 f1 => ?_)))
    have hR1 := hR.frR f1
    by_cases hb : barA (frc a L) a jj = true
    · rw [if_pos hb]
      exact ite_n (by decide) (h1 3 (by unfold actA; rw [if_neg (by omega), if_pos rfl, if_neg (fun h => h (pr_y hV hjj)), ej, if_pos hb]) S1 hR1 f1.toA)
    · rw [if_neg hb]
      refine ite_y rfl (m_remember (v := 1) hR1 hu (fun S2 hR2 o2 => m_grindIt hR2 hV (by omega) (fun S3 hR3 o3 => ?_)))
      exact h2 _ _ (by unfold actA; rw [if_neg (by omega), if_pos rfl, if_neg (fun h => h (pr_y hV hjj)), ej, if_neg hb]) S3 hR3 ((f1.toA.trans o2).trans o3)
  · exact m_person_n hR.1.1 hR.1.2.1 hV hj (ite_y rfl (h1 2 (by unfold actA; rw [if_neg (by omega), if_pos rfl, if_pos (pr_n hV hj)]) S hR (FrA.refl S)))
end
