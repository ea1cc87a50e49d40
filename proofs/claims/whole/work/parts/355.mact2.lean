-- needs: 354
section
variable {G : Gm} {S S' : St} {a m : Rw} {L : Nat → Lw} {I : Im} {un tn : Nat} {u : Un} {T : Nat → Nat} {fl : Nat → Int32} {Q : Int32 → St → Prop} {K : St → Prop}
theorem m_exchange {j k : Nat} (hR : Ref G S a L I un u T tn fl m) (hj : j < 6) (hk : k < 6) (ne : j ≠ k) (z : ∀ S', Ref G S' (up (up a (32 + j) (a (32 + k))) (32 + k) (a (32 + j))) L I un u T tn fl m → FrA S S' → K S') : f_X11_exchange G 87 (nI j) (nI k) K S := by
  have hS := hR.1.1
  have st : ∀ (n v : Nat) (S1 : St), n + v = 5 → S1.2 = S.2 → (∀ i, i ≠ 90 → S1.1 i = S.1 i) → (∀ i, ¬ (32 + 5 * j ≤ i ∧ i < 32 + 5 * j + v) → ¬ (32 + 5 * k ≤ i ∧ i < 32 + 5 * k + v) → S1.1 90 i = S.1 90 i) → (∀ i, i < v → S1.1 90 (32 + 5 * j + i) = S.1 90 (32 + 5 * k + i) ∧ S1.1 90 (32 + 5 * k + i) = S.1 90 (32 + 5 * j + i)) → f_X11_exchange_2_n G 87 (nI j) (nI k) K (n + 1) (nI v) S1 := by
    intro n
    induction n with
    | zero =>
      intro v S1 hv e1 e2 e3 e4
      have hv : v = 5 := by omega
      subst hv
      refine ite_y (by simp (disch := omega) only [lit, nI_add, pk_mul, leI, ltI, eqI]; omega) (z S1 ?_ (FrA.of1 e1 e2))
      have g1 : RowR (fun i => if 32 + 5 * j ≤ i ∧ i < 32 + 5 * j + 5 then S.1 90 (32 + 5 * k + (i - (32 + 5 * j))) else S.1 90 i) (up a (32 + j) (a (32 + k))) := by
        refine hR.1.2.1.setG hj (fun i hi => if_neg (by omega)) ?_ (fun q hq => ?_)
        · show (if _ then _ else _) = _
          rw [if_pos (by omega), show 32 + 5 * k + (32 + 5 * j - (32 + 5 * j)) = 32 + 5 * k from by omega]
          exact hR.1.2.1.2.2.2.2.2.2.1 k hk
        · show (if _ then _ else _) = _
          rw [if_pos (by omega), show 32 + 5 * k + (33 + 5 * j + q - (32 + 5 * j)) = 33 + 5 * k + q from by omega]
          exact hR.1.2.1.2.2.2.2.2.2.2.1 k hk q hq
      have g2 : RowR (S1.1 90) (up (up a (32 + j) (a (32 + k))) (32 + k) (a (32 + j))) := by
        refine g1.setG hk (fun i hi => ?_) ?_ (fun q hq => ?_)
        · show _ = (if _ then _ else _)
          by_cases c : 32 + 5 * j ≤ i ∧ i < 32 + 5 * j + 5
          · rw [if_pos c, ← (e4 (i - (32 + 5 * j)) (by omega)).1, show 32 + 5 * j + (i - (32 + 5 * j)) = i from by omega]
          · rw [if_neg c]; exact e3 i c (by omega)
        · rw [show 32 + 5 * k = 32 + 5 * k + 0 from rfl, (e4 0 (by omega)).2]
          exact hR.1.2.1.2.2.2.2.2.2.1 j hj
        · rw [show 33 + 5 * k + q = 32 + 5 * k + (q + 1) from by omega, (e4 (q + 1) (by omega)).2, show 32 + 5 * j + (q + 1) = 33 + 5 * j + q from by omega]
          exact hR.1.2.1.2.2.2.2.2.2.2.1 j hj q hq
      exact hR.row1 g2 (by rw [up_n _ (by omega), up_n _ (by omega)]) (fun i hi => e3 i (by omega) (by omega)) e2 e1
    | succ n ih =>
      intro v S1 hv e1 e2 e3 e4
      rw [f_X11_exchange_2_n]
      refine ite_n (by simp (disch := omega) only [lit, nI_add, pk_mul, leI, ltI, eqI]; omega) (ex_y (by rw [e1]; exact hS.row) ?_)
      simp (disch := omega) only [show (32 : Int32) = nI 32 from rfl, show (5 : Int32) = nI 5 from rfl, nI_1, nI_add, pk_mul, clI]
      refine ⟨inrow hS (by omega), nm_e (ex_y (by rw [e1]; exact hS.row) (ex_y (by rw [e1]; exact hS.row) ⟨inrow hS (by omega), inrow hS (by omega), nm_e (ex_y (by show S1.2.2 _ _ = _; rw [e1]; exact hS.row) ⟨inrow hS (by omega), nm_e ?_⟩)⟩))⟩
      refine ih (v + 1) _ (by omega) e1 (fun i hi => by rw [uI_n _ _ _ _ hi, uI_n _ _ _ _ hi]; exact e2 i hi) (fun i c1 c2 => ?_) (fun i hi => ?_)
      · rw [uI_s, if_neg (by omega), uI_s, if_neg (by omega)]; exact e3 i (by omega) (by omega)
      · rw [uI_s, uI_s, uI_s, uI_s]
        by_cases e : i = v
        · subst e
          rw [if_neg (by omega), if_pos rfl, if_pos rfl]
          exact ⟨e3 _ (by omega) (by omega), e3 _ (by omega) (by omega)⟩
        · rw [if_neg (by omega), if_neg (by omega), if_neg (by omega), if_neg (by omega)]
          exact e4 i (by omega)
  exact ⟨6, st 5 0 S (by omega) rfl (fun _ _ => rfl) (fun _ _ _ => rfl) (fun i hi => absurd hi (by omega))⟩
theorem m_swapNow {j k y : Int32} (hR : Ref G S a L I un u T tn fl m) (hV : Va a) (hu : un ≤ 16)
    (h1 : ∀ n, actA (frc a L) a 2 j k y = .inl n → Q (-(nI n)) S)
    (h2 : ∀ r b, actA (frc a L) a 2 j k y = .inr (r, b) → ∀ S', Ref G S' b L I (min 16 (un + 1)) (psh (2, a) u) T tn fl m → FrA S S' → Q (nI r) S') : f_X11_swapNow G 87 j k Q S := by
  have h6 := hV.1
  unfold f_X11_swapNow
  by_cases hjk : j = k
  · exact ite_y hjk (h1 1 (by unfold actA; rw [if_neg (by omega), if_neg (by omega), if_pos rfl, if_pos hjk]))
  refine ite_n hjk ?_
  rcases ar_c (a 0) (by omega) j with ⟨jj, hjj, rfl⟩ | hj
  · refine m_person_y hR.1.1 hR.1.2.1 hV hjj (ite_n (by decide) ?_)
    rcases ar_c (a 0) (by omega) k with ⟨kk, hkk, rfl⟩ | hk
    · have ne : jj ≠ kk := fun e => hjk (by rw [e])
      have ej : ix (nI jj) = jj := ix_n (by omega)
      have ek : ix (nI kk) = kk := ix_n (by omega)
      refine m_person_y hR.1.1 hR.1.2.1 hV hkk (ite_n (by decide) (m_remember (v := 2) hR hu (fun S1 hR1 o1 => m_exchange hR1 (by omega) (by omega) ne (fun S2 hR2 o2 => ?_))))
      refine m_lensesOf hR2.1.1 hR2.1.2.1 (by omega) (m_lensesOf hR2.1.1 hR2.1.2.1 (by omega) ?_)
      rw [up_s, up_n _ (by omega), up_s, nI_add, Nat.add_comm]
      exact h2 _ _ (by unfold actA; rw [if_neg (by omega), if_neg (by omega), if_pos rfl, if_neg hjk, if_neg (fun h => h (pr_y hV hjj)), if_neg (fun h => h (pr_y hV hkk)), ej, ek]) S2 hR2 (o1.trans o2)
    · exact m_person_n hR.1.1 hR.1.2.1 hV hk (ite_y rfl (h1 2 (by unfold actA; rw [if_neg (by omega), if_neg (by omega), if_pos rfl, if_neg hjk, if_neg (fun h => h (pr_y hV hjj)), if_pos (pr_n hV hk)])))
  · exact m_person_n hR.1.1 hR.1.2.1 hV hj (ite_y rfl (h1 2 (by unfold actA; rw [if_neg (by omega), if_neg (by omega), if_pos rfl, if_neg hjk, if_pos (pr_n hV hj)])))
theorem m1_e (w : Nat) : nI w + (-1) = nI w - 1 := by rw [Int32.sub_eq_add_neg]
/-- any glass is put -/
theorem m_putGlass {j g : Nat} (hR : Ref G S a L I un u T tn fl m) (hj : j < 6) (hg : vG g) (z : ∀ S', Ref G S' (up a (32 + j) g) L I un u T tn fl m → FrA S S' → K S') : f_X11_putGlass G 87 (nI j) (nI g) K S := by
  have hS := hR.1.1
  have g8 := vG_88 hg
  have gl := gn_le g
  -- digits
  have s3 : ∀ (w : Nat) (S1 : St), w ≤ gn g → S1.2 = S.2 → (∀ i, i ≠ 90 → S1.1 i = S.1 i) → (∀ i, (i < 32 + 5 * j ∨ 32 + 5 * j + 5 ≤ i) → S1.1 90 i = S.1 90 i) → S1.1 90 (32 + 5 * j) = nI (gn g) → (∀ i, i < 4 → w ≤ i → S1.1 90 (33 + 5 * j + i) = nI (gk g i)) → f_X11_putGlass_75_n G 87 (nI j) K (w + 1) (nI (g / 10 ^ (gn g - w))) (nI w - 1) S1 := by
    intro w
    induction w with
    | zero =>
      intro S1 hw e1 e2 e3 e4 e5
      refine ite_y (by decide) (z S1 ?_ (FrA.of1 e1 e2))
      exact hR.row1 (hR.1.2.1.setG hj e3 e4 (fun i hi => e5 i hi (by omega))) (up_n a (by omega)) (fun i hi => e3 i (by omega)) e2 e1
    | succ w ih =>
      intro S1 hw e1 e2 e3 e4 e5
      rw [f_X11_putGlass_75_n, nI_pred w]
      have gd : g / 10 ^ (gn g - (w + 1)) ≤ 8888 := Nat.le_trans (Nat.div_le_self _ _) g8
      have dg := dig hg (gn g - (w + 1)) (show gn g - (w + 1) < gn g from by omega)
      have kw : gk g w = g / 10 ^ (gn g - (w + 1)) % 10 - 1 := by unfold gk; rw [if_pos (by omega), show gn g - 1 - w = gn g - (w + 1) from by omega]
      have ih' := ih (uI S1 90 (33 + 5 * j + w) (nI (gk g w))) (by omega) e1 (fun i hi => by rw [uI_n _ _ _ _ hi]; exact e2 i hi) (fun i hi => by rw [uI_s, if_neg (by omega)]; exact e3 i hi) (by rw [uI_s, if_neg (by omega)]; exact e4) (fun i hi hwi => by
        rw [uI_s]
        by_cases e : i = w
        · rw [if_pos (by omega), e]
        · rw [if_neg (by omega)]; exact e5 i hi (by omega))
      rw [show gn g - w = gn g - (w + 1) + 1 from by omega, Nat.pow_succ, ← Nat.div_div_eq_div_mul] at ih'
      generalize g / 10 ^ (gn g - (w + 1)) = x at gd dg kw ih' ⊢
      generalize f_X11_putGlass_75_n G 87 (nI j) K (w + 1) = W at ih' ⊢
      refine ite_n (by simp (disch := omega) only [lit, nI_add, pk_mul, leI, ltI, eqI]; omega) (ex_y (by rw [e1]; exact hS.row) ?_)
      rw [show (10 : Int32) = nI 10 from rfl, rmI (by omega) (by omega) (by omega), dvI (by omega) (by omega) (by omega)]
      simp (disch := omega) only [show (32 : Int32) = nI 32 from rfl, show (5 : Int32) = nI 5 from rfl, nI_1, nI_add, pk_mul, clI]
      rw [show 32 + 5 * j + 1 + w = 33 + 5 * j + w from by omega, lit, sbI (by omega), ← kw]
      refine ⟨inrow hS (by omega), nm_e (nm_e ?_)⟩
      rw [show nI w + -nI 1 = nI w - 1 from m1_e w]; exact ih'
  have s2 : ∀ (n v : Nat) (S1 : St), n + v = 4 → S1.2 = S.2 → (∀ i, i ≠ 90 → S1.1 i = S.1 i) → (∀ i, (i < 32 + 5 * j ∨ 32 + 5 * j + 5 ≤ i) → S1.1 90 i = S.1 90 i) → S1.1 90 (32 + 5 * j) = nI (gn g) → (∀ i, i < v → S1.1 90 (33 + 5 * j + i) = 0) → f_X11_putGlass_38_n G 87 (nI j) (nI g) (nI (gn g)) K (n + 1) (nI v) S1 := by
    intro n
    induction n with
    | zero =>
      intro v S1 hv e1 e2 e3 e4 e5
      have hv : v = 4 := by omega
      subst hv
      refine ite_y (by simp (disch := omega) only [lit, nI_add, pk_mul, leI, ltI, eqI]; omega) (nm_e ⟨gn g + 1, ?_⟩)
      have w := s3 (gn g) S1 (by omega) e1 e2 e3 e4 (fun i hi hw => by rw [e5 i hi, gk_big hw]; rfl)
      rw [show gn g - gn g = 0 from by omega, Nat.pow_zero, Nat.div_one] at w
      exact w
    | succ n ih =>
      intro v S1 hv e1 e2 e3 e4 e5
      rw [f_X11_putGlass_38_n]
      refine ite_n (by simp (disch := omega) only [lit, nI_add, pk_mul, leI, ltI, eqI]; omega) (ex_y (by rw [e1]; exact hS.row) ?_)
      simp (disch := omega) only [show (32 : Int32) = nI 32 from rfl, show (5 : Int32) = nI 5 from rfl, nI_1, nI_add, pk_mul, clI]
      rw [show 32 + 5 * j + 1 + v = 33 + 5 * j + v from by omega]
      refine ⟨inrow hS (by omega), nm_e (ih (v + 1) _ (by omega) e1 (fun i hi => by rw [uI_n _ _ _ _ hi]; exact e2 i hi) (fun i hi => by rw [uI_s, if_neg (by omega)]; exact e3 i hi) (by rw [uI_s, if_neg (by omega)]; exact e4) (fun i hi => ?_))⟩
      rw [uI_s]
      by_cases e : i = v
      · rw [if_pos (by omega)]
      · rw [if_neg (by omega)]; exact e5 i (by omega)
  have fin : f_X11_putGlass_38 G 87 (nI j) (nI g) (nI (gn g)) K 0 (uI S 90 (32 + 5 * j) (nI (gn g))) :=
    ⟨5, s2 4 0 _ (by omega) rfl (fun i hi => uI_n _ _ _ _ hi) (fun i hi => by rw [uI_s, if_neg (by omega)]) (by rw [uI_s, if_pos rfl]) (fun i hi => absurd hi (by omega))⟩
  have s1 : ∀ (n c x : Nat), dgs n x → x ≤ 8888 → c + gnn n x = gn g → f_X11_putGlass_5_n G 87 (nI j) (nI g) K (n + 1) (nI c) (nI x) S := by
    intro n
    induction n with
    | zero =>
      intro c x hx hx8 hc
      have hx : x = 0 := hx
      subst hx
      have hc : c = gn g := hc
      subst hc
      refine ite_y (by decide) (ex_y hS.row ?_)
      simp (disch := omega) only [show (32 : Int32) = nI 32 from rfl, show (5 : Int32) = nI 5 from rfl, nI_add, pk_mul, clI]
      exact ⟨inrow hS (by omega), nm_e fin⟩
    | succ n ih =>
      intro c x hx hx8 hc
      rw [f_X11_putGlass_5_n]
      have hc' : c + (if x = 0 then 0 else gnn n (x / 10) + 1) = gn g := hc
      by_cases h0 : x = 0
      · rw [if_pos h0] at hc'
        subst h0
        have hc' : c = gn g := hc'
        subst hc'
        refine ite_y (by decide) (ex_y hS.row ?_)
        simp (disch := omega) only [show (32 : Int32) = nI 32 from rfl, show (5 : Int32) = nI 5 from rfl, nI_add, pk_mul, clI]
        exact ⟨inrow hS (by omega), nm_e fin⟩
      · rw [if_neg h0] at hc'
        refine ite_n (by rw [lit, leI (by omega) (by omega)]; omega) ?_
        rw [show (10 : Int32) = nI 10 from rfl, dvI (by omega) (by omega) (by omega), nI_1]
        refine nm_e (ih (c + 1) (x / 10) ?_ (by omega) (by omega))
        rcases hx with hx | ⟨_, _, hx⟩
        · exact absurd hx h0
        · exact hx
  exact ⟨5, s1 4 0 g hg g8 (by rw [Nat.zero_add]; rfl)⟩
theorem m_clothNow {j k y : Int32} (hR : Ref G S a L I un u T tn fl m) (hV : Va a) (hu : un ≤ 16)
    (h1 : ∀ n, actA (frc a L) a 3 j k y = .inl n → Q (-(nI n)) S)
    (h2 : ∀ r b, actA (frc a L) a 3 j k y = .inr (r, b) → ∀ S', Ref G S' b L I (min 16 (un + 1)) (psh (3, a) u) T tn fl m → FrA S S' → Q (nI r) S') : f_X11_clothNow G 87 j Q S := by
  have h6 := hV.1
  unfold f_X11_clothNow
  rcases ar_c (a 0) (by omega) j with ⟨jj, hjj, rfl⟩ | hj
  · have ej : ix (nI jj) = jj := ix_n (by omega)
    have gl := gn_le (a (32 + jj))
    have g0 : gn (a (32 + jj)) = 0 ↔ a (32 + jj) = 0 := by
      show (if a (32 + jj) = 0 then 0 else gnn 3 (a (32 + jj) / 10) + 1) = 0 ↔ _
      split <;> simp_all
    refine m_person_y hR.1.1 hR.1.2.1 hV hjj (ite_n (by decide) (m_lensesOf hR.1.1 hR.1.2.1 (by omega) ?_))
    refine ite_c (fun h => ?_) (fun h => ?_)
    · rw [lit, eqI (by omega) (by omega), g0] at h
      exact h1 3 (by unfold actA; rw [if_neg (by omega), if_neg (by omega), if_neg (by omega), if_pos rfl, if_neg (fun h => h (pr_y hV hjj)), ej, if_pos h])
    · rw [lit, eqI (by omega) (by omega), g0] at h
      refine m_remember (v := 3) hR hu (fun S1 hR1 o1 => m_putGlass (g := 0) hR1 (by omega) vG_0 (fun S2 hR2 o2 => ?_))
      exact h2 _ _ (by unfold actA; rw [if_neg (by omega), if_neg (by omega), if_neg (by omega), if_pos rfl, if_neg (fun h => h (pr_y hV hjj)), ej, if_neg h]) S2 hR2 (o1.trans o2)
  · exact m_person_n hR.1.1 hR.1.2.1 hV hj (ite_y rfl (h1 2 (by unfold actA; rw [if_neg (by omega), if_neg (by omega), if_neg (by omega), if_pos rfl, if_pos (pr_n hV hj)])))
end
