/-! The class reads a whole text. -/
def gAft (tk tv : Nat → Nat) (od : Bool) (m q k p : Nat) (L : Nat → Cz) : Nat ⊕ (Nat × (Nat → Cz)) := if tk k = 159 then (if m = 0 then .inl (k + 1) else gText tk tv od m q (k + 1) p L) else if tk k = 51 then .inr (q, L) else .inl k
theorem gText_s {tk tv : Nat → Nat} {od : Bool} {m n k p : Nat} {L : Nat → Cz} : gText tk tv od (m + 1) n k p L = match gClause tk tv od k p with
    | .inl q => .inl q
    | .inr (k', p', z) => gAft tk tv od m (n + 1) k' p' (updZ L n z) := rfl
section
variable {G : Gm} {B S S' : St} {tk ts tv : Nat → Nat} {tc q : Nat} {od : Bool} {Q : Int32 → St → Prop} {K : St → Prop} {k p N : Nat} {c : Cd} {us : Nat → Prop}
def TxtOK (od : Bool) (S : St) (q N : Nat) (c : Cd) (L : Nat → Cz) : Prop := S.1 80 5 = nI q ∧ S.1 80 6 = nI (2 * N) ∧ (∀ i, i < N → S.1 85 (2 * i) = nI (c i).1 ∧ S.1 85 (2 * i + 1) = nI (agC (c i))) ∧ (∀ i, i < q → CRec od i (L i) S c N) ∧ 1 ≤ q ∧ q ≤ 12 ∧ N ≤ 400
/-- what is unlike behind reading -/
def FrD (B S : St) : Prop := S.2 = B.2 ∧ (∀ i, (i < 75 ∨ 85 < i ∨ i = 76) → S.1 i = B.1 i)
theorem FrC.toD (h : FrC q B S) : FrD B S := ⟨h.1, fun i hi => h.2.1 i (by omega)⟩
theorem FrD.trans {S'' : St} (h : FrD S S') (h' : FrD S' S'') : FrD S S'' := ⟨h'.1.trans h.1, fun i hi => (h'.2 i hi).trans (h.2 i hi)⟩
theorem CRec.ag {i : Nat} {z : Cz} (h : CRec od i z S c N) (a1 : S'.1 81 i = S.1 81 i) (a2 : S'.1 82 i = S.1 82 i) (a3 : S'.1 83 i = S.1 83 i) (a4 : S'.1 84 = S.1 84) : CRec od i z S' c N := by
  unfold CRec; rw [a1, a2, a3, a4]; exact h
theorem c_86 {x : Nat} {Q : Int32 → St → Prop} (hS : ShC G S.2.2) (hA : TkA tk ts tv tc) (h5 : S.1 75 5 = nI tc) (ha : ∀ i, i < tc → S.1 77 i = tI (tk i)) (h6 : S.1 75 6 = nI tc) (h9 : S.1 75 9 = nI x) (hx : x ≤ 400) (z : Q 0 (uI S 75 1 0)) : f_X6_reads_86 G 75 Q S := by
  refine c_here0 hS hA h5 ha h6 (Nat.le_refl _) ?_
  rw [hA.2.1 tc (Nat.le_refl _)]
  refine ite_y rfl (nm_e (ite_n ?_ z))
  rw [uI_s, if_neg (by omega), h9]
  exact nI_n1 (by omega)
theorem CTx.next (h : CTx G tk ts tv tc od q k p N c S) : CTx G tk ts tv tc od q (k + 1) p N c (uI S 75 6 (S.1 75 6 + 1)) := by
  obtain ⟨hS, hA, h5, h77, h78, h8, h80, h6, h7, h9, h86, hc⟩ := h
  have r0 : ∀ i, i ≠ 75 → (uI S 75 6 (S.1 75 6 + 1)).1 i = S.1 i := fun i hi => uI_n _ _ _ _ hi
  have r1 : ∀ j, j ≠ 6 → (uI S 75 6 (S.1 75 6 + 1)).1 75 j = S.1 75 j := fun j hj => uI_p _ _ _ _ hj
  exact ⟨hS, hA, by rw [r1 5 (by omega)]; exact h5, by rw [r0 77 (by omega), r0 79 (by omega)]; exact h77, by rw [r0 78 (by omega)]; exact h78, by rw [r1 8 (by omega)]; exact h8, by rw [r0 80 (by omega)]; exact h80, by rw [uI_s, if_pos rfl, h6, nI_1], by rw [r1 7 (by omega)]; exact h7, by rw [r1 9 (by omega)]; exact h9, by rw [r0 80 (by omega)]; exact h86, by rw [r0 85 (by omega)]; exact hc⟩
theorem gClause_ok (hA : TkA tk ts tv tc) {k p : Nat} (hk : k ≤ tc) (hp : p ≤ 50) : (∀ x, gClause tk tv od k p = .inl x → x ≤ tc) ∧ (∀ k' p' z, gClause tk tv od k p = .inr (k', p', z) → k < k' ∧ k' ≤ tc ∧ p' ≤ 50) := by
  unfold gClause
  have vb : vbB od ≤ 4 ∧ vbL od ≤ 4 := by unfold vbB vbL; split <;> omega
  by_cases hv : vbB od ≤ tk k ∧ tk k ≤ vbB od + vbL od
  · rw [if_pos hv]
    have hk2 : k < tc := tk_lt hA (by omega)
    obtain ⟨a1, a2⟩ := gOpt_ok (b := decide (tk k - vbB od ≠ vbL od)) (k0 := k + 1) (k := k + 1) (gSum_ok (od := od) hA 8) (by omega) (fun _ => by omega) (Nat.le_refl _) hp
    cases h1 : gOpt (decide (tk k - vbB od ≠ vbL od)) (gSum tk tv od 8) (k + 1) (k + 1) p with
    | inl x =>
      refine ⟨fun q h => ?_, fun k' p' z h => (by cases h)⟩
      cases h; exact a1 x h1
    | inr r =>
      obtain ⟨k1, p1, one⟩ := r
      obtain ⟨b1, b2, b3⟩ := a2 k1 p1 one h1
      simp only []
      obtain ⟨d1, d2⟩ := gRest_ok (od := od) (v := tk k - vbB od) hA b2 b3
      cases h2 : gRest tk tv od (tk k - vbB od) k1 p1 with
      | inl x =>
        refine ⟨fun q h => ?_, fun k' p' z h => (by cases h)⟩
        cases h; exact d1 x h2
      | inr r2 =>
        obtain ⟨k2, p2, two, rep⟩ := r2
        obtain ⟨e1, e2, e3, _⟩ := d2 k2 p2 two rep h2
        simp only []
        have h9 : tk k2 = 9 → k2 + 1 ≤ tc := fun h => by
          have : k2 < tc := tk_lt hA (by omega)
          omega
        obtain ⟨f1, f2⟩ := gOpt_ok (b := decide (tk k2 = 9)) (k0 := k2) (k := k2 + 1) (gTest_ok (od := od) hA 8) e2 (fun h => h9 (of_decide_eq_true h)) (by omega) e3
        cases h3 : gOpt (decide (tk k2 = 9)) (gTest tk tv od 8) k2 (k2 + 1) p2 with
        | inl x =>
          refine ⟨fun q h => ?_, fun k' p' z h => (by cases h)⟩
          cases h; exact f1 x h3
        | inr r3 =>
          obtain ⟨k3, p3, test⟩ := r3
          have := f2 k3 p3 test h3
          refine ⟨fun q h => (by cases h), fun k' p' z h => ?_⟩
          cases h; omega
  · rw [if_neg hv]
    refine ⟨fun q h => ?_, fun k' p' z h => (by cases h)⟩
    cases h; exact hk
theorem c_loopT {S0 : St} : ∀ m q k p N c L S, q + m = 12 → 1 ≤ q → FrC 0 S0 S → CTx G tk ts tv tc od q k p N c S → (∀ i, i < q → CRec od i (L i) S c N) → k ≤ tc → p ≤ 50 → N ≤ k →
    (∀ q' L', gAft tk tv od m q k p L = .inr (q', L') → ∀ S' N' c', FrD S0 S' → S'.1 75 1 = 0 → S'.1 75 9 = -1 → TxtOK od S' q' N' c' L' → Q 1 S') →
    (∀ x, gAft tk tv od m q k p L = .inl x → ∀ S', FrD S0 S' → S'.1 75 1 = 0 → S'.1 75 9 = nI (ts x) → Q 0 S') → f_X6_reads_37_n G 75 Q (m + 2) (nI q) S := by
  intro m
  induction m with
  | zero =>
    intro q k p N c L S hq hq1 f0 h hR hk hp hN y e
    obtain ⟨hS, hA, h5, h77, h78, h8, h80, h6, h7, h9, h86, hc⟩ := id h
    have t4 := hA.1
    have fin : ¬ tk k = 159 → f_X6_reads_86 G 75 Q S := by
      intro hne
      refine c_here0 hS hA h5 (fun i hi => (h77 i hi).1) h6 hk (ite_c (fun d => nm_e ?_) (fun d => ?_))
      · rw [show (51 : Int32) = nI 51 from rfl, tI_e (hA.2.2 k).1 (by omega) (by omega)] at d
        have r0 : ∀ i, i ≠ 75 → (uI S 75 1 0).1 i = S.1 i := fun i hi => uI_n _ _ _ _ hi
        have h91 : (uI S 75 1 0).1 75 9 = -1 := by rw [uI_s, if_neg (by omega)]; exact h9
        refine ite_y h91 (y q L (by unfold gAft; rw [if_neg hne, if_pos d]) _ N c (f0.toD.trans ⟨rfl, fun i hi => r0 i (by omega)⟩) (by rw [uI_s, if_pos rfl]) h91 ⟨by rw [r0 80 (by omega)]; exact h80, by rw [r0 80 (by omega)]; exact h86, by rw [r0 85 (by omega)]; exact hc, fun i hi => (hR i hi).ag (by rw [r0 81 (by omega)]) (by rw [r0 82 (by omega)]) (by rw [r0 83 (by omega)]) (r0 84 (by omega)), hq1, by omega, by omega⟩)
      · rw [show (51 : Int32) = nI 51 from rfl, tI_e (hA.2.2 k).1 (by omega) (by omega)] at d
        refine h.fail hk (fun S1 f1 a6 a9 => nm_e (ite_n ?_ (e k ?_ _ ((f0.toD.trans f1.toD).trans ⟨rfl, fun i hi => uI_n _ _ _ _ (by omega)⟩) (by rw [uI_s, if_pos rfl]) (by rw [uI_s, if_neg (by omega)]; exact a9))))
        · rw [uI_s, if_neg (by omega), a9]; exact nI_n1 (by have := (hA.2.2 k).2.2; omega)
        · unfold gAft; rw [if_neg hne, if_neg d]
    have hq : q = 12 := by omega
    rw [f_X6_reads_37_n]
    refine ite_n (by rw [hq]; decide) (c_here0 hS hA h5 (fun i hi => (h77 i hi).1) h6 hk (ite_c (fun d => nm_e ?_) (fun d => ?_)))
    · rw [show (159 : Int32) = nI 159 from rfl, tI_e (hA.2.2 k).1 (by omega) (by omega)] at d
      have hk2 : k < tc := tk_lt hA (by omega)
      refine ite_y (by rw [hq]; rfl) (h.next.fail (by omega) (fun S1 f1 a6 a9 => ?_))
      rw [f_X6_reads_37_n]
      have fA : FrC 0 S0 S1 := (f0.u (by omega)).trans (f1.mono (by omega))
      refine ite_y (by rw [hq]; decide) ?_
      have R1 : S1.2.2 = S.2.2 := by rw [f1.1]; rfl
      refine c_86 (tk := tk) (ts := ts) (tv := tv) (tc := tc) (x := ts (k + 1)) (by rw [R1]; exact hS) hA ?_ ?_ a6 a9 (hA.2.2 (k + 1)).2.2 (e (k + 1) ?_ _ (fA.toD.trans ⟨rfl, fun i hi => uI_n _ _ _ _ (by omega)⟩) (by rw [uI_s, if_pos rfl]) (by rw [uI_s, if_neg (by omega)]; exact a9))
      · rw [f1.2.2.1 5 (by omega) (by omega) (by omega), uI_s, if_neg (by omega)]; exact h5
      · rw [f1.2.1 77 (by omega), uI_n _ _ _ _ (by omega)]; exact fun i hi => (h77 i hi).1
      · unfold gAft; rw [if_pos d, if_pos rfl]
    · rw [show (159 : Int32) = nI 159 from rfl, tI_e (hA.2.2 k).1 (by omega) (by omega)] at d
      exact fin d
  | succ m ih =>
    intro q k p N c L S hq hq1 f0 h hR hk hp hN y e
    obtain ⟨hS, hA, h5, h77, h78, h8, h80, h6, h7, h9, h86, hc⟩ := id h
    have t4 := hA.1
    have fin : ¬ tk k = 159 → f_X6_reads_86 G 75 Q S := by
      intro hne
      refine c_here0 hS hA h5 (fun i hi => (h77 i hi).1) h6 hk (ite_c (fun d => nm_e ?_) (fun d => ?_))
      · rw [show (51 : Int32) = nI 51 from rfl, tI_e (hA.2.2 k).1 (by omega) (by omega)] at d
        have r0 : ∀ i, i ≠ 75 → (uI S 75 1 0).1 i = S.1 i := fun i hi => uI_n _ _ _ _ hi
        have h91 : (uI S 75 1 0).1 75 9 = -1 := by rw [uI_s, if_neg (by omega)]; exact h9
        refine ite_y h91 (y q L (by unfold gAft; rw [if_neg hne, if_pos d]) _ N c (f0.toD.trans ⟨rfl, fun i hi => r0 i (by omega)⟩) (by rw [uI_s, if_pos rfl]) h91 ⟨by rw [r0 80 (by omega)]; exact h80, by rw [r0 80 (by omega)]; exact h86, by rw [r0 85 (by omega)]; exact hc, fun i hi => (hR i hi).ag (by rw [r0 81 (by omega)]) (by rw [r0 82 (by omega)]) (by rw [r0 83 (by omega)]) (r0 84 (by omega)), hq1, by omega, by omega⟩)
      · rw [show (51 : Int32) = nI 51 from rfl, tI_e (hA.2.2 k).1 (by omega) (by omega)] at d
        refine h.fail hk (fun S1 f1 a6 a9 => nm_e (ite_n ?_ (e k ?_ _ ((f0.toD.trans f1.toD).trans ⟨rfl, fun i hi => uI_n _ _ _ _ (by omega)⟩) (by rw [uI_s, if_pos rfl]) (by rw [uI_s, if_neg (by omega)]; exact a9))))
        · rw [uI_s, if_neg (by omega), a9]; exact nI_n1 (by have := (hA.2.2 k).2.2; omega)
        · unfold gAft; rw [if_neg hne, if_neg d]
    have w := fun S2 k2 p2 N2 c2 L2 => ih (q + 1) k2 p2 N2 c2 L2 S2 (by omega) (by omega)
    -- one more turn, behind a fault
    have wB : ∀ S1 x, FrC 0 S0 S1 → S1.1 75 6 = nI tc → S1.1 75 9 = nI (ts x) → gAft tk tv od (m + 1) q k p L = .inl x → f_X6_reads_37_n G 75 Q (m + 2) (nI (q + 1)) S1 := by
      intro S1 x fA a6 a9 er
      have b5 : S1.1 75 5 = nI tc := by
        have e1 := fA.2.2.1 5 (by omega) (by omega) (by omega)
        have e2 := f0.2.2.1 5 (by omega) (by omega) (by omega)
        rw [e1, ← e2]; exact h5
      have b77 : ∀ i, i < tc → S1.1 77 i = tI (tk i) := by
        have e1 := fA.2.1 77 (by omega)
        have e2 := f0.2.1 77 (by omega)
        rw [e1, ← e2]; exact fun i hi => (h77 i hi).1
      have R1 : ShC G S1.2.2 := by
        have e1 := fA.1
        have e2 := f0.1
        rw [e1, ← e2]; exact hS
      rw [f_X6_reads_37_n]
      refine ite_n (by rw [lit, ltI (by omega) (by omega)]; omega) (c_here0 R1 hA b5 b77 a6 (Nat.le_refl _) ?_)
      rw [hA.2.1 tc (Nat.le_refl _)]
      refine ite_n (by decide) (c_86 (x := ts x) R1 hA b5 b77 a6 a9 (hA.2.2 x).2.2 (e x er _ (fA.toD.trans ⟨rfl, fun i hi => uI_n _ _ _ _ (by omega)⟩) (by rw [uI_s, if_pos rfl]) (by rw [uI_s, if_neg (by omega)]; exact a9)))
    rw [f_X6_reads_37_n]
    generalize f_X6_reads_37_n G 75 Q (m + 2) = W at w wB ⊢
    refine ite_n (by rw [lit, ltI (by omega) (by omega)]; omega) (c_here0 hS hA h5 (fun i hi => (h77 i hi).1) h6 hk (ite_c (fun d => nm_e ?_) (fun d => ?_)))
    · rw [show (159 : Int32) = nI 159 from rfl, tI_e (hA.2.2 k).1 (by omega) (by omega)] at d
      have hk2 : k < tc := tk_lt hA (by omega)
      have eA : gAft tk tv od (m + 1) q k p L = gText tk tv od (m + 1) q (k + 1) p L := by unfold gAft; rw [if_pos d, if_neg (by omega)]
      have f1 : FrC q S (uI S 75 6 (S.1 75 6 + 1)) := (FrC.refl q S).u (by omega)
      refine ite_n (by rw [lit, eqI (by omega) (by omega)]; omega) (c_clause h.next (by omega) (by omega) hp (by omega) ?_ ?_)
      · intro k' p' z hz S2 N2 c2 f2 h2 hr2 hc2 hN2 hk3
        rw [nI_1]
        have fA : FrC q S S2 := f1.trans f2
        obtain ⟨b1, b2, b3⟩ := (gClause_ok (od := od) (k := k + 1) hA (by omega) hp).2 k' p' z hz
        have eT : gAft tk tv od (m + 1) q k p L = gAft tk tv od m (q + 1) k' p' (updZ L q z) := by rw [eA, gText_s, hz]
        refine w S2 k' p' N2 c2 (updZ L q z) (f0.trans (fA.mono (by omega))) h2 ?_ b2 b3 hk3 ?_ ?_
        · intro i hi
          unfold updZ
          by_cases ei : i = q
          · rw [if_pos ei, ei]; exact hr2
          · rw [if_neg ei]; exact (hR i (by omega)).keep fA (by omega) hc2 hN2
        · intro q' L' hg; exact y q' L' (eT.trans hg)
        · intro x hx; exact e x (eT.trans hx)
      · intro x hx S2 f2 a6 a9
        rw [nI_1]
        refine wB S2 x (f0.trans ((f1.trans f2).mono (by omega))) a6 a9 ?_
        rw [eA, gText_s, hx]
    · rw [show (159 : Int32) = nI 159 from rfl, tI_e (hA.2.2 k).1 (by omega) (by omega)] at d
      exact fin d
theorem c_reads {T : Nat → Nat} {tn : Nat} {v : Int32} {L0 : Nat → Cz} (h : TpC G S T tn) (hv : v = (if od = true then 0 else 1)) (y : ∀ q' L', gText (tkT T tn) (tvT T tn) od 12 0 0 0 L0 = .inr (q', L') → ∀ S' N' c', FrD S S' → S'.1 75 1 = 0 → S'.1 75 9 = -1 → TxtOK od S' q' N' c' L' → Q 1 S') (e : ∀ x, gText (tkT T tn) (tvT T tn) od 12 0 0 0 L0 = .inl x → ∀ S', FrD S S' → S'.1 75 1 = 0 → S'.1 75 9 = nI (stT T tn x) → Q 0 S') : f_X6_reads G 75 v Q S := by
  have h4 := h.2.2.2.1
  have hA := TkA_T (T := T) h4 h.2.2.2.2
  refine ⟨?_, nm_e (nm_e (nm_e (nm_e (ex_y (by exact h.1.r75_10) (nm_e (nm_e ?_))))))⟩
  · rw [hv]; split
    · exact .inl rfl
    · exact .inr rfl
  have r0 : ∀ i, i ≠ 75 → i ≠ 80 → (uI (uI (uI (uI (uI (uI S 75 8 v) 75 9 (-1)) 75 7 0) 75 6 0) 80 5 0) 80 6 0).1 i = S.1 i := by
    intro i a b
    rw [uI_n _ _ _ _ b, uI_n _ _ _ _ b, uI_n _ _ _ _ a, uI_n _ _ _ _ a, uI_n _ _ _ _ a, uI_n _ _ _ _ a]
  have f0 : FrD S (uI (uI (uI (uI (uI (uI S 75 8 v) 75 9 (-1)) 75 7 0) 75 6 0) 80 5 0) 80 6 0) := ⟨rfl, fun i hi => r0 i (by omega) (by omega)⟩
  have a1 : (uI (uI (uI (uI (uI (uI S 75 8 v) 75 9 (-1)) 75 7 0) 75 6 0) 80 5 0) 80 6 0).1 75 1 = nI tn := by
    rw [uI_n _ 80 _ _ (by omega), uI_n _ 80 _ _ (by omega), uI_s, if_neg (by omega), uI_s, if_neg (by omega), uI_s, if_neg (by omega), uI_s, if_neg (by omega)]; exact h.2.1
  have a8 : (uI (uI (uI (uI (uI (uI S 75 8 v) 75 9 (-1)) 75 7 0) 75 6 0) 80 5 0) 80 6 0).1 75 8 = v := by
    rw [uI_n _ 80 _ _ (by omega), uI_n _ 80 _ _ (by omega), uI_s, if_neg (by omega), uI_s, if_neg (by omega), uI_s, if_neg (by omega), uI_s, if_pos rfl]
  have a9 : (uI (uI (uI (uI (uI (uI S 75 8 v) 75 9 (-1)) 75 7 0) 75 6 0) 80 5 0) 80 6 0).1 75 9 = -1 := by
    rw [uI_n _ 80 _ _ (by omega), uI_n _ 80 _ _ (by omega), uI_s, if_neg (by omega), uI_s, if_neg (by omega), uI_s, if_pos rfl]
  have a7 : (uI (uI (uI (uI (uI (uI S 75 8 v) 75 9 (-1)) 75 7 0) 75 6 0) 80 5 0) 80 6 0).1 75 7 = 0 := by
    rw [uI_n _ 80 _ _ (by omega), uI_n _ 80 _ _ (by omega), uI_s, if_neg (by omega), uI_s, if_pos rfl]
  have a6 : (uI (uI (uI (uI (uI (uI S 75 8 v) 75 9 (-1)) 75 7 0) 75 6 0) 80 5 0) 80 6 0).1 75 6 = 0 := by
    rw [uI_n _ 80 _ _ (by omega), uI_n _ 80 _ _ (by omega), uI_s, if_pos rfl]
  have b5 : (uI (uI (uI (uI (uI (uI S 75 8 v) 75 9 (-1)) 75 7 0) 75 6 0) 80 5 0) 80 6 0).1 80 5 = 0 := by
    rw [uI_s, if_neg (by omega), uI_s, if_pos rfl]
  have b6 : (uI (uI (uI (uI (uI (uI S 75 8 v) 75 9 (-1)) 75 7 0) 75 6 0) 80 5 0) 80 6 0).1 80 6 = 0 := by rw [uI_s, if_pos rfl]
  have tp : TpC G (uI (uI (uI (uI (uI (uI S 75 8 v) 75 9 (-1)) 75 7 0) 75 6 0) 80 5 0) 80 6 0) T tn := ⟨h.1, a1, by rw [r0 76 (by omega) (by omega)]; exact h.2.2.1, h.2.2.2⟩
  generalize uI (uI (uI (uI (uI (uI S 75 8 v) 75 9 (-1)) 75 7 0) 75 6 0) 80 5 0) 80 6 0 = S1 at f0 a8 a9 a7 a6 b5 b6 tp ⊢
  refine c_split tp (fun S2 f2 t2 t78 => ?_)
  have tcf := tcT_f (T := T) h4
  have hCT : CTx G (tkT T tn) (stT T tn) (tvT T tn) (tcT T tn) od 0 0 0 0 (fun _ => (0, 0)) S2 := by
    refine ⟨by rw [f2.1]; exact tp.1, hA, t2.1, fun i hi => ⟨(t2.2 i hi).1, (t2.2 i hi).2.2⟩, fun i hi => ?_, ?_, ?_, ?_, ?_, ?_, ?_, fun i hi => absurd hi (by omega)⟩
    · by_cases ei : i = tcT T tn
      · rw [ei, t78, tcf.1]
      · exact (t2.2 i (by omega)).2.1
    · rw [f2.2.2 8 (by omega), a8, hv]
    · rw [f2.2.1 80 (by omega) (by omega) (by omega) (by omega), b5]; rfl
    · rw [f2.2.2 6 (by omega), a6]; rfl
    · rw [f2.2.2 7 (by omega), a7]; rfl
    · rw [f2.2.2 9 (by omega)]; exact a9
    · rw [f2.2.1 80 (by omega) (by omega) (by omega) (by omega), b6]; rfl
  have fA : FrD S S2 := f0.trans ⟨f2.1, fun i hi => f2.2.1 i (by omega) (by omega) (by omega) (by omega)⟩
  refine c_clause hCT (by omega) (by omega) (by omega) (by omega) ?_ ?_
  · intro k' p' z hz S3 N3 c3 f3 h3 hr3 hc3 hN3 hk3
    obtain ⟨b1, b2, b3⟩ := (gClause_ok (od := od) (k := 0) hA (by omega) (by omega)).2 k' p' z hz
    have eT : gText (tkT T tn) (tvT T tn) od 12 0 0 0 L0 = gAft (tkT T tn) (tvT T tn) od 11 1 k' p' (updZ L0 0 z) := by rw [gText_s, hz]
    refine ⟨13, c_loopT (S0 := S2) 11 1 k' p' N3 c3 (updZ L0 0 z) S3 rfl (by omega) f3 h3 ?_ b2 b3 hk3 ?_ ?_⟩
    · intro i hi
      have : i = 0 := by omega
      subst this
      exact hr3
    · intro q' L' hg S' N' c' fd c1 c9 ht; exact y q' L' (eT.trans hg) S' N' c' (fA.trans fd) c1 c9 ht
    · intro x hx S' fd c1 c9; exact e x (eT.trans hx) S' (fA.trans fd) c1 c9
  · intro x hx S3 f3 c6 c9
    have er : gText (tkT T tn) (tvT T tn) od 12 0 0 0 L0 = .inl x := by rw [gText_s, hx]
    have hS3 : ShC G S3.2.2 := by rw [f3.1, f2.1]; exact tp.1
    have c5 : S3.1 75 5 = nI (tcT T tn) := (f3.2.2.1 5 (by omega) (by omega) (by omega)).trans t2.1
    have c77 : ∀ i, i < tcT T tn → S3.1 77 i = tI (tkT T tn i) := by rw [f3.2.1 77 (by omega)]; exact fun i hi => (t2.2 i hi).1
    refine ⟨1, ?_⟩
    rw [f_X6_reads_37_n]
    refine ite_n (by decide) (c_here0 hS3 hA c5 c77 c6 (Nat.le_refl _) ?_)
    rw [hA.2.1 _ (Nat.le_refl _)]
    refine ite_n (by decide) (c_86 (x := stT T tn x) hS3 hA c5 c77 c6 c9 (hA.2.2 x).2.2 (e x er _ ((fA.trans f3.toD).trans ⟨rfl, fun i hi => uI_n _ _ _ _ (by omega)⟩) (by rw [uI_s, if_pos rfl]) (by rw [uI_s, if_neg (by omega)]; exact c9)))
end
