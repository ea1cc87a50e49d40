/-! The class reads comparisons and tests. -/
section
variable {G : Gm} {B S : St} {tk ts tv : Nat → Nat} {tc q : Nat} {od : Bool} {Q : Int32 → St → Prop} {K : St → Prop} {k p N : Nat} {c : Cd} {us : Nat → Prop}
variable {R : Nat → Int32 → (St → Prop) → St → Prop} {so : Option (Nat → Nat → Ex)} {d : Nat}
theorem c_cmp {n : Nat} (hE : EnvC G B tk ts tv tc od q) (hd : d + n = 8) : CSim B ts tc od q 1 (2 * n + 4) (fun K S => f_X6_comparison G 75 (nI d) K S) (gCmp tk (gSum tk tv od n)) := by
  intro K k p N c us S hk hp hN hS y e
  have hA := hE.2.1
  have t4 := hA.1
  have hok := gSum_ok (od := od) hA n
  have sm := c_sum hE n 10 d hd (by omega)
  refine sm _ k p N c us S hk hp hN hS ?_ ?_
  · intro k1 p1 f hg S1 N1 c1 us1 h hS1 hN1 hseg1 hh1 hc1 hu1
    obtain ⟨b1, b2, b3⟩ := (hok k p hk hp).2 k1 p1 f hg
    refine c_stepH hE hS1.1 hS1.2.1 b2 ?_
    have s9 := stp_le (tk k1)
    have bad : ¬ 7 ≤ stp (tk k1) → f_X6_comparison_25 G 75 K S1 := by
      intro h7
      refine hS1.fail hE b2 (by omega) (e k1 ?_)
      unfold gCmp; rw [hg]; simp only []; rw [if_neg h7]
    by_cases h0 : stp (tk k1) = 0
    · have ev : ((if stp (tk k1) = 0 then -1 else nI (stp (tk k1))) : Int32) = -1 := if_pos h0
      rw [ev]
      exact ite_y (by decide) (bad (by omega))
    have ev : ((if stp (tk k1) = 0 then -1 else nI (stp (tk k1))) : Int32) = nI (stp (tk k1)) := if_neg h0
    rw [ev]
    by_cases h7 : 7 ≤ stp (tk k1)
    · have hk3 : k1 < tc := tk_lt hA (fun e => by rw [e] at h7; exact absurd h7 (by decide))
      refine ite_n (by simp (disch := omega) only [lit, nI_add, pk_mul, leI, ltI, eqI]; omega) (ite_y (by simp (disch := omega) only [lit, nI_add, pk_mul, leI, ltI, eqI]; omega) (nm_e ?_))
      refine sm _ (k1 + 1) p1 N1 c1 us1 _ (by omega) b3 (by omega) hS1.next ?_ ?_
      · intro k2 p2 f2 hg2 S2 N2 c2 us2 h2 hS2 hN2 hseg2 hh2 hc2 hu2
        obtain ⟨d1, d2, d3⟩ := (hok (k1 + 1) p1 (by omega) b3).2 k2 p2 f2 hg2
        have ap := c_put (o := stp (tk k1)) (x := 0) (Q := fun r12 S11 => K S11) hE hS2 (by omega) (by omega) (by omega)
        rw [show agC (stp (tk k1), 0) = 0 from by unfold agC; split <;> rfl] at ap
        refine ex_y (hE.r10 hS2.1) (ap (fun S3 hS3 => ?_))
        have i1 := hseg1.keep.1
        have i2 := hseg2.keep.1
        have s1 : Seg (updC c2 N2 (stp (tk k1), 0)) us2 0 N N1 h f := hseg1.keep.2 _ _ (fun j h1 h2 => by rw [updC_n (by omega)]; exact hc2 j (by omega)) hu2
        have s2 : Seg (updC c2 N2 (stp (tk k1), 0)) us2 0 N1 N2 h2 f2 := hseg2.keep.2 _ _ (fun j h1 h2 => by rw [updC_n (by omega)]) (fun _ h => h)
        have s3 := Seg.cmp s1 s2 (updC_s (c := c2) (v := (stp (tk k1), 0))) h7 s9
        refine y k2 p2 _ ?_ S3 (N2 + 1) _ us2 _ hS3 (by omega) s3 (by omega) (fun j hj => ?_) (fun w hw => hu2 w (hu1 w hw))
        · unfold gCmp; rw [hg]; simp only []; rw [if_pos h7, hg2]
        · rw [updC_n (by omega), hc2 j (by omega)]; exact hc1 j hj
      · intro x hx S2 hB
        refine ex_y (hE.r10 hB.1) (c_putB hE hB (by omega) (by omega) (fun S3 r hr hB3 => e x ?_ S3 hB3))
        unfold gCmp; rw [hg]; simp only []; rw [if_pos h7, hx]
    · exact ite_y (by simp (disch := omega) only [lit, nI_add, pk_mul, leI, ltI, eqI]; omega) (bad h7)
  · intro x hx S1 hB
    refine c_stepH hE hB.1 hB.2.1 (Nat.le_refl _) ?_
    rw [hA.2.1 tc (Nat.le_refl _)]
    refine ite_y (by decide) (c_failB hE hB (e x ?_))
    unfold gCmp; rw [hx]
theorem c_cmpB (hE : EnvC G B tk ts tv tc od q) : CBSim B tc q (fun K S => f_X6_comparison G 75 (nI d) K S) := by
  intro K x S hB z
  refine c_sumB hE (m := 10) (by omega) _ x S hB (fun S1 hB1 => ?_)
  refine c_stepH hE hB1.1 hB1.2.1 (Nat.le_refl _) ?_
  rw [hE.2.1.2.1 tc (Nat.le_refl _)]
  exact ite_y (by decide) (c_failB hE hB1 z)
theorem notF2 (f : Fn) : notF (notF f) = f := by
  funext e
  unfold notF
  cases f e with
  | none => rfl
  | some x =>
    show some (1 - (1 - x)) = some x
    congr 1
    rw [Int64.sub_eq_add_neg, Int64.neg_sub, Int64.sub_eq_add_neg, Int64.add_comm x, ← Int64.add_assoc, show (1 : Int64) + -1 = 0 from by decide, Int64.zero_add]
/-- behind the nots -/
theorem c_plain46 {n : Nat} (hE : EnvC G B tk ts tv tc od q) (hd : d + n = 8) (hs : CSub G B tk ts tv tc od q 1 d (2 * n + 4) R so) (b : Bool) (g : Nat → Nat → Ex) (hg0 : ∀ k p, g k p = match gPln tk (gSum tk tv od n) so k p with | .inl q => (.inl q : Ex) | .inr (k', p', f) => .inr (k', p', if b = true then notF f else f)) (K : St → Prop) (k p N N0 : Nat) (c : Cd) (us : Nat → Prop) (S : St) (hk : k ≤ tc) (hp : p ≤ 50) (hN : N + (if b = true then 1 else 0) ≤ k) (hS : CSt B od q k p N c us S)
    (y : ∀ k' p' f, g k p = .inr (k', p', f) → ∀ S' N' c' us' h, CSt B od q k' p' N' c' us' S' → N' + k ≤ N + k' + (if b = true then 1 else 0) → Seg c' us' 1 N N' h f → h ≤ 2 * n + 4 → (∀ i, i < N → c' i = c i) → (∀ w, us w → us' w) → K S')
    (e : ∀ x, g k p = .inl x → ∀ S', CBd B tc q (ts x) S' → K S') : f_X6_plain_r_46 G R 75 (nI d) (if b = true then 1 else 0) K S := by
  have hA := hE.2.1
  have t4 := hA.1
  have okS : gOkO tc so := by
    intro s hs'
    rcases hs with ⟨h, _⟩ | ⟨s2, h, _, h2, _⟩
    · rw [h] at hs'; cases hs'
    · rw [h] at hs'; cases hs'; exact h2
  have hok := gPln_ok hA (gSum_ok (od := od) hA n) okS
  have fin : ∀ k' p' f, gPln tk (gSum tk tv od n) so k p = .inr (k', p', f) → ∀ S' N' c' us' h, CSt B od q k' p' N' c' us' S' → N' + k ≤ N + k' → Seg c' us' 1 N N' h f → h ≤ 2 * n + 4 → (∀ i, i < N → c' i = c i) → (∀ w, us w → us' w) → f_X6_plain_r_101 G R 75 (if b = true then 1 else 0) K S' := by
    intro k' p' f hg S' N' c' us' h hS' hN' hseg hh hc hu
    obtain ⟨b1, b2, b3⟩ := (hok k p hk hp).2 k' p' f hg
    have er : g k p = .inr (k', p', if b = true then notF f else f) := by rw [hg0, hg]
    cases b with
    | false => exact ite_y rfl (y k' p' _ er S' N' c' us' h hS' (by simp; omega) hseg hh hc hu)
    | true =>
      have hN : N + 1 ≤ k := hN
      refine ite_n (by show ¬ ((1 : Int32) = 0); decide) (ex_y (hE.r10 hS'.1) ?_)
      refine c_put (o := 10) (x := 0) (Q := fun r4 S3 => K S3) hE hS' (by omega) (by omega) (by omega) (fun S3 hS3 => ?_)
      have i1 := hseg.keep.1
      have s1 : Seg (updC c' N' (10, 0)) us' 1 N N' h f := hseg.keep.2 _ _ (fun j h1 h2 => by rw [updC_n (by omega)]) (fun _ h => h)
      exact y k' p' _ er S3 (N' + 1) _ us' h hS3 (by simp; omega) (Seg.not s1 (updC_s (c := c') (v := (10, 0)))) hh (fun j hj => by rw [updC_n (by omega)]; exact hc j hj) hu
  have finB : ∀ x, gPln tk (gSum tk tv od n) so k p = .inl x → ∀ S', CBd B tc q (ts x) S' → f_X6_plain_r_101 G R 75 (if b = true then 1 else 0) K S' := by
    intro x hx S' hB
    have er : g k p = .inl x := by rw [hg0, hx]
    cases b with
    | false => exact ite_y rfl (e x er S' hB)
    | true => exact ite_n (by show ¬ ((1 : Int32) = 0); decide) (ex_y (hE.r10 hB.1) (c_putB (o := 10) hE hB (by omega) (by omega) (fun S3 r hr hB3 => e x er S3 hB3)))
  refine c_here hE hS.1 hS.2.1 hk ?_
  by_cases hb' : tk k = 140
  · have hk2 : k < tc := tk_lt hA (by omega)
    rw [hb']
    refine ite_y rfl ?_
    have e0 : gPln tk (gSum tk tv od n) so k p = gBr tk 141 so k p := by unfold gPln; rw [if_pos hb']
    rcases hs with ⟨hn, rfl⟩ | ⟨s, hn, hd8, hok2, hsim⟩
    · refine ite_n (by decide) (hS.fail hE hk (by omega) (finB k ?_))
      rw [e0, hn]; rfl
    · refine ite_y (by simp (disch := omega) only [lit, nI_add, pk_mul, leI, ltI, eqI]; omega) (nm_e ?_)
      rw [nI_1]
      refine hsim _ (k + 1) p N c us _ (by omega) hp (by omega) hS.next ?_ ?_
      · intro k' p' f hg S' N' c' us' h hS' hN' hseg' hh' hc' hu'
        obtain ⟨b1, b2, b3⟩ := (hok2 (k + 1) p (by omega) hp).2 k' p' f hg
        refine c_expect (t := 141) hE (by omega) (by omega) hS' b2 (by omega) (fun hc => ?_) (fun hc => finB k' ?_)
        · refine fin (k' + 1) p' f ?_ _ N' c' us' h hS'.next (by omega) hseg' hh' hc' hu'
          rw [e0, hn]; unfold gBr; simp only []; rw [hg]; simp only []; rw [if_pos hc]
        · rw [e0, hn]; unfold gBr; simp only []; rw [hg]; simp only []; rw [if_neg hc]
      · intro x hx S' hB
        refine c_expectB (t := 141) hE (by omega) (by omega) hB (finB x ?_)
        rw [e0, hn]; unfold gBr; simp only []; rw [hx]
  · refine ite_n (fun h => hb' ((tI_e (hA.2.2 k).1 (m := 140) (by omega) (by omega)).mp h)) ?_
    have e0 : gPln tk (gSum tk tv od n) so k p = gCmp tk (gSum tk tv od n) k p := by unfold gPln; rw [if_neg hb']
    refine c_cmp hE hd _ k p N c us S hk hp (by omega) hS ?_ (fun x hx => finB x (e0.trans hx))
    intro k' p' f hg S' N' c' us' h hS' hN' hseg' hh' hc' hu'
    exact fin k' p' f (e0.trans hg) S' N' c' us' h hS' hN' hseg' hh' hc' hu'
theorem c_plain {n : Nat} (hE : EnvC G B tk ts tv tc od q) (hd : d + n = 8) (hs : CSub G B tk ts tv tc od q 1 d (2 * n + 4) R so) : CSim B ts tc od q 1 (2 * n + 4) (fun K S => f_X6_plain_r G R 75 (nI d) K S) (gPlain tk (gSum tk tv od n) so) := by
  intro K k p N c us S hk hp hN hS y e
  have hA := hE.2.1
  have main : ∀ x it (b : Bool) k1 S1, it + x = 400 → k1 ≤ tc → N + (if b = true then 1 else 0) ≤ k1 → k + (if b = true then 1 else 0) ≤ k1 → CSt B od q k1 p N c us S1 → gNot tk (gPln tk (gSum tk tv od n) so) x b k1 p = gPlain tk (gSum tk tv od n) so k p → f_X6_plain_r_4_n G R 75 (nI d) K (x + 1) (if b = true then 1 else 0) (nI it) S1 := by
    intro x
    induction x with
    | zero =>
      intro it b k1 S1 hi hk1 hN1 hkk hS1 eg
      refine ite_y (by simp (disch := omega) only [lit, nI_add, pk_mul, leI, ltI, eqI]; omega) ?_
      refine c_plain46 hE hd hs b (gNot tk (gPln tk (gSum tk tv od n) so) 0 b) (fun _ _ => rfl) K k1 p N N c us S1 hk1 hp hN1 hS1 ?_ ?_
      · intro k' p' f hg S' N' c' us' h hS' hN' hseg hh hc hu
        exact y k' p' f (eg.symm.trans hg) S' N' c' us' h hS' (by omega) hseg hh hc hu
      · intro z hz S' hB
        exact e z (eg.symm.trans hz) S' hB
    | succ x ih =>
      intro it b k1 S1 hi hk1 hN1 hkk hS1 eg
      refine ite_n (by simp (disch := omega) only [lit, nI_add, pk_mul, leI, ltI, eqI]; omega) (c_here hE hS1.1 hS1.2.1 hk1 ?_)
      by_cases h15 : tk k1 = 15
      · have hk2 : k1 < tc := tk_lt hA (by omega)
        rw [h15]
        refine ite_y rfl (nm_e ?_)
        rw [nI_1]
        have eg2 : gNot tk (gPln tk (gSum tk tv od n) so) x (!b) (k1 + 1) p = gPlain tk (gSum tk tv od n) so k p := by
          rw [← eg]
          show _ = (if tk k1 = 15 then _ else _)
          rw [if_pos h15]
        have w := ih (it + 1) (!b) (k1 + 1) _ (by omega) (by omega) (by revert hN1; cases b <;> simp <;> omega) (by revert hkk; cases b <;> simp <;> omega) hS1.next eg2
        cases b with
        | false => exact ite_y rfl w
        | true => exact ite_n (by show ¬ ((1 : Int32) = 0); decide) w
      · refine ite_n (fun h => h15 ((tI_e (hA.2.2 k1).1 (m := 15) (by omega) (by omega)).mp h)) ?_
        have eg2 : (match gPln tk (gSum tk tv od n) so k1 p with | .inl q => (.inl q : Ex) | .inr (k', p', f) => .inr (k', p', if b = true then notF f else f)) = gPlain tk (gSum tk tv od n) so k p := by
          rw [← eg]
          show _ = (if tk k1 = 15 then _ else _)
          rw [if_neg h15]
          rfl
        refine c_plain46 hE hd hs b (fun k p => match gPln tk (gSum tk tv od n) so k p with | .inl q => (.inl q : Ex) | .inr (k', p', f) => .inr (k', p', if b = true then notF f else f)) (fun _ _ => rfl) K k1 p N N c us S1 hk1 hp hN1 hS1 ?_ ?_
        · intro k' p' f hg S' N' c' us' h hS' hN' hseg hh hc hu
          exact y k' p' f (eg2.symm.trans hg) S' N' c' us' h hS' (by omega) hseg hh hc hu
        · intro z hz S' hB
          exact e z (eg2.symm.trans hz) S' hB
  exact ⟨401, main 400 0 false k S rfl hk (by simp; omega) (by simp) hS rfl⟩
theorem c_plainB (hE : EnvC G B tk ts tv tc od q) : CBSim B tc q (fun K S => f_X6_plain_r G R 75 (nI d) K S) := by
  intro K x S hB z
  refine ⟨1, ite_n (by decide) (c_hereB hE hB (ite_n (by decide) (c_hereB hE hB (ite_n (by decide) ?_))))⟩
  exact c_cmpB hE _ x S hB (fun S' hB' => ite_y rfl (z S' hB'))
theorem opN_c (t : Nat) : opN t = 0 ∨ opN t = 11 ∨ opN t = 12 := by unfold opN; split <;> omega
theorem opO_c (t : Nat) : opO t = 0 ∨ opO t = 11 ∨ opO t = 12 := by unfold opO; split <;> omega
theorem CSub.ok {t hb : Nat} (hs : CSub G B tk ts tv tc od q t d hb R so) : gOkO tc so := by
  intro s hs'
  rcases hs with ⟨h, _⟩ | ⟨s2, h, _, h2, _⟩
  · rw [h] at hs'; cases hs'
  · rw [h] at hs'; cases hs'; exact h2
theorem c_both {n : Nat} (hE : EnvC G B tk ts tv tc od q) (hd : d + n = 8) (hs : CSub G B tk ts tv tc od q 1 d (2 * n + 4) R so) : CSim B ts tc od q 1 (2 * n + 4) (fun K S => f_X6_both_r G R 75 (nI d) K S) (gBoth tk (gSum tk tv od n) so) := by
  refine c_levL (F := fun K n it S => f_X6_both_r_7_n G R 75 (nI d) K n it S) hE opN_c rfl (c_plain hE hd hs) (gPlain_ok hE.2.1 (gSum_ok hE.2.1 n) hs.ok) ?_ ?_ ?_
  · intro K n S z
    exact ite_y (by simp (disch := omega) only [lit, nI_add, pk_mul, leI, ltI, eqI]; omega) z
  · intro K n it k S hi hF h6 hk h0 z
    refine ite_n (by simp (disch := omega) only [lit, nI_add, pk_mul, leI, ltI, eqI]; omega) (c_here hE hF h6 hk (ite_n (fun h => ?_) z))
    have h := (tI_e (hE.2.1.2.2 k).1 (m := 14) (by omega) (by omega)).mp h
    unfold opN at h0; rw [if_pos h] at h0; omega
  · intro K n it k S hi hF h6 hk h0 z
    have h14 : tk k = 14 := by
      apply Classical.byContradiction
      intro h; unfold opN at h0; rw [if_neg h] at h0; omega
    have eo : opN (tk k) = 12 := by unfold opN; rw [if_pos h14]
    rw [eo] at z
    refine ite_n (by simp (disch := omega) only [lit, nI_add, pk_mul, leI, ltI, eqI]; omega) (c_here hE hF h6 hk ?_)
    rw [h14]
    refine ite_y rfl (nm_e ?_)
    rw [nI_1]
    exact z
theorem c_bothB (hE : EnvC G B tk ts tv tc od q) : CBSim B tc q (fun K S => f_X6_both_r G R 75 (nI d) K S) := by
  intro K x S hB z
  exact c_plainB hE _ x S hB (fun S' hB' => ⟨1, ite_n (by decide) (c_hereB hE hB' (ite_n (by decide) (z S' hB')))⟩)
theorem c_test1 {n : Nat} (hE : EnvC G B tk ts tv tc od q) (hd : d + n = 8) (hs : CSub G B tk ts tv tc od q 1 d (2 * n + 4) R so) : CSim B ts tc od q 1 (2 * n + 4) (fun K S => f_X6_test_r G R 75 (nI d) K S) (gTest1 tk (gSum tk tv od n) so) := by
  refine c_levL (F := fun K n it S => f_X6_test_r_7_n G R 75 (nI d) K n it S) hE opO_c rfl (c_both hE hd hs) (gBoth_ok hE.2.1 (gSum_ok hE.2.1 n) hs.ok) ?_ ?_ ?_
  · intro K n S z
    exact ite_y (by simp (disch := omega) only [lit, nI_add, pk_mul, leI, ltI, eqI]; omega) z
  · intro K n it k S hi hF h6 hk h0 z
    refine ite_n (by simp (disch := omega) only [lit, nI_add, pk_mul, leI, ltI, eqI]; omega) (c_here hE hF h6 hk (ite_n (fun h => ?_) z))
    have h := (tI_e (hE.2.1.2.2 k).1 (m := 13) (by omega) (by omega)).mp h
    unfold opO at h0; rw [if_pos h] at h0; omega
  · intro K n it k S hi hF h6 hk h0 z
    have h14 : tk k = 13 := by
      apply Classical.byContradiction
      intro h; unfold opO at h0; rw [if_neg h] at h0; omega
    have eo : opO (tk k) = 11 := by unfold opO; rw [if_pos h14]
    rw [eo] at z
    refine ite_n (by simp (disch := omega) only [lit, nI_add, pk_mul, leI, ltI, eqI]; omega) (c_here hE hF h6 hk ?_)
    rw [h14]
    refine ite_y rfl (nm_e ?_)
    rw [nI_1]
    exact z
theorem CSim.mono {t hb hb' : Nat} {run : (St → Prop) → St → Prop} {g : Nat → Nat → Ex} (h : CSim B ts tc od q t hb run g) (hh : hb ≤ hb') : CSim B ts tc od q t hb' run g := by
  intro K k p N c us S hk hp hN hS y e
  exact h K k p N c us S hk hp hN hS (fun k' p' f hg S' N' c' us' h1 hS' hN' hs hh' => y k' p' f hg S' N' c' us' h1 hS' hN' hs (by omega)) e
theorem c_test (hE : EnvC G B tk ts tv tc od q) : ∀ n m d, d + n = 8 → n < m → CSim B ts tc od q 1 (2 * n + 4) (fun K S => f_X6_test G m 75 (nI d) K S) (gTest tk tv od n) := by
  intro n
  induction n with
  | zero =>
    intro m d hd hm
    obtain ⟨m1, rfl⟩ : ∃ m1, m = m1 + 1 := ⟨m - 1, by omega⟩
    exact c_test1 hE hd (.inl ⟨rfl, by omega⟩)
  | succ n ih =>
    intro m d hd hm
    obtain ⟨m1, rfl⟩ : ∃ m1, m = m1 + 1 := ⟨m - 1, by omega⟩
    exact c_test1 hE hd (.inr ⟨_, rfl, by omega, gTest_ok hE.2.1 n, (ih m1 (d + 1) (by omega) (by omega)).mono (by omega)⟩)
theorem c_testB (hE : EnvC G B tk ts tv tc od q) {m : Nat} (hm : 0 < m) : CBSim B tc q (fun K S => f_X6_test G m 75 (nI d) K S) := by
  obtain ⟨m1, rfl⟩ : ∃ m1, m = m1 + 1 := ⟨m - 1, by omega⟩
  intro K x S hB z
  exact c_bothB hE _ x S hB (fun S' hB' => ⟨1, ite_n (by decide) (c_hereB hE hB' (ite_n (by decide) (z S' hB')))⟩)
end
