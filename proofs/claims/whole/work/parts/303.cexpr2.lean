/-! The class reads parts, sums, comparisons, tests. -/
section
variable {G : Gm} {B S : St} {tk ts tv : Nat → Nat} {tc q : Nat} {od : Bool} {Q : Int32 → St → Prop} {K : St → Prop} {k p N : Nat} {c : Cd} {us : Nat → Prop}
theorem EnvC.f8 (hE : EnvC G B tk ts tv tc od q) (hF : FrP B q S) : S.1 75 8 = (if od = true then 0 else 1) := (hF.2.2.1 8 (by omega) (by omega) (by omega)).trans hE.2.2.2.2.2.1
theorem EnvC.r10 (hE : EnvC G B tk ts tv tc od q) (hF : FrP B q S) : S.2.2 75 10 = some 80 := by rw [hF.R]; exact hE.1.r75_10
/-- what a word or none is -/
def wI (n : Nat) : Int32 := if n = 0 then -1 else nI (n - 1)
theorem wI_0 {n : Nat} (h : n = 0) : wI n = -1 := if_pos h
theorem wI_p {n : Nat} (h : ¬ n = 0) : wI n = nI (n - 1) := if_neg h
theorem wd_le (t : Nat) : wdW1 od t ≤ 17 := by
  unfold wdW1
  split
  · exact (orW_le t).1
  · have := lwW_le t; omega
theorem c_word (hE : EnvC G B tk ts tv tc od q) (hF : FrP B q S) (h6 : S.1 75 6 = nI k) (hk : k ≤ tc) {r : Int32} (z : f_X6_simplePart_29 G 75 r (wI (wdW1 od (tk k))) K S) : (if (S.1 75 8) = 0 then f_X6_here G 75 (fun r5 S4 => f_X6_orderWord G r5 (fun r7 S6 => f_X6_simplePart_29 G 75 r r7 K S6) S4) S else f_X6_here G 75 (fun r9 S8 => f_X6_lawWord G r9 (fun r11 S10 => f_X6_simplePart_29 G 75 r r11 K S10) S8) S) := by
  have t4 := (hE.2.1.2.2 k).1
  rw [hE.f8 hF]
  cases od with
  | true =>
    refine ite_y rfl (c_here hE hF h6 hk (ordV_e ?_))
    rw [ordV_t t4]; exact z
  | false =>
    refine ite_n (by decide) (c_here hE hF h6 hk (lawV_e ?_))
    rw [lawV_t t4]; exact z
theorem c_simple (hE : EnvC G B tk ts tv tc od q) : CSim B ts tc od q 0 1 (fun K S => f_X6_simplePart G 75 K S) (gSimple tk tv od) := by
  intro K k p N c us S hk hp hN hS y e
  have hA := hE.2.1
  have t4 := hA.1
  obtain ⟨tkb, tvb, _⟩ := hA.2.2 k
  have wl := wd_le (od := od) (tk k)
  have fl : gSimple tk tv od k p = .inl k → f_X6_simplePart_56 G 75 K S := fun h => hS.fail hE hk (by omega) (fun S' hB => e k h S' hB)
  refine c_numHere hE hS.1 hS.2.1 hk (c_word hE hS.1 hS.2.1 hk ?_)
  unfold f_X6_simplePart_29
  rw [hS.2.2.1]
  by_cases h50 : 50 ≤ p
  · exact ite_y (by rw [lit, leI (by omega) (by omega)]; exact h50) (fl (by unfold gSimple; rw [if_pos h50]))
  refine ite_n (by rw [lit, leI (by omega) (by omega)]; exact h50) ?_
  by_cases hn : tk k = 50
  · rw [if_pos hn]
    have hk2 : k < tc := tk_lt hA (by omega)
    by_cases hv : tv k ≤ 1000
    · refine ite_n (by simp (disch := omega) only [lit, nI_add, pk_mul, leI, ltI, eqI]; omega) (ite_n (nI_n1 (by omega)) ?_)
      have w0 : wdW1 od (tk k) = 0 := by rw [hn]; cases od <;> rfl
      rw [wI_0 w0]
      have hS2 := hS.part.next
      refine nm_e (nm_e ?_)
      have go : f_X6_simplePart_127 G 75 (nI (tv k)) (-1) K (uI (uI S 75 7 (S.1 75 7 + 1)) 75 6 ((uI S 75 7 (S.1 75 7 + 1)).1 75 6 + 1)) := by
        refine ex_y (hE.r10 hS2.1) (ite_y rfl (ite_y rfl ?_))
        refine c_put (o := 0) (x := tv k) hE hS2 (by omega) (by omega) (by omega) (fun S3 hS3 => ?_)
        have er : gSimple tk tv od k p = .inr (k + 1, p + 1, fun _ => some (lN (tv k))) := by unfold gSimple; rw [if_neg h50, if_pos hn, if_pos hv]
        exact y _ _ _ er S3 _ _ _ 1 hS3 (by omega) (Seg.num updC_s hv) (Nat.le_refl _) (fun i hi => updC_n (by omega)) (fun _ h => h)
      exact ite_c (fun _ => ite_y (by decide) go) (fun _ => go)
    · refine ite_y (by simp (disch := omega) only [lit, nI_add, pk_mul, leI, ltI, eqI]; omega) (fl ?_)
      unfold gSimple; rw [if_neg h50, if_pos hn, if_neg hv]
  rw [if_neg hn]
  refine ite_n (by decide) (ite_y rfl ?_)
  by_cases hw : wdW1 od (tk k) = 0
  · rw [wI_0 hw]
    exact ite_y rfl (fl (by unfold gSimple; rw [if_neg h50, if_neg hn, if_pos hw]))
  rw [wI_p hw]
  have hk2 : k < tc := tk_lt hA (fun e => hw (by rw [e]; exact wd51))
  refine ite_n (nI_n1 (by omega)) (nm_e (nm_e ?_))
  have hS2 := hS.part.next
  generalize uI (uI S 75 7 (S.1 75 7 + 1)) 75 6 ((uI S 75 7 (S.1 75 7 + 1)).1 75 6 + 1) = S2 at hS2 ⊢
  have put : ∀ (S3 : St) (k' w : Nat), w < 22 → (od = false → w < 9) → k < k' → k' ≤ tc → CSt B od q k' (p + 1) N c us S3 → gSimple tk tv od k p = .inr (k', p + 1, fun e => some (e w)) → f_X6_simplePart_127 G 75 (-1) (nI w) K S3 := by
    intro S3 k' w hw22 hw9 h1 h2 hS3 er
    refine ex_y (hE.r10 hS3.1) (ite_n (nI_n1 (by omega)) (ite_n (nI_n1 (by omega)) ?_))
    refine c_putW hE hS3 (by omega) hw22 hw9 (fun S4 hS4 => ?_)
    exact y _ _ _ er S4 _ _ _ 1 hS4 (by omega) (Seg.word (w := w) updC_s (.inr rfl)) (Nat.le_refl _) (fun i hi => updC_n (by omega)) (fun _ h => .inl h)
  rw [hE.f8 hS2.1]
  cases hod : od with
  | false =>
    refine ite_n (by decide) ?_
    have l9 : wdW1 od (tk k) ≤ 9 := by rw [hod]; exact lwW_le _
    rw [hod] at l9 hw
    refine put S2 (k + 1) _ (by omega) (fun _ => by omega) (by omega) (by omega) hS2 ?_
    unfold gSimple; rw [if_neg h50, if_neg hn, hod, if_neg hw, if_neg (by simp)]
  | true =>
    refine ite_y rfl ?_
    rw [hod] at hw wl
    by_cases h5 : 5 ≤ wdW1 true (tk k)
    · refine ite_n (by simp (disch := omega) only [lit, nI_add, pk_mul, leI, ltI, eqI]; omega) ?_
      have o5 := (orW_le (tk k)).2 h5
      have eo : wdW1 true (tk k) = orW (tk k) := rfl
      refine c_numHere hE hS2.1 hS2.2.1 (by omega) ?_
      have fl2 : gSimple tk tv od k p = .inl (k + 1) → f_X6_simplePart_108 G 75 K S2 := fun h => hS2.fail hE (by omega) (by omega) (fun S' hB => e (k + 1) h S' hB)
      have tvb2 := (hA.2.2 (k + 1)).2.1
      by_cases h6 : tk (k + 1) = 50 ∧ tv (k + 1) ≤ 5
      · have hk3 : k + 1 < tc := tk_lt hA (by omega)
        rw [if_pos h6.1]
        refine ite_n (nI_nn (by omega)) (ite_y (by simp (disch := omega) only [lit, nI_add, pk_mul, leI, ltI, eqI]; omega) (nm_e (nm_p (nI_add _ _) ?_)))
        refine put _ (k + 2) (wdW1 true (tk k) - 1 + tv (k + 1)) (by rw [eo]; omega) (fun h => by rw [hod] at h; cases h) (by omega) (by omega) hS2.next ?_
        unfold gSimple; rw [if_neg h50, if_neg hn, hod, if_neg hw, if_pos ⟨rfl, h5⟩, if_pos h6]
      · have er : gSimple tk tv od k p = .inl (k + 1) := by unfold gSimple; rw [if_neg h50, if_neg hn, hod, if_neg hw, if_pos ⟨rfl, h5⟩, if_neg h6]
        by_cases h7 : tk (k + 1) = 50
        · rw [if_pos h7]
          refine ite_n (nI_nn (by omega)) (ite_n ?_ (fl2 er))
          rw [lit, ltI (by omega) (by omega)]
          intro h8; exact h6 ⟨h7, by omega⟩
        · rw [if_neg h7]
          exact ite_y (by decide) (fl2 er)
    · refine ite_y (by simp (disch := omega) only [lit, nI_add, pk_mul, leI, ltI, eqI]; omega) ?_
      refine put S2 (k + 1) _ (by omega) (fun h => by rw [hod] at h; cases h) (by omega) (by omega) hS2 ?_
      unfold gSimple; rw [if_neg h50, if_neg hn, hod, if_neg hw, if_neg (fun h => h5 h.2)]
theorem c_simpleB (hE : EnvC G B tk ts tv tc od q) : CBSim B tc q (fun K S => f_X6_simplePart G 75 K S) := by
  intro K x S hB z
  have t51 : tk tc = 51 := hE.2.1.2.1 tc (Nat.le_refl _)
  refine c_numB hE hB (c_word hE hB.1 hB.2.1 (Nat.le_refl _) ?_)
  rw [t51, wd51, wI_0 rfl]
  have fl : f_X6_simplePart_56 G 75 K S := c_failB hE hB z
  exact ite_c (fun _ => fl) (fun _ => ite_n (by decide) (ite_y rfl (ite_y rfl fl)))
/-- a bracket closes -/
theorem c_expect {t : Nat} (hE : EnvC G B tk ts tv tc od q) (ht : t < 400) (h9 : t ≠ 99) (hS : CSt B od q k p N c us S) (hk : k ≤ tc) (hN : N ≤ 400) (y : tk k = t → K (uI S 75 6 (S.1 75 6 + 1))) (e : ¬ tk k = t → ∀ S', CBd B tc q (ts k) S' → K S') : f_X6_expect G 75 (nI t) K S := by
  refine c_here hE hS.1 hS.2.1 hk (ite_c (fun d => ?_) (fun d => ?_))
  · rw [tI_e (hE.2.1.2.2 k).1 ht h9] at d
    exact nm_e (y d)
  · rw [tI_e (hE.2.1.2.2 k).1 ht h9] at d
    exact hS.fail hE hk hN (e d)
theorem c_expectB {t x : Nat} (hE : EnvC G B tk ts tv tc od q) (ht : t < 400) (h5 : t ≠ 51) (hB : CBd B tc q x S) (z : ∀ S', CBd B tc q x S' → K S') : f_X6_expect G 75 (nI t) K S := by
  refine c_hereB hE hB (ite_n ?_ (c_failB hE hB z))
  rw [lit, eqI (by omega) (by omega)]; omega
variable {R : Nat → Int32 → (St → Prop) → St → Prop} {so : Option (Nat → Nat → Ex)} {d : Nat}
/-- the reader one bracket deeper, if that may be -/
def CSub (G : Gm) (B : St) (tk ts tv : Nat → Nat) (tc : Nat) (od : Bool) (q t d hb : Nat) (R : Nat → Int32 → (St → Prop) → St → Prop) (so : Option (Nat → Nat → Ex)) : Prop :=
  (so = none ∧ d = 8) ∨ ∃ s, so = some s ∧ d < 8 ∧ gOk tc s ∧ CSim B ts tc od q t hb (R 75 (nI (d + 1))) s
theorem c_part {hb : Nat} (hE : EnvC G B tk ts tv tc od q) (hs : CSub G B tk ts tv tc od q 0 d hb R so) (h1 : 1 ≤ hb) : CSim B ts tc od q 0 hb (fun K S => f_X6_part_r G R 75 (nI d) K S) (gPart tk tv od so) := by
  intro K k p N c us S hk hp hN hS y e
  have hA := hE.2.1
  have t4 := hA.1
  refine c_here hE hS.1 hS.2.1 hk ?_
  by_cases hb' : tk k = 191
  · have hk2 : k < tc := tk_lt hA (by omega)
    rw [hb']
    refine ite_y rfl ?_
    have e0 : gPart tk tv od so k p = gBr tk 193 so k p := by unfold gPart; rw [if_pos hb']
    rcases hs with ⟨hn, rfl⟩ | ⟨s, hn, hd, hok, hsim⟩
    · refine ite_n (by decide) (hS.fail hE hk (by omega) (e k ?_))
      rw [e0, hn]; rfl
    · refine ite_y (by simp (disch := omega) only [lit, nI_add, pk_mul, leI, ltI, eqI]; omega) (nm_e ?_)
      rw [nI_1]
      refine hsim _ (k + 1) p N c us _ (by omega) hp (by omega) hS.next ?_ ?_
      · intro k' p' f hg S' N' c' us' h hS' hN' hseg' hh' hc' hu'
        obtain ⟨b1, b2, b3⟩ := (hok (k + 1) p (by omega) hp).2 k' p' f hg
        refine c_expect (t := 193) hE (by omega) (by omega) hS' b2 (by omega) (fun hc => ?_) (fun hc => e k' ?_)
        · refine y (k' + 1) p' f ?_ _ N' c' us' h hS'.next (by omega) hseg' hh' hc' hu'
          rw [e0, hn]; unfold gBr; simp only []; rw [hg]; simp only []; rw [if_pos hc]
        · rw [e0, hn]; unfold gBr; simp only []; rw [hg]; simp only []; rw [if_neg hc]
      · intro x hx S' hB
        refine c_expectB (t := 193) hE (by omega) (by omega) hB (e x ?_)
        rw [e0, hn]; unfold gBr; simp only []; rw [hx]
  · refine ite_n (fun h => hb' ((tI_e (hA.2.2 k).1 (m := 191) (by omega) (by omega)).mp h)) ?_
    have e0 : gPart tk tv od so k p = gSimple tk tv od k p := by unfold gPart; rw [if_neg hb']
    refine c_simple hE K k p N c us S hk hp hN hS ?_ (fun x hx => e x (e0.trans hx))
    intro k' p' f hg S' N' c' us' h hS' hN' hseg' hh' hc' hu'
    exact y k' p' f (e0.trans hg) S' N' c' us' h hS' hN' hseg' (by omega) hc' hu'
theorem c_partB (hE : EnvC G B tk ts tv tc od q) : CBSim B tc q (fun K S => f_X6_part_r G R 75 (nI d) K S) := by
  intro K x S hB z
  exact c_hereB hE hB (ite_n (by decide) (c_simpleB hE K x S hB z))
theorem c_stepH (hE : EnvC G B tk ts tv tc od q) (hF : FrP B q S) (h6 : S.1 75 6 = nI k) (hk : k ≤ tc) (z : Q (if stp (tk k) = 0 then -1 else nI (stp (tk k))) S) : f_X6_here G 75 (fun r3 S2 => f_X6_stepOf G r3 Q S2) S := by
  refine c_here hE hF h6 hk (stepV_e ?_)
  rw [stepV_t (hE.2.1.2.2 k).1]; exact z
theorem opM_c (t : Nat) : opM t = 0 ∨ (2 ≤ opM t ∧ opM t ≤ 6) := by unfold opM; split <;> omega
theorem opA_c (t : Nat) : opA t = 0 ∨ (2 ≤ opA t ∧ opA t ≤ 6) := by unfold opA; split <;> omega
theorem stI (t : Nat) {n : Nat} (hn : 1 ≤ n) (hn9 : n ≤ 9) : ((if stp t = 0 then -1 else nI (stp t)) : Int32) = nI n ↔ stp t = n := by
  have := stp_le t
  by_cases h : stp t = 0
  · rw [if_pos h]
    exact ⟨fun e => absurd e.symm (nI_n1 (by omega)), fun e => by omega⟩
  · rw [if_neg h, eqI (by omega) (by omega)]
theorem c_term {hb : Nat} (hE : EnvC G B tk ts tv tc od q) (hs : CSub G B tk ts tv tc od q 0 d hb R so) (h1 : 1 ≤ hb) (ho : gOkO tc so) : CSim B ts tc od q 0 (hb + 1) (fun K S => f_X6_term_r G R 75 (nI d) K S) (gTerm tk tv od so) := by
  refine c_levA (F := fun K n it S => f_X6_term_r_7_n G R 75 (nI d) K n it S) hE opM_c rfl (c_part hE hs h1) (gPart_ok hE.2.1 ho) ?_ ?_ ?_
  · intro K n S z
    exact ite_y (by simp (disch := omega) only [lit, nI_add, pk_mul, leI, ltI, eqI]; omega) z
  · intro K n it k S hi hF h6 hk h0 z
    refine ite_n (by simp (disch := omega) only [lit, nI_add, pk_mul, leI, ltI, eqI]; omega) (c_stepH hE hF h6 hk ?_)
    have hn : ¬ (4 ≤ stp (tk k) ∧ stp (tk k) ≤ 6) := by
      intro h; unfold opM at h0; rw [if_pos h] at h0; omega
    refine ite_n (fun h => ?_) (ite_n (fun h => ?_) (ite_n (fun h => ?_) z))
    · rw [show (4 : Int32) = nI 4 from rfl, stI _ (by omega) (by omega)] at h; omega
    · rw [show (5 : Int32) = nI 5 from rfl, stI _ (by omega) (by omega)] at h; omega
    · rw [show (6 : Int32) = nI 6 from rfl, stI _ (by omega) (by omega)] at h; omega
  · intro K n it k S hi hF h6 hk h0 z
    have hn : 4 ≤ stp (tk k) ∧ stp (tk k) ≤ 6 := by
      apply Classical.byContradiction
      intro h; unfold opM at h0; rw [if_neg h] at h0; omega
    have eo : opM (tk k) = stp (tk k) := by unfold opM; rw [if_pos hn]
    rw [eo] at z
    refine ite_n (by simp (disch := omega) only [lit, nI_add, pk_mul, leI, ltI, eqI]; omega) (c_stepH hE hF h6 hk ?_)
    have go : f_X6_term_r_39 G R (f_X6_term_r_7_n G R 75 (nI d) K n) 75 (nI d) (nI it) (nI (stp (tk k))) K S := by
      refine nm_e ?_
      rw [nI_1]
      exact z
    have ev : ((if stp (tk k) = 0 then -1 else nI (stp (tk k))) : Int32) = nI (stp (tk k)) := if_neg (by omega)
    rw [ev]
    clear z eo h0
    refine ite_c (fun _ => go) (fun h4 => ite_c (fun _ => go) (fun h5 => ite_y ?_ go))
    rw [show (4 : Int32) = nI 4 from rfl, eqI (by omega) (by omega)] at h4
    rw [show (5 : Int32) = nI 5 from rfl, eqI (by omega) (by omega)] at h5
    rw [show (6 : Int32) = nI 6 from rfl, eqI (by omega) (by omega)]; omega
theorem c_termB (hE : EnvC G B tk ts tv tc od q) : CBSim B tc q (fun K S => f_X6_term_r G R 75 (nI d) K S) := by
  intro K x S hB z
  refine c_partB hE _ x S hB (fun S' hB' => ⟨1, ?_⟩)
  refine ite_n (by decide) (c_stepH hE hB'.1 hB'.2.1 (Nat.le_refl _) ?_)
  rw [hE.2.1.2.1 tc (Nat.le_refl _)]
  exact ite_n (by decide) (ite_n (by decide) (ite_n (by decide) (z S' hB')))
theorem c_sum1 {hb : Nat} (hE : EnvC G B tk ts tv tc od q) (hs : CSub G B tk ts tv tc od q 0 d hb R so) (h1 : 1 ≤ hb) (ho : gOkO tc so) : CSim B ts tc od q 0 (hb + 2) (fun K S => f_X6_sum_r G R 75 (nI d) K S) (gSum1 tk tv od so) := by
  refine c_levA (F := fun K n it S => f_X6_sum_r_7_n G R 75 (nI d) K n it S) hE opA_c rfl (c_term hE hs h1 ho) (gTerm_ok hE.2.1 ho) ?_ ?_ ?_
  · intro K n S z
    exact ite_y (by simp (disch := omega) only [lit, nI_add, pk_mul, leI, ltI, eqI]; omega) z
  · intro K n it k S hi hF h6 hk h0 z
    refine ite_n (by simp (disch := omega) only [lit, nI_add, pk_mul, leI, ltI, eqI]; omega) (c_stepH hE hF h6 hk ?_)
    have hn : ¬ (2 ≤ stp (tk k) ∧ stp (tk k) ≤ 3) := by
      intro h; unfold opA at h0; rw [if_pos h] at h0; omega
    refine ite_n (fun h => ?_) (ite_n (fun h => ?_) z)
    · rw [show (2 : Int32) = nI 2 from rfl, stI _ (by omega) (by omega)] at h; omega
    · rw [show (3 : Int32) = nI 3 from rfl, stI _ (by omega) (by omega)] at h; omega
  · intro K n it k S hi hF h6 hk h0 z
    have hn : 2 ≤ stp (tk k) ∧ stp (tk k) ≤ 3 := by
      apply Classical.byContradiction
      intro h; unfold opA at h0; rw [if_neg h] at h0; omega
    have eo : opA (tk k) = stp (tk k) := by unfold opA; rw [if_pos hn]
    rw [eo] at z
    refine ite_n (by simp (disch := omega) only [lit, nI_add, pk_mul, leI, ltI, eqI]; omega) (c_stepH hE hF h6 hk ?_)
    have go : f_X6_sum_r_33 G R (f_X6_sum_r_7_n G R 75 (nI d) K n) 75 (nI d) (nI it) (nI (stp (tk k))) K S := by
      refine nm_e ?_
      rw [nI_1]
      exact z
    have ev : ((if stp (tk k) = 0 then -1 else nI (stp (tk k))) : Int32) = nI (stp (tk k)) := if_neg (by omega)
    rw [ev]
    clear z eo h0
    refine ite_c (fun _ => go) (fun h4 => ite_y ?_ go)
    rw [show (2 : Int32) = nI 2 from rfl, eqI (by omega) (by omega)] at h4
    rw [show (3 : Int32) = nI 3 from rfl, eqI (by omega) (by omega)]; omega
theorem c_sum1B (hE : EnvC G B tk ts tv tc od q) : CBSim B tc q (fun K S => f_X6_sum_r G R 75 (nI d) K S) := by
  intro K x S hB z
  refine c_termB hE _ x S hB (fun S' hB' => ⟨1, ?_⟩)
  refine ite_n (by decide) (c_stepH hE hB'.1 hB'.2.1 (Nat.le_refl _) ?_)
  rw [hE.2.1.2.1 tc (Nat.le_refl _)]
  exact ite_n (by decide) (ite_n (by decide) (z S' hB'))
theorem c_sum (hE : EnvC G B tk ts tv tc od q) : ∀ n m d, d + n = 8 → n < m → CSim B ts tc od q 0 (2 * n + 3) (fun K S => f_X6_sum G m 75 (nI d) K S) (gSum tk tv od n) := by
  intro n
  induction n with
  | zero =>
    intro m d hd hm
    obtain ⟨m1, rfl⟩ : ∃ m1, m = m1 + 1 := ⟨m - 1, by omega⟩
    exact c_sum1 (hb := 1) hE (.inl ⟨rfl, by omega⟩) (by omega) (fun s h => by cases h)
  | succ n ih =>
    intro m d hd hm
    obtain ⟨m1, rfl⟩ : ∃ m1, m = m1 + 1 := ⟨m - 1, by omega⟩
    exact c_sum1 (hb := 2 * n + 3) hE (.inr ⟨_, rfl, by omega, gSum_ok hE.2.1 n, ih m1 (d + 1) (by omega) (by omega)⟩) (by omega) (fun s h => by cases h; exact gSum_ok hE.2.1 n)
theorem c_sumB (hE : EnvC G B tk ts tv tc od q) {m : Nat} (hm : 0 < m) : CBSim B tc q (fun K S => f_X6_sum G m 75 (nI d) K S) := by
  obtain ⟨m1, rfl⟩ : ∃ m1, m = m1 + 1 := ⟨m - 1, by omega⟩
  exact c_sum1B hE
end
