/-! The class reads sums and tests. -/
section
variable (G : Gm) (B : St) (tk ts tv : Nat → Nat) (tc : Nat) (od : Bool) (q : Nat)
def CSim (t hb : Nat) (run : (St → Prop) → St → Prop) (g : Nat → Nat → Ex) : Prop :=
  ∀ (K : St → Prop) (k p N : Nat) (c : Cd) (us : Nat → Prop) (S : St), k ≤ tc → p ≤ 50 → N ≤ k → CSt B od q k p N c us S →
   (∀ k' p' f, g k p = .inr (k', p', f) → ∀ S' N' c' us' h, CSt B od q k' p' N' c' us' S' → N' + k ≤ N + k' → Seg c' us' t N N' h f → h ≤ hb → (∀ i, i < N → c' i = c i) → (∀ w, us w → us' w) → K S') →
   (∀ x, g k p = .inl x → ∀ S', CBd B tc q (ts x) S' → K S') → run K S
def CBSim (run : (St → Prop) → St → Prop) : Prop := ∀ (K : St → Prop) (x : Nat) (S : St), CBd B tc q x S → (∀ S', CBd B tc q x S' → K S') → run K S
end
section
variable {G : Gm} {B S : St} {tk ts tv : Nat → Nat} {tc q : Nat} {od : Bool} {Q : Int32 → St → Prop} {K : St → Prop} {k p N : Nat} {c : Cd} {us : Nat → Prop}
variable {run : (St → Prop) → St → Prop} {g : Nat → Nat → Ex} {op : Nat → Nat} {hb : Nat}
theorem c_loopA (hE : EnvC G B tk ts tv tc od q) (ho : ∀ t, op t = 0 ∨ (2 ≤ op t ∧ op t ≤ 6)) (h51 : op 51 = 0) (hs : CSim B ts tc od q 0 hb run g) (hok : gOk tc g) (F : (St → Prop) → Nat → Int32 → St → Prop)
    (f0 : ∀ K n S, K S → F K (n + 1) (nI 400) S)
    (f1 : ∀ K n it k S, it < 400 → FrP B q S → S.1 75 6 = nI k → k ≤ tc → op (tk k) = 0 → K S → F K (n + 1) (nI it) S)
    (f2 : ∀ K n it k S, it < 400 → FrP B q S → S.1 75 6 = nI k → k ≤ tc → op (tk k) ≠ 0 → run (fun S2 => ∃ a3, S2.2.2 75 10 = some a3 ∧ f_X8_put G a3 (nI (op (tk k))) 0 (fun _ S4 => F K n (nI (it + 1)) S4) S2) (uI S 75 6 (S.1 75 6 + 1)) → F K (n + 1) (nI it) S)
    (K : St → Prop) : ∀ n it, it + n = 400 → ∀ k p N c us S f i h0, k ≤ tc → p ≤ 50 → N ≤ k → CSt B od q k p N c us S → Seg c us 0 i N h0 f → h0 ≤ hb + 1 →
     (∀ k' p' f', gLoop tk op binF g n k p f = .inr (k', p', f') → ∀ S' N' c' us' h, CSt B od q k' p' N' c' us' S' → N' + k ≤ N + k' → Seg c' us' 0 i N' h f' → h ≤ hb + 1 → (∀ j, j < i → c' j = c j) → (∀ w, us w → us' w) → K S') →
     (∀ x, gLoop tk op binF g n k p f = .inl x → ∀ S', CBd B tc q (ts x) S' → K S') → F K (n + 1) (nI it) S := by
  intro n
  have hA := hE.2.1
  have t4 := hA.1
  induction n with
  | zero =>
    intro it hi k p N c us S f i h0 hk hp hN hS hseg hh y _
    rw [show it = 400 from by omega]
    exact f0 K 0 S (y k p f rfl S N c us h0 hS (by omega) hseg hh (fun _ _ => rfl) (fun _ h => h))
  | succ n ih =>
    intro it hi k p N c us S f i h0 hk hp hN hS hseg hh y e
    by_cases h0' : op (tk k) = 0
    · have er : gLoop tk op binF g (n + 1) k p f = .inr (k, p, f) := by unfold gLoop; rw [if_pos h0']
      exact f1 K (n + 1) it k S (by omega) hS.1 hS.2.1 hk h0' (y k p f er S N c us h0 hS (by omega) hseg hh (fun _ _ => rfl) (fun _ h => h))
    · have hk2 : k < tc := tk_lt hA (fun e => h0' (by rw [e]; exact h51))
      have ob : 2 ≤ op (tk k) ∧ op (tk k) ≤ 6 := (ho (tk k)).resolve_left h0'
      refine f2 K (n + 1) it k S (by omega) hS.1 hS.2.1 hk h0' ?_
      refine hs _ (k + 1) p N c us _ (by omega) hp (by omega) hS.next ?_ ?_
      · intro k' p' g' hg S' N' c' us' h hS' hN' hseg' hh' hc' hu'
        obtain ⟨b1, b2, b3⟩ := (hok (k + 1) p (by omega) hp).2 k' p' g' hg
        have ap := c_put (o := op (tk k)) (x := 0) (Q := fun _ S4 => F K (n + 1) (nI (it + 1)) S4) hE hS' (by omega) (by omega) (by omega)
        rw [show agC (op (tk k), 0) = 0 from by unfold agC; split <;> rfl] at ap
        refine ex_y (by rw [hS'.1.R]; exact hE.1.r75_10) (ap (fun S2 hS2 => ?_))
        have er : gLoop tk op binF g (n + 1) k p f = gLoop tk op binF g n k' p' (binF (op (tk k)) f g') := by
          show (if op (tk k) = 0 then _ else _) = _
          rw [if_neg h0', hg]
        have s1 : Seg (updC c' N' (op (tk k), 0)) us' 0 i N h0 f := hseg.keep.2 _ _ (fun j h1 h2 => by rw [updC_n (by have := hseg'.keep.1; omega)]; exact hc' j h2) hu'
        have s2 : Seg (updC c' N' (op (tk k), 0)) us' 0 N N' h g' := hseg'.keep.2 _ _ (fun j h1 h2 => by rw [updC_n (by omega)]) (fun _ h => h)
        have s3 := Seg.bin s1 s2 (updC_s (c := c') (v := (op (tk k), 0))) ob.1 ob.2
        refine ih (it + 1) (by omega) k' p' (N' + 1) _ us' S2 (binF (op (tk k)) f g') i _ b2 b3 (by omega) hS2 s3 (by omega) ?_ ?_
        · intro k2 p2 f2' h2 S3 N3 c3 us3 h3 hS3 hN3 hseg3 hh3 hc3 hu3
          refine y k2 p2 f2' (er.trans h2) S3 N3 c3 us3 h3 hS3 (by omega) hseg3 hh3 (fun j hj => ?_) (fun w hw => hu3 w (hu' w hw))
          have i1 := hseg.keep.1
          have i2 := hseg'.keep.1
          rw [hc3 j hj, updC_n (by omega)]; exact hc' j (by omega)
        · intro x hx S3 hS3
          exact e x (er.trans hx) S3 hS3
      · intro x hx S' hB
        refine ex_y (by rw [hB.1.R]; exact hE.1.r75_10) (c_putB hE hB (by omega) (by omega) (fun S2 r hr hB2 => ?_))
        have er : gLoop tk op binF g (n + 1) k p f = .inl x := by
          show (if op (tk k) = 0 then _ else _) = _
          rw [if_neg h0', hx]
        have fin := e x er S2 hB2
        by_cases h4 : it + 1 = 400
        · rw [h4]; exact f0 K n S2 fin
        · exact f1 K n (it + 1) tc S2 (by omega) hB2.1 hB2.2.1 (Nat.le_refl _) (by rw [hA.2.1 tc (Nat.le_refl _)]; exact h51) fin
theorem c_levA (hE : EnvC G B tk ts tv tc od q) (ho : ∀ t, op t = 0 ∨ (2 ≤ op t ∧ op t ≤ 6)) (h51 : op 51 = 0) (hs : CSim B ts tc od q 0 hb run g) (hok : gOk tc g) (F : (St → Prop) → Nat → Int32 → St → Prop)
    (f0 : ∀ K n S, K S → F K (n + 1) (nI 400) S)
    (f1 : ∀ K n it k S, it < 400 → FrP B q S → S.1 75 6 = nI k → k ≤ tc → op (tk k) = 0 → K S → F K (n + 1) (nI it) S)
    (f2 : ∀ K n it k S, it < 400 → FrP B q S → S.1 75 6 = nI k → k ≤ tc → op (tk k) ≠ 0 → run (fun S2 => ∃ a3, S2.2.2 75 10 = some a3 ∧ f_X8_put G a3 (nI (op (tk k))) 0 (fun _ S4 => F K n (nI (it + 1)) S4) S2) (uI S 75 6 (S.1 75 6 + 1)) → F K (n + 1) (nI it) S) : CSim B ts tc od q 0 (hb + 1) (fun K S => run (fun S1 => ∃ n, F K n 0 S1) S) (gLv tk op binF g) := by
  intro K k p N c us S hk hp hN hS y e
  have hA := hE.2.1
  refine hs _ k p N c us S hk hp hN hS ?_ ?_
  · intro k' p' f hg S' N' c' us' h hS' hN' hseg' hh' hc' hu'
    obtain ⟨b1, b2, b3⟩ := (hok k p hk hp).2 k' p' f hg
    have er : gLv tk op binF g k p = gLoop tk op binF g 400 k' p' f := by unfold gLv; rw [hg]
    refine ⟨401, c_loopA hE ho h51 hs hok F f0 f1 f2 K 400 0 rfl k' p' N' c' us' S' f N h b2 b3 (by omega) hS' hseg' (by omega) ?_ ?_⟩
    · intro k2 p2 f2' h2 S3 N3 c3 us3 h3 hS3 hN3 hseg3 hh3 hc3 hu3
      exact y k2 p2 f2' (er.trans h2) S3 N3 c3 us3 h3 hS3 (by omega) hseg3 hh3 (fun j hj => (hc3 j hj).trans (hc' j hj)) (fun w hw => hu3 w (hu' w hw))
    · intro x hx S3 hS3
      exact e x (er.trans hx) S3 hS3
  · intro x hx S' hB
    have er : gLv tk op binF g k p = .inl x := by unfold gLv; rw [hx]
    exact ⟨1, f1 K 0 0 tc S' (by omega) hB.1 hB.2.1 (Nat.le_refl _) (by rw [hA.2.1 tc (Nat.le_refl _)]; exact h51) (e x er S' hB)⟩
theorem c_loopL (hE : EnvC G B tk ts tv tc od q) (ho : ∀ t, op t = 0 ∨ op t = 11 ∨ op t = 12) (h51 : op 51 = 0) (hs : CSim B ts tc od q 1 hb run g) (hok : gOk tc g) (F : (St → Prop) → Nat → Int32 → St → Prop)
    (f0 : ∀ K n S, K S → F K (n + 1) (nI 400) S)
    (f1 : ∀ K n it k S, it < 400 → FrP B q S → S.1 75 6 = nI k → k ≤ tc → op (tk k) = 0 → K S → F K (n + 1) (nI it) S)
    (f2 : ∀ K n it k S, it < 400 → FrP B q S → S.1 75 6 = nI k → k ≤ tc → op (tk k) ≠ 0 → (∃ a6, (uI S 75 6 (S.1 75 6 + 1)).2.2 75 10 = some a6 ∧ f_X8_put G a6 (nI (op (tk k))) 0 (fun r8 S7 => run (fun S9 => ∃ a10, S9.2.2 75 10 = some a10 ∧ f_X8_aim G a10 r8 (fun S4 => F K n (nI (it + 1)) S4) S9) S7) (uI S 75 6 (S.1 75 6 + 1))) → F K (n + 1) (nI it) S)
    (K : St → Prop) : ∀ n it, it + n = 400 → ∀ k p N c us S f i h0, k ≤ tc → p ≤ 50 → N ≤ k → CSt B od q k p N c us S → Seg c us 1 i N h0 f → h0 ≤ hb →
     (∀ k' p' f', gLoop tk op orF g n k p f = .inr (k', p', f') → ∀ S' N' c' us' h, CSt B od q k' p' N' c' us' S' → N' + k ≤ N + k' → Seg c' us' 1 i N' h f' → h ≤ hb → (∀ j, j < i → c' j = c j) → (∀ w, us w → us' w) → K S') →
     (∀ x, gLoop tk op orF g n k p f = .inl x → ∀ S', CBd B tc q (ts x) S' → K S') → F K (n + 1) (nI it) S := by
  intro n
  have hA := hE.2.1
  have t4 := hA.1
  induction n with
  | zero =>
    intro it hi k p N c us S f i h0 hk hp hN hS hseg hh y _
    rw [show it = 400 from by omega]
    exact f0 K 0 S (y k p f rfl S N c us h0 hS (by omega) hseg hh (fun _ _ => rfl) (fun _ h => h))
  | succ n ih =>
    intro it hi k p N c us S f i h0 hk hp hN hS hseg hh y e
    by_cases h0' : op (tk k) = 0
    · have er : gLoop tk op orF g (n + 1) k p f = .inr (k, p, f) := by unfold gLoop; rw [if_pos h0']
      exact f1 K (n + 1) it k S (by omega) hS.1 hS.2.1 hk h0' (y k p f er S N c us h0 hS (by omega) hseg hh (fun _ _ => rfl) (fun _ h => h))
    · have hk2 : k < tc := tk_lt hA (fun e => h0' (by rw [e]; exact h51))
      have ob : op (tk k) = 11 ∨ op (tk k) = 12 := (ho (tk k)).resolve_left h0'
      refine f2 K (n + 1) it k S (by omega) hS.1 hS.2.1 hk h0' ?_
      have ap := c_put (o := op (tk k)) (x := 0) (Q := fun r8 S7 => run (fun S9 => ∃ a10, S9.2.2 75 10 = some a10 ∧ f_X8_aim G a10 r8 (fun S4 => F K (n + 1) (nI (it + 1)) S4) S9) S7) hE hS.next (by omega) (by omega) (by omega)
      rw [show agC (op (tk k), 0) = 0 from by unfold agC; split <;> rfl] at ap
      refine ex_y (by rw [hS.next.1.R]; exact hE.1.r75_10) (ap (fun S2 hS2 => ?_))
      refine hs _ (k + 1) p (N + 1) _ us S2 (by omega) hp (by omega) hS2 ?_ ?_
      · intro k' p' g' hg S' N' c' us' h hS' hN' hseg' hh' hc' hu'
        obtain ⟨b1, b2, b3⟩ := (hok (k + 1) p (by omega) hp).2 k' p' g' hg
        have i1 := hseg.keep.1
        have i2 := hseg'.keep.1
        have cN : c' N = (op (tk k), 0) := (hc' N (by omega)).trans updC_s
        refine ex_y (by rw [hS'.1.R]; exact hE.1.r75_10) (c_aim hE hS' (by omega) (by omega) ob cN (fun S3 hS3 => ?_))
        have er : gLoop tk op orF g (n + 1) k p f = gLoop tk op orF g n k' p' (orF (op (tk k)) f g') := by
          show (if op (tk k) = 0 then _ else _) = _
          rw [if_neg h0', hg]
        have s1 : Seg (updC c' N (op (tk k), N')) us' 1 i N h0 f := hseg.keep.2 _ _ (fun j h1 h2 => by rw [updC_n (by omega), hc' j (by omega), updC_n (by omega)]) hu'
        have s2 : Seg (updC c' N (op (tk k), N')) us' 1 (N + 1) N' h g' := hseg'.keep.2 _ _ (fun j h1 h2 => by rw [updC_n (by omega)]) (fun _ h => h)
        have s3 := Seg.or s1 (updC_s (c := c') (v := (op (tk k), N'))) ob s2
        refine ih (it + 1) (by omega) k' p' N' _ us' S3 (orF (op (tk k)) f g') i _ b2 b3 (by omega) hS3 s3 (by omega) ?_ ?_
        · intro k2 p2 f2' h2 S4 N3 c3 us3 h3 hS4 hN3 hseg3 hh3 hc3 hu3
          refine y k2 p2 f2' (er.trans h2) S4 N3 c3 us3 h3 hS4 (by omega) hseg3 hh3 (fun j hj => ?_) (fun w hw => hu3 w (hu' w hw))
          rw [hc3 j hj, updC_n (by omega), hc' j (by omega), updC_n (by omega)]
        · intro x hx S4 hS4
          exact e x (er.trans hx) S4 hS4
      · intro x hx S' hB
        refine ex_y (by rw [hB.1.R]; exact hE.1.r75_10) (c_aimB hE hB (by omega) (fun S3 hB3 => ?_))
        have er : gLoop tk op orF g (n + 1) k p f = .inl x := by
          show (if op (tk k) = 0 then _ else _) = _
          rw [if_neg h0', hx]
        have fin := e x er S3 hB3
        by_cases h4 : it + 1 = 400
        · rw [h4]; exact f0 K n S3 fin
        · exact f1 K n (it + 1) tc S3 (by omega) hB3.1 hB3.2.1 (Nat.le_refl _) (by rw [hA.2.1 tc (Nat.le_refl _)]; exact h51) fin
theorem c_levL (hE : EnvC G B tk ts tv tc od q) (ho : ∀ t, op t = 0 ∨ op t = 11 ∨ op t = 12) (h51 : op 51 = 0) (hs : CSim B ts tc od q 1 hb run g) (hok : gOk tc g) (F : (St → Prop) → Nat → Int32 → St → Prop)
    (f0 : ∀ K n S, K S → F K (n + 1) (nI 400) S)
    (f1 : ∀ K n it k S, it < 400 → FrP B q S → S.1 75 6 = nI k → k ≤ tc → op (tk k) = 0 → K S → F K (n + 1) (nI it) S)
    (f2 : ∀ K n it k S, it < 400 → FrP B q S → S.1 75 6 = nI k → k ≤ tc → op (tk k) ≠ 0 → (∃ a6, (uI S 75 6 (S.1 75 6 + 1)).2.2 75 10 = some a6 ∧ f_X8_put G a6 (nI (op (tk k))) 0 (fun r8 S7 => run (fun S9 => ∃ a10, S9.2.2 75 10 = some a10 ∧ f_X8_aim G a10 r8 (fun S4 => F K n (nI (it + 1)) S4) S9) S7) (uI S 75 6 (S.1 75 6 + 1))) → F K (n + 1) (nI it) S) : CSim B ts tc od q 1 hb (fun K S => run (fun S1 => ∃ n, F K n 0 S1) S) (gLv tk op orF g) := by
  intro K k p N c us S hk hp hN hS y e
  have hA := hE.2.1
  refine hs _ k p N c us S hk hp hN hS ?_ ?_
  · intro k' p' f hg S' N' c' us' h hS' hN' hseg' hh' hc' hu'
    obtain ⟨b1, b2, b3⟩ := (hok k p hk hp).2 k' p' f hg
    have er : gLv tk op orF g k p = gLoop tk op orF g 400 k' p' f := by unfold gLv; rw [hg]
    refine ⟨401, c_loopL hE ho h51 hs hok F f0 f1 f2 K 400 0 rfl k' p' N' c' us' S' f N h b2 b3 (by omega) hS' hseg' (by omega) ?_ ?_⟩
    · intro k2 p2 f2' h2 S3 N3 c3 us3 h3 hS3 hN3 hseg3 hh3 hc3 hu3
      exact y k2 p2 f2' (er.trans h2) S3 N3 c3 us3 h3 hS3 (by omega) hseg3 hh3 (fun j hj => (hc3 j hj).trans (hc' j hj)) (fun w hw => hu3 w (hu' w hw))
    · intro x hx S3 hS3
      exact e x (er.trans hx) S3 hS3
  · intro x hx S' hB
    have er : gLv tk op orF g k p = .inl x := by unfold gLv; rw [hx]
    exact ⟨1, f1 K 0 0 tc S' (by omega) hB.1 hB.2.1 (Nat.le_refl _) (by rw [hA.2.1 tc (Nat.le_refl _)]; exact h51) (e x er S' hB)⟩
end
