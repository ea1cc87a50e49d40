/-! The class's tokens. -/
section
variable {G : Gm} {S : St} {T : Nat → Nat} {tn : Nat} {Q : Int32 → St → Prop} {K : St → Prop}
def FrK (B S : St) : Prop := S.2 = B.2 ∧ (∀ i, i ≠ 75 → i ≠ 77 → i ≠ 78 → i ≠ 79 → S.1 i = B.1 i) ∧ (∀ j, j ≠ 5 → S.1 75 j = B.1 75 j)
theorem FrK.tp {B : St} (h : FrK B S) (hB : TpC G B T tn) : TpC G S T tn :=
  ⟨by rw [h.1]; exact hB.1, by rw [h.2.2 1 (by omega)]; exact hB.2.1, by rw [h.2.1 76 (by omega) (by omega) (by omega) (by omega)]; exact hB.2.2.1, hB.2.2.2⟩
theorem stk_y (h4 : tn ≤ 400) {j i : Nat} (hi : i < tn) (hj : stT T tn j = i) : stk T i := by
  have nb := stT_nb (T := T) h4 j (by omega)
  rw [hj] at nb
  refine ⟨fun _ => nb, fun hne => ?_⟩
  by_cases i0 : i = 0
  · exact .inl i0
  · right
    cases j with
    | zero =>
      have := (skp_f (T := T) (tn := tn) 400 0 (by omega) (by omega)).2.2.1 (i - 1) (by omega) (by have : skp T tn 400 0 = i := hj; omega)
      rw [this, srt32]; exact fun e => hne e.symm
    | succ m =>
      obtain ⟨a, b, c, d⟩ := stT_s (T := T) h4 m
      by_cases hm : stT T tn m < tn
      · have cm := c hm
        by_cases ht : teT T tn m < i
        · have := b (i - 1) (by omega) (by omega)
          rw [this, srt32]; exact fun e => hne e.symm
        · have hte : teT T tn m = i := by omega
          obtain ⟨e1, e2, e3, e4⟩ := enO_f (T := T) h4 hm
          have hte' : enO T tn (stT T tn m) = i := hte
          by_cases s0 : srt (T (stT T tn m)) = 0
          · have := e4 s0
            rw [show i - 1 = stT T tn m from by omega, s0]; exact fun e => hne e.symm
          · obtain ⟨f1, f2⟩ := e3 s0
            rw [f1 (i - 1) (by omega) (by omega)]
            have := f2 (by omega)
            rw [hte'] at this
            exact fun e => this e.symm
      · have := d (by omega); omega
theorem stk_n (h4 : tn ≤ 400) {j i : Nat} (hi : i < stT T tn j) (hm : ∀ m, m < j → stT T tn m < i) : ¬ stk T i := by
  intro hk
  have hl := stT_le (T := T) h4 j
  have b32 : T i = 32 → False := fun e => hk.1 (by rw [e]; exact srt32) e
  cases j with
  | zero => exact b32 ((skp_f (T := T) (tn := tn) 400 0 (by omega) (by omega)).2.2.1 i (by omega) hi)
  | succ m =>
    have hm := hm m (by omega)
    obtain ⟨a, b, c, d⟩ := stT_s (T := T) h4 m
    by_cases ht : teT T tn m ≤ i
    · exact b32 (b i ht hi)
    · obtain ⟨e1, e2, e3, e4⟩ := enO_f (T := T) (i := stT T tn m) h4 (by omega)
      have ht : ¬ enO T tn (stT T tn m) ≤ i := ht
      have s0 : srt (T (stT T tn m)) ≠ 0 := fun h0 => by have := e4 h0; omega
      obtain ⟨f1, f2⟩ := e3 s0
      have x1 := f1 i (by omega) (by omega)
      have x2 := f1 (i - 1) (by omega) (by omega)
      rcases hk.2 (by rw [x1]; exact s0) with h | h
      · omega
      · exact h (by rw [x1, x2])
/-- what the class has of its first j tokens -/
def TkS (T : Nat → Nat) (tn : Nat) (S : St) (j : Nat) : Prop := S.1 75 5 = nI j ∧ ∀ m, m < j → S.1 77 m = tI (tkT T tn m) ∧ S.1 78 m = nI (stT T tn m) ∧ S.1 79 m = nI (tvT T tn m)
theorem c_split (h : TpC G S T tn) (z : ∀ S', FrK S S' → TkS T tn S' (tcT T tn) → S'.1 78 (tcT T tn) = nI tn → K S') : f_X6_split G 75 K S := by
  have hS := h.1
  have h4 := h.2.2.2.1
  have hT := h.2.2.2.2
  have main : ∀ x i j S1, i + x = tn → i ≤ stT T tn j → (∀ m, m < j → stT T tn m < i) → FrK S S1 → TkS T tn S1 j → f_X6_split_7_n G 75 K (x + 1) (nI i) S1 := by
    intro x
    induction x with
    | zero =>
      intro i j S1 hi h1 h2 f1 t1
      have e75 : S1.1 75 1 = nI tn := (f1.tp h).2.1
      have hl := stT_le (T := T) h4 j
      obtain ⟨c1, c2, c3⟩ := tcT_f (T := T) h4
      have ej : j = tcT T tn := by
        rcases Nat.lt_trichotomy j (tcT T tn) with h' | h' | h'
        · have := c2 j h'; omega
        · exact h'
        · have := h2 _ h'; omega
      rw [f_X6_split_7_n]
      refine ite_y (by rw [e75, leI (by omega) (by omega)]; omega) ?_
      have R1 : S1.2.2 = S.2.2 := by rw [f1.1]
      refine ex_y (by rw [R1]; exact hS.r75_2) ?_
      rw [t1.1, hS.l77, in_iff (by omega), clI (by omega)]
      refine ⟨by omega, nm_e (ex_y (by show S1.2.2 75 3 = _; rw [R1]; exact hS.r75_3) ?_)⟩
      rw [uI_n _ 77 _ _ (by omega), t1.1, hS.l78, in_iff (by omega), clI (by omega)]
      refine ⟨by omega, nm_e (z _ ⟨f1.1, fun q a b c d => ?_, fun q a => ?_⟩ ⟨?_, fun m hm => ⟨?_, ?_, ?_⟩⟩ ?_)⟩
      · rw [uI_n _ _ _ _ c, uI_n _ _ _ _ b]; exact f1.2.1 q a b c d
      · rw [uI_n _ 78 _ _ (by omega), uI_n _ 77 _ _ (by omega)]; exact f1.2.2 q a
      · rw [uI_n _ 78 _ _ (by omega), uI_n _ 77 _ _ (by omega), t1.1, ej]
      · rw [uI_n _ 78 _ _ (by omega), uI_s, if_neg (by omega)]; exact (t1.2 m (by omega)).1
      · rw [uI_s, if_neg (by omega), uI_n _ 77 _ _ (by omega)]; exact (t1.2 m (by omega)).2.1
      · rw [uI_n _ 78 _ _ (by omega), uI_n _ 77 _ _ (by omega)]; exact (t1.2 m (by omega)).2.2
      · rw [uI_s, if_pos ej.symm, e75]
    | succ x ih =>
      intro i j S1 hi h1 h2 f1 t1
      have hp := f1.tp h
      have R1 : S1.2.2 = S.2.2 := by rw [f1.1]
      have hij : j ≤ i := by
        by_cases h0 : j = 0
        · omega
        · have a := h2 (j - 1) (by omega)
          have b := stT_k (T := T) h4 (j - 1) (by omega)
          omega
      have wn := fun S2 => ih (i + 1) j S2 (by omega)
      have wy := fun S2 => ih (i + 1) (j + 1) S2 (by omega)
      rw [f_X6_split_7_n]
      generalize f_X6_split_7_n G 75 K (x + 1) = W at wn wy ⊢
      refine ite_n (by rw [hp.2.1, leI (by omega) (by omega)]; omega) (ite_n (by rw [t1.1, lit, leI (by omega) (by omega)]; omega) (c_starts hp (by omega) (fun hk => ite_n (by decide) ?_) (fun hk => ite_y rfl ?_)))
      · -- a token starts
        have hst : stT T tn j = i := by
          apply Classical.byContradiction
          intro hne
          exact stk_n h4 (by omega) h2 hk
        have hb := hT i (by omega)
        have s3 := srt_le (T i)
        have te : enO T tn i = teT T tn j := by unfold teT; rw [hst]
        obtain ⟨e1, e2, e3, e4⟩ := enO_f (T := T) h4 (i := i) (by omega)
        obtain ⟨q1, q2, q3, q4⟩ := stT_s (T := T) h4 j
        have w : ∀ S2, FrK S S2 → TkS T tn S2 (j + 1) → W (nI i + 1) S2 := by
          intro S2 f2 t2
          rw [nI_1]
          refine wy S2 (by rw [← te] at q1; omega) (fun m hm => ?_) f2 t2
          by_cases e : m = j
          · rw [e]; omega
          · have := h2 m (by omega); omega
        -- the three rows
        have r126 : ∀ S2, FrK S S2 → S2.1 75 5 = nI j → (∀ m, m < j → S2.1 77 m = tI (tkT T tn m) ∧ S2.1 78 m = nI (stT T tn m) ∧ S2.1 79 m = nI (tvT T tn m)) → S2.1 77 j = tI (tkT T tn j) → S2.1 78 j = nI (stT T tn j) → f_X6_split_126 G W 75 (nI i) (nI (tvT T tn j)) (nI j) 79 K S2 := by
          intro S2 f2 a5 am a7 a8
          unfold f_X6_split_126
          rw [hS.l79, in_iff (by omega), clI (by omega)]
          refine ⟨by omega, nm_e (nm_e (w _ ⟨f2.1, fun q a b c d => ?_, fun q a => ?_⟩ ⟨?_, fun m hm => ⟨?_, ?_, ?_⟩⟩))⟩
          · rw [uI_n _ _ _ _ a, uI_n _ _ _ _ d]; exact f2.2.1 q a b c d
          · rw [uI_s, if_neg a, uI_n _ 79 _ _ (by omega)]; exact f2.2.2 q a
          · rw [uI_s, if_pos rfl, uI_n _ 79 _ _ (by omega), a5, nI_1]
          · rw [uI_n _ 75 _ _ (by omega), uI_n _ 79 _ _ (by omega)]
            by_cases e : m = j
            · rw [e]; exact a7
            · exact (am m (by omega)).1
          · rw [uI_n _ 75 _ _ (by omega), uI_n _ 79 _ _ (by omega)]
            by_cases e : m = j
            · rw [e]; exact a8
            · exact (am m (by omega)).2.1
          · rw [uI_n _ 75 _ _ (by omega), uI_s]
            by_cases e : m = j
            · rw [if_pos e, e]
            · rw [if_neg e]; exact (am m (by omega)).2.2
        have r92 : f_X6_split_92 G W 75 (nI i) (nI (srt (T i))) (nI (enO T tn i)) (tI (tkT T tn j)) (nI j) 77 K S1 := by
          unfold f_X6_split_92
          rw [hS.l77, in_iff (by omega), clI (by omega)]
          refine ⟨by omega, nm_e (ex_y (by show S1.2.2 75 3 = _; rw [R1]; exact hS.r75_3) ?_)⟩
          have b5 : (uI S1 77 j (tI (tkT T tn j))).1 75 5 = nI j := by rw [uI_n _ 77 _ _ (by omega)]; exact t1.1
          rw [b5, hS.l78, in_iff (by omega), clI (by omega)]
          refine ⟨by omega, nm_e (ex_y (by show S1.2.2 75 4 = _; rw [R1]; exact hS.r75_4) ?_)⟩
          have f3 : FrK S (uI (uI S1 77 j (tI (tkT T tn j))) 78 j (nI i)) := ⟨f1.1, fun q a b c d => by rw [uI_n _ _ _ _ c, uI_n _ _ _ _ b]; exact f1.2.1 q a b c d, fun q a => by rw [uI_n _ 78 _ _ (by omega), uI_n _ 77 _ _ (by omega)]; exact f1.2.2 q a⟩
          have c5 : (uI (uI S1 77 j (tI (tkT T tn j))) 78 j (nI i)).1 75 5 = nI j := by rw [uI_n _ 78 _ _ (by omega)]; exact b5
          have cm : ∀ m, m < j → (uI (uI S1 77 j (tI (tkT T tn j))) 78 j (nI i)).1 77 m = tI (tkT T tn m) ∧ (uI (uI S1 77 j (tI (tkT T tn j))) 78 j (nI i)).1 78 m = nI (stT T tn m) ∧ (uI (uI S1 77 j (tI (tkT T tn j))) 78 j (nI i)).1 79 m = nI (tvT T tn m) := by
            intro m hm
            obtain ⟨z1, z2, z3⟩ := t1.2 m hm
            refine ⟨?_, ?_, ?_⟩
            · rw [uI_n _ 78 _ _ (by omega), uI_s, if_neg (by omega)]; exact z1
            · rw [uI_s, if_neg (by omega), uI_n _ 77 _ _ (by omega)]; exact z2
            · rw [uI_n _ 78 _ _ (by omega), uI_n _ 77 _ _ (by omega)]; exact z3
          have c7 : (uI (uI S1 77 j (tI (tkT T tn j))) 78 j (nI i)).1 77 j = tI (tkT T tn j) := by rw [uI_n _ 78 _ _ (by omega), uI_s, if_pos rfl]
          have c8 : (uI (uI S1 77 j (tI (tkT T tn j))) 78 j (nI i)).1 78 j = nI (stT T tn j) := by rw [uI_s, if_pos rfl, hst]
          rw [c5]
          refine ite_c (fun d => ?_) (fun d => ?_)
          · rw [lit, eqI (by omega) (by omega)] at d
            obtain ⟨g1, g2⟩ := e3 (by omega)
            refine c_number (f3.tp h) (by omega) e2 (fun q a b => by rw [g1 q a b]; exact d) ?_
            have ev : nvC T i (enO T tn i - i) = tvT T tn j := by
              unfold tvT; rw [hst, if_neg (by omega), if_pos d, te]
            rw [ev]
            exact r126 _ f3 c5 cm c7 c8
          · rw [lit, eqI (by omega) (by omega)] at d
            have ev : tvT T tn j = 0 := by unfold tvT; rw [hst, if_neg (by omega), if_neg d]
            have r := r126 _ f3 c5 cm c7 c8
            rw [ev] at r
            exact r
        have r66 : (srt (T i) ≠ 1 → tI (tkT T tn j) = tI (tkT T tn j)) → ∀ u0 : Int32, (srt (T i) ≠ 1 → u0 = tI (tkT T tn j)) → f_X6_split_66 G W 75 (nI i) (nI (srt (T i))) (nI (enO T tn i)) u0 K S1 := by
          intro _ u0 hu
          refine ex_y (by rw [R1]; exact hS.r75_2) (ite_c (fun d => ?_) (fun d => ?_))
          · rw [lit, eqI (by omega) (by omega)] at d
            refine c_nameOf hp (by omega) e2 ?_
            have ek : nmF T i (enO T tn i - i) 27 0 = tkT T tn j := by
              unfold tkT; rw [hst, if_neg (by omega), if_neg (by omega), if_neg (by omega), te]
            rw [ek, t1.1]
            exact r92
          · rw [lit, eqI (by omega) (by omega)] at d
            rw [hu d, t1.1]
            exact r92
        refine c_byteY hp (by omega) (c_sortOf hb (c_past hp (by omega) (ite_c (fun d => ?_) (fun d => c_byteY hp (by omega) ?_))))
        · rw [lit, eqI (by omega) (by omega)] at d
          refine r66 (fun _ => rfl) 50 (fun _ => ?_)
          have ek : tkT T tn j = 50 := by unfold tkT; rw [hst, if_neg (by omega), if_neg (by omega), if_pos d]
          rw [ek]; rfl
        · rw [lit, eqI (by omega) (by omega)] at d
          refine r66 (fun _ => rfl) _ (fun hne => ?_)
          have ek : tkT T tn j = 100 + T i := by unfold tkT; rw [hst, if_neg (by omega), if_pos (by omega)]
          rw [ek, show (100 : Int32) = nI 100 from rfl, nI_add, Nat.add_comm]
          unfold tI
          rw [if_neg (by omega)]
      · -- none starts
        have hne : stT T tn j ≠ i := fun e => hk (stk_y h4 (by omega) e)
        rw [nI_1]
        exact wn S1 (by omega) (fun m hm => by have := h2 m hm; omega) f1 t1
  refine nm_e ?_
  have f0 : FrK S (uI S 75 5 0) := ⟨rfl, fun q a _ _ _ => uI_n _ _ _ _ a, fun q a => uI_p _ _ _ _ a⟩
  exact ⟨tn + 1, main tn 0 0 (uI S 75 5 0) (by omega) (Nat.zero_le _) (fun m hm => absurd hm (by omega)) f0 ⟨by rw [uI_s, if_pos rfl]; rfl, fun m hm => absurd hm (by omega)⟩⟩
end
