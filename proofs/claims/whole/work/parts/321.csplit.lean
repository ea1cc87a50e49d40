/-! The class splits its tape. -/
section
variable {G : Gm} {S : St} {T : Nat → Nat} {tn : Nat} {Q : Int32 → St → Prop} {K : St → Prop}
/-- the tape, at its place -/
def TpC (G : Gm) (S : St) (T : Nat → Nat) (tn : Nat) : Prop := ShC G S.2.2 ∧ S.1 75 1 = nI tn ∧ (∀ i, i < tn → S.1 76 i = nI (T i)) ∧ tn ≤ 400 ∧ (∀ i, i < tn → T i ≤ 255)
theorem c_byteAt {i : Nat} (h : TpC G S T tn) (hi : i ≤ 500) (z : Q (if i < tn then nI (T i) else -1) S) : f_X6_byteAt G 75 (nI i) Q S := by
  obtain ⟨hS, h1, h2, h4, h5⟩ := h
  unfold f_X6_byteAt
  rw [h1]
  refine ite_n (nI_nn (by omega)) (ite_c (fun d => ?_) (fun d => ?_))
  · rw [leI (by omega) (by omega)] at d
    rw [if_neg (by omega)] at z; exact z
  · rw [leI (by omega) (by omega)] at d
    rw [if_pos (by omega)] at z
    refine ite_n (by rw [lit, leI (by omega) (by omega)]; omega) (ex_y hS.r75_0 ⟨by rw [hS.l76, in_iff (by omega)]; omega, ?_⟩)
    rw [clI (by omega), h2 i (by omega)]; exact z
theorem c_byteY {i : Nat} (h : TpC G S T tn) (hi : i < tn) (z : Q (nI (T i)) S) : f_X6_byteAt G 75 (nI i) Q S := by
  have h4 := h.2.2.2.1
  refine c_byteAt h (by omega) ?_
  have e : ((if i < tn then nI (T i) else -1) : Int32) = nI (T i) := if_pos hi
  rw [e]; exact z
theorem c_byteAt1 (z : Q (-1) S) : f_X6_byteAt G 75 (nI 0 - 1) Q S := ite_y (by decide) z
theorem c_sortOf {b : Nat} (hb : b ≤ 255) (z : Q (nI (srt b)) S) : f_X6_sortOf G (nI b) Q S := by
  have go : ¬ (97 ≤ b ∧ b ≤ 122) → f_X6_sortOf_14 G (nI b) Q S := by
    intro h
    refine ite_c (fun d => ?_) (fun d => ite_c (fun d2 => ?_) (fun d2 => ?_))
    · rw [lit, ltI (by omega) (by omega)] at d
      rw [show srt b = 0 from by unfold srt; rw [if_neg h, if_neg (by omega)]] at z; exact z
    · rw [lit, ltI (by omega) (by omega)] at d2
      rw [show srt b = 0 from by unfold srt; rw [if_neg h, if_neg (by omega)]] at z; exact z
    · rw [lit, ltI (by omega) (by omega)] at d d2
      rw [show srt b = 2 from srt_2.mpr (by omega)] at z; exact z
  refine ite_c (fun d => ?_) (fun d => ite_c (fun d2 => ?_) (fun d2 => ?_))
  · rw [lit, ltI (by omega) (by omega)] at d; exact go (by omega)
  · rw [lit, ltI (by omega) (by omega)] at d2; exact go (by omega)
  · rw [lit, ltI (by omega) (by omega)] at d d2
    rw [show srt b = 1 from srt_1.mpr (by omega)] at z; exact z
theorem c_sort1 (z : Q 0 S) : f_X6_sortOf G (-1) Q S := ite_y (by decide) (ite_y (by decide) z)
/-- a token starts there -/
def stk (T : Nat → Nat) (i : Nat) : Prop := (srt (T i) = 0 → T i ≠ 32) ∧ (srt (T i) ≠ 0 → i = 0 ∨ srt (T (i - 1)) ≠ srt (T i))
theorem c_starts {i : Nat} (h : TpC G S T tn) (hi : i < tn) (y : stk T i → Q 1 S) (n : ¬ stk T i → Q 0 S) : f_X6_startsToken G 75 (nI i) Q S := by
  have h4 := h.2.2.2.1
  have hb := h.2.2.2.2 i hi
  have s3 := srt_le (T i)
  refine c_byteY h (by omega) ?_
  refine c_sortOf hb (ite_c (fun d => ?_) (fun d => ?_))
  · rw [lit, eqI (by omega) (by omega)] at d
    refine c_byteY h (by omega) ?_
    refine ite_c (fun d2 => n (fun hk => ?_)) (fun d2 => y ⟨fun _ e => d2 (by rw [e]; rfl), fun h' => absurd d h'⟩)
    rw [lit, eqI (by omega) (by omega)] at d2
    exact hk.1 d d2
  · rw [lit, eqI (by omega) (by omega)] at d
    by_cases i0 : i = 0
    · subst i0
      refine c_byteAt1 (c_sort1 (ite_n (fun e => d ?_) (y ⟨fun h' => absurd h' d, fun _ => .inl rfl⟩)))
      rw [show (0 : Int32) = nI 0 from rfl, eqI (by omega) (by omega)] at e
      exact e.symm
    · rw [show nI i - 1 = nI (i - 1) from by rw [lit, sbI (by omega)]]
      have hb2 := h.2.2.2.2 (i - 1) (by omega)
      have s4 := srt_le (T (i - 1))
      refine c_byteY h (by omega) ?_
      refine c_sortOf hb2 (ite_c (fun d2 => n (fun hk => ?_)) (fun d2 => y ⟨fun h' => absurd h' d, fun _ => .inr (fun e => d2 (by rw [e]))⟩))
      rw [eqI (by omega) (by omega)] at d2
      rcases hk.2 d with h' | h'
      · exact i0 h'
      · exact h' d2
theorem srt32 : srt 32 = 0 := rfl
theorem c_past {s : Nat} (h : TpC G S T tn) (hs : s < tn) (z : Q (nI (enO T tn s)) S) : f_X6_pastToken G 75 (nI s) Q S := by
  have h4 := h.2.2.2.1
  obtain ⟨e1, e2, e3, e4⟩ := enO_f (T := T) h4 hs
  have main : ∀ x p, p + x = enO T tn s → s < p → f_X6_pastToken_4_n G 75 Q (x + 1) (nI p) S := by
    intro x
    induction x with
    | zero =>
      intro p hp hsp
      rw [f_X6_pastToken_4_n]
      have hp : p = enO T tn s := by omega
      rw [← hp] at z e2 e3 e4
      refine ite_c (fun _ => z) (fun d => ?_)
      rw [h.2.1, leI (by omega) (by omega)] at d
      refine c_starts h (by omega) (fun _ => ite_n (by decide) z) (fun hn => ite_y rfl (c_byteY h (by omega) ?_))
      have t32 : T p = 32 := by
        apply Classical.byContradiction
        intro h32
        apply hn
        refine ⟨fun _ => h32, fun hne => .inr ?_⟩
        by_cases s0 : srt (T s) = 0
        · have := e4 s0
          rw [show p - 1 = s from by omega, s0]; exact fun e => hne e.symm
        · obtain ⟨f1, f2⟩ := e3 s0
          rw [f1 (p - 1) (by omega) (by omega)]
          exact fun e => f2 (by omega) e.symm
      rw [t32]
      exact ite_y rfl z
    | succ x ih =>
      intro p hp hsp
      rw [f_X6_pastToken_4_n]
      have w := ih (p + 1) (by omega) (by omega)
      generalize f_X6_pastToken_4_n G 75 Q (x + 1) = W at w ⊢
      have hb := h.2.2.2.2 p (by omega)
      have s0 : srt (T s) ≠ 0 := fun h0 => by have := e4 h0; omega
      obtain ⟨f1, f2⟩ := e3 s0
      have sp := f1 p (by omega) (by omega)
      have sp1 := f1 (p - 1) (by omega) (by omega)
      refine ite_n (by rw [h.2.1, leI (by omega) (by omega)]; omega) (c_starts h (by omega) (fun hk => ?_) (fun hn => ite_y rfl (c_byteY h (by omega) ?_)))
      · exfalso
        rcases hk.2 (by rw [sp]; exact s0) with h' | h'
        · omega
        · exact h' (by rw [sp, sp1])
      · refine ite_n (fun e => ?_) ?_
        · rw [lit, eqI (by omega) (by omega)] at e
          rw [e, srt32] at sp; exact s0 sp.symm
        · rw [nI_1]; exact w
  refine nm_p (nI_1 s) ⟨enO T tn s - (s + 1) + 1, main _ (s + 1) (by omega) (by omega)⟩
theorem mn_n {a b : Nat} (ha : a < 2147483648) (hb : b < 2147483648) : mn (nI a) (nI b) = nI (min a b) := by
  unfold mn
  by_cases h : b < a
  · first
      | (rw [if_pos (by rw [ltI hb ha]; exact h)]; congr 1; omega)
      | (rw [if_neg (by rw [ltI ha hb]; omega)]; congr 1; omega)
  · first
      | (rw [if_neg (by rw [ltI hb ha]; exact h)]; congr 1; omega)
      | (by_cases h2 : a < b
         · rw [if_pos (by rw [ltI ha hb]; exact h2)]; congr 1; omega
         · rw [if_neg (by rw [ltI ha hb]; exact h2)]; congr 1; omega)
theorem c_number {s e : Nat} (h : TpC G S T tn) (hs : s ≤ e) (he : e ≤ tn) (hd : ∀ i, s ≤ i → i < e → srt (T i) = 2) (z : Q (nI (nvC T s (e - s))) S) : f_X6_numberOf G 75 (nI s) (nI e) Q S := by
  have h4 := h.2.2.2.1
  have main : ∀ x j, s + j + x = e → f_X6_numberOf_5_n G 75 (nI e) Q (x + 1) (nI (nvC T s j)) (nI (s + j)) S := by
    intro x
    induction x with
    | zero =>
      intro j hj
      rw [f_X6_numberOf_5_n]
      refine ite_y (by rw [leI (by omega) (by omega)]; omega) ?_
      rw [show j = e - s from by omega]; exact z
    | succ x ih =>
      intro j hj
      rw [f_X6_numberOf_5_n]
      have w := ih (j + 1) (by omega)
      generalize f_X6_numberOf_5_n G 75 (nI e) Q (x + 1) = W at w ⊢
      have hb := h.2.2.2.2 (s + j) (by omega)
      have hdd := srt_2.mp (hd (s + j) (by omega) (by omega))
      have v1 := nvC_le (T := T) (s := s) j
      refine ite_n (by rw [leI (by omega) (by omega)]; omega) (c_byteY h (by omega) ?_)
      refine nm_p (e' := nI (nvC T s (j + 1))) ?_ (by rw [nI_1]; exact w)
      rw [show (10 : Int32) = nI 10 from rfl, show (48 : Int32) = nI 48 from rfl, show (1001 : Int32) = nI 1001 from rfl, pk_mul, nI_add, sbI (by omega), mn_n (by omega) (by omega)]
      show nI _ = nI (min _ _)
      congr 1
      omega
  have := main (e - s) 0 (by omega)
  exact ⟨e - s + 1, this⟩
/-- names -/
def nofA (i : Nat) : Nat := nof.getD i 0
def nleA (i : Nat) : Nat := nle.getD i 0
theorem nmT : ((List.range 27).all fun i => decide (nofA i + nleA i < 137 ∧ nofA (i + 1) = nofA i + nleA i + 1 ∧ 1 ≤ nleA i ∧ nleA i ≤ 6 ∧ byS.getD (nofA i + nleA i) 0 = 32) && (List.range (nleA i)).all fun j => decide (byS.getD (nofA i + j) 0 = nI (nmN i j) ∧ 97 ≤ nmN i j ∧ nmN i j ≤ 122)) = true := by decide +kernel
theorem nmT1 {i : Nat} (hi : i < 27) : nofA i + nleA i < 137 ∧ nofA (i + 1) = nofA i + nleA i + 1 ∧ 1 ≤ nleA i ∧ nleA i ≤ 6 ∧ byS.getD (nofA i + nleA i) 0 = 32 := by
  have := List.all_eq_true.mp nmT i (List.mem_range.mpr hi)
  rw [Bool.and_eq_true] at this
  exact of_decide_eq_true this.1
theorem nmT2 {i j : Nat} (hi : i < 27) (hj : j < nleA i) : byS.getD (nofA i + j) 0 = nI (nmN i j) ∧ 97 ≤ nmN i j ∧ nmN i j ≤ 122 := by
  have := List.all_eq_true.mp nmT i (List.mem_range.mpr hi)
  rw [Bool.and_eq_true] at this
  exact of_decide_eq_true (List.all_eq_true.mp this.2 j (List.mem_range.mpr hj))
theorem chS_e {x : Nat} (hx : x < 1000) : chS (nI x) = byS.getD x 0 := by unfold chS; rw [clI (by omega)]
theorem c_isSame {s l i : Nat} (h : TpC G S T tn) (hi : i < 27) (hl : l = nleA i) (hs : s + l ≤ tn) (y : (∀ j, j < l → nmN i j = T (s + j)) → Q 1 S) (n : ¬ (∀ j, j < l → nmN i j = T (s + j)) → Q 0 S) : f_X6_isSame G 75 (nI (nofA i)) (nI s) (nI l) Q S := by
  obtain ⟨n1, n2, n3, n4, n5⟩ := nmT1 hi
  have h4 := h.2.2.2.1
  have main : ∀ x j, j + x = l → (∀ m, m < j → nmN i m = T (s + m)) → f_X6_isSame_3_n G 75 (nI (nofA i)) (nI s) (nI l) Q (x + 1) (nI j) S := by
    intro x
    induction x with
    | zero =>
      intro j hj hm
      rw [f_X6_isSame_3_n]
      exact ite_y (by rw [leI (by omega) (by omega)]; omega) (y (fun m hm' => hm m (by omega)))
    | succ x ih =>
      intro j hj hm
      have w := ih (j + 1) (by omega)
      rw [f_X6_isSame_3_n]
      generalize f_X6_isSame_3_n G 75 (nI (nofA i)) (nI s) (nI l) Q (x + 1) = W at w ⊢
      obtain ⟨c1, c2, c3⟩ := nmT2 hi (j := j) (by omega)
      have hb := h.2.2.2.2 (s + j) (by omega)
      refine ite_n (by rw [leI (by omega) (by omega)]; omega) ?_
      rw [nI_add, nI_add, chS_e (by omega), c1]
      refine ite_n (by rw [lit, leI (by omega) (by omega)]; omega) ⟨by rw [in_iff (by omega)]; omega, c_byteY h (by omega) ?_⟩
      refine ite_c (fun e => ?_) (fun e => n (fun hall => e ?_))
      · rw [eqI (by omega) (by omega)] at e
        rw [nI_1]
        exact w (fun m hm' => by
          by_cases em : m = j
          · rw [em]; exact e
          · exact hm m (by omega))
      · rw [hall j (by omega)]
  exact ⟨l + 1, main l 0 (by omega) (fun m hm => absurd hm (by omega))⟩
theorem c_nameOf {s e : Nat} (h : TpC G S T tn) (hs : s ≤ e) (he : e ≤ tn) (z : Q (tI (nmF T s (e - s) 27 0)) S) : f_X6_nameOf G 75 (nI s) (nI e) Q S := by
  have h4 := h.2.2.2.1
  have letters : ∀ (i : Nat), i < 27 → ∀ x j, j + x = nleA i → ∀ m, f_X6_nameOf_8_n G 75 (nI s) (nI e) Q (m + 1) (nI i) (nI (nofA i)) (nI (nofA i + nleA i)) S → f_X6_nameOf_8_n G 75 (nI s) (nI e) Q (m + x + 1) (nI i) (nI (nofA i)) (nI (nofA i + j)) S := by
    intro i hi x
    obtain ⟨n1, n2, n3, n4, n5⟩ := nmT1 hi
    induction x with
    | zero => intro j hj m w; rw [show j = nleA i from by omega]; exact w
    | succ x ih =>
      intro j hj m w
      have w2 := ih (j + 1) (by omega) m w
      rw [show m + (x + 1) + 1 = (m + x + 1) + 1 from by omega, f_X6_nameOf_8_n]
      generalize f_X6_nameOf_8_n G 75 (nI s) (nI e) Q (m + x + 1) = W at w2 ⊢
      obtain ⟨c1, c2, c3⟩ := nmT2 hi (j := j) (by omega)
      refine ite_n (by rw [lit, leI (by omega) (by omega)]; omega) ⟨by rw [in_iff (by omega)]; omega, ?_⟩
      rw [chS_e (by omega), c1]
      refine ite_n (by rw [lit, eqI (by omega) (by omega)]; omega) ?_
      rw [nI_1]; exact w2
  have main : ∀ x i, i + x = 27 → nmF T s (e - s) x i = nmF T s (e - s) 27 0 → ∃ m, f_X6_nameOf_8_n G 75 (nI s) (nI e) Q (m + 1) (nI i) (nI (nofA i)) (nI (nofA i)) S := by
    intro x
    induction x with
    | zero =>
      intro i hi hn
      have hi : i = 27 := by omega
      subst hi
      refine ⟨0, ?_⟩
      rw [f_X6_nameOf_8_n]
      refine ite_y (by decide) ?_
      have : nmF T s (e - s) 0 27 = 99 := rfl
      rw [← hn, this] at z
      exact z
    | succ x ih =>
      intro i hi hn
      have i27 : i < 27 := by omega
      obtain ⟨n1, n2, n3, n4, n5⟩ := nmT1 i27
      unfold nmF at hn
      -- behind the letters stands the blank
      have next : (eqB T s i (e - s) = true → Q (tI i) S) → ∀ m, (¬ eqB T s i (e - s) = true → f_X6_nameOf_8_n G 75 (nI s) (nI e) Q (m + 1) (nI (i + 1)) (nI (nofA (i + 1))) (nI (nofA (i + 1))) S) → f_X6_nameOf_8_n G 75 (nI s) (nI e) Q (m + 1 + 1) (nI i) (nI (nofA i)) (nI (nofA i + nleA i)) S := by
        intro hy m w
        rw [f_X6_nameOf_8_n]
        generalize f_X6_nameOf_8_n G 75 (nI s) (nI e) Q (m + 1) = W at w ⊢
        refine ite_n (by rw [lit, leI (by omega) (by omega)]; omega) ⟨by rw [in_iff (by omega)]; omega, ?_⟩
        rw [chS_e (by omega), n5]
        refine ite_y rfl ?_
        have nx : ¬ eqB T s i (e - s) = true → f_X6_nameOf_58 G W 75 (nI s) (nI e) (nI i) (nI (nofA i + nleA i)) Q S := by
          intro hne
          have w := w hne
          refine nm_e ?_
          rw [nI_1, nI_1, ← n2]; exact w
        rw [sbI (by omega), sbI hs, show nofA i + nleA i - nofA i = nleA i from by omega]
        refine ite_c (fun d => ?_) (fun d => nx (fun hq => d ?_))
        · rw [eqI (by omega) (by omega)] at d
          refine c_isSame (i := i) h i27 rfl (by omega) (fun hall => ite_n (by decide) ?_) (fun hall => ite_y rfl (nx (fun hq => hall ?_)))
          · have := hy (eqB_e.mpr ⟨d, fun j hj => hall j (by omega)⟩)
            unfold tI at this
            rw [if_neg (by omega)] at this
            exact this
          · have hq := eqB_e.mp hq
            exact fun j hj => hq.2 j (by omega)
        · have hq := eqB_e.mp hq
          have : nleA i = e - s := hq.1
          rw [this]
      by_cases hq : eqB T s i (e - s) = true
      · rw [if_pos hq] at hn
        have w := next (fun _ => by rw [hn]; exact z) 0 (fun h' => absurd hq h')
        exact ⟨1 + nleA i, letters i i27 (nleA i) 0 (by omega) 1 w⟩
      · rw [if_neg hq] at hn
        obtain ⟨m, w⟩ := ih (i + 1) (by omega) hn
        have w := next (fun h' => absurd h' hq) m (fun _ => w)
        exact ⟨m + 1 + nleA i, letters i i27 (nleA i) 0 (by omega) (m + 1) w⟩
  obtain ⟨m, w⟩ := main 27 0 rfl rfl
  exact ⟨m + 1, w⟩
end
