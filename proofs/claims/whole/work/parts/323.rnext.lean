/-! The reference's tokens. -/
def cdF (f : Nat → Nat) : Nat → Nat
  | 0 => 0
  | j + 1 => cdF f j * 32 + f j
theorem cdF_inj {f g : Nat → Nat} : ∀ l m, (∀ j, j < l → 1 ≤ f j ∧ f j ≤ 31) → (∀ j, j < m → 1 ≤ g j ∧ g j ≤ 31) → cdF f l = cdF g m → l = m ∧ ∀ j, j < l → f j = g j := by
  intro l
  induction l with
  | zero =>
    intro m hf hg h
    cases m with
    | zero => exact ⟨rfl, fun j hj => absurd hj (by omega)⟩
    | succ m =>
      have h : 0 = cdF g m * 32 + g m := h
      have := hg m (by omega)
      omega
  | succ l ih =>
    intro m hf hg h
    have h : cdF f l * 32 + f l = cdF g m := h
    have a := hf l (by omega)
    cases m with
    | zero => have h : cdF f l * 32 + f l = 0 := h; omega
    | succ m =>
      have h : cdF f l * 32 + f l = cdF g m * 32 + g m := h
      have b := hg m (by omega)
      obtain ⟨e1, e2⟩ := ih m (fun j hj => hf j (by omega)) (fun j hj => hg j (by omega)) (by omega)
      subst e1
      refine ⟨rfl, fun j hj => ?_⟩
      by_cases ej : j = l
      · subst ej; omega
      · exact e2 j (by omega)
theorem cdF_lt {f : Nat → Nat} : ∀ l, (∀ j, j < l → f j ≤ 31) → cdF f l < 32 ^ l := by
  intro l
  induction l with
  | zero => intro _; show 0 < 1; omega
  | succ l ih =>
    intro hf
    have a := ih (fun j hj => hf j (by omega))
    have b := hf l (by omega)
    show cdF f l * 32 + f l < 32 ^ (l + 1)
    rw [Nat.pow_succ]; omega
theorem cdF_c {f g : Nat → Nat} : ∀ l, (∀ j, j < l → f j = g j) → cdF f l = cdF g l := by
  intro l
  induction l with
  | zero => intro _; rfl
  | succ l ih =>
    intro h
    show cdF f l * 32 + f l = cdF g l * 32 + g l
    rw [ih (fun j hj => h j (by omega)), h l (by omega)]
theorem wcd_t : ((List.range 27).all fun i => decide (wcd i = lN (cdF (fun j => nmN i j - 96) (nleA i)) ∧ wcd i ≠ -1)) = true := by decide +kernel
theorem wcd_e {i : Nat} (hi : i < 27) : wcd i = lN (cdF (fun j => nmN i j - 96) (nleA i)) ∧ wcd i ≠ -1 := of_decide_eq_true (List.all_eq_true.mp wcd_t i (List.mem_range.mpr hi))
theorem p32 {l : Nat} (h : l ≤ 10) : 32 ^ l ≤ 2 ^ 50 := Nat.le_trans (Nat.pow_le_pow_right (by decide) h) (by decide)
def wkR (T : Nat → Nat) (s j : Nat) : Int64 := if j ≤ 10 then lN (cdF (fun j => T (s + j) - 96) j) else -1
def rwN (T : Nat → Nat) (s : Nat) : Nat → Nat
  | 0 => 0
  | j + 1 => if 1000000 < rwN T s j then rwN T s j else rwN T s j * 10 + (T (s + j) - 48)
section
variable {G : Gm} {B S : St} {T : Nat → Nat} {tn : Nat} {Q : Int32 → St → Prop} {K : St → Prop}
theorem wkR_y {s l i : Nat} (hi : i < 27) (h : eqW T s i l) : wkR T s l = wcd i := by
  obtain ⟨n1, n2, n3, n4, n5⟩ := nmT1 hi
  have e : nleA i = l := h.1
  unfold wkR
  rw [if_pos (by omega), (wcd_e hi).1, e]
  congr 1
  exact cdF_c l (fun j hj => by show T (s + j) - 96 = nmN i j - 96; rw [h.2 j hj])
theorem wkR_n {s l i : Nat} (hi : i < 27) (hT : ∀ j, j < l → 97 ≤ T (s + j) ∧ T (s + j) ≤ 122) (h : ¬ eqW T s i l) : wkR T s l ≠ wcd i := by
  obtain ⟨n1, n2, n3, n4, n5⟩ := nmT1 hi
  unfold wkR
  by_cases hl : l ≤ 10
  · rw [if_pos hl, (wcd_e hi).1]
    intro e
    have b1 : cdF (fun j => T (s + j) - 96) l < 2 ^ 50 := Nat.lt_of_lt_of_le (cdF_lt l (fun j hj => by have := hT j hj; omega)) (p32 hl)
    have b2 : cdF (fun j => nmN i j - 96) (nleA i) < 2 ^ 50 := Nat.lt_of_lt_of_le (cdF_lt _ (fun j hj => by have := nmT2 hi hj; omega)) (p32 (by omega))
    have e := congrArg Int64.toInt e
    have l63 : ∀ n : Nat, n < 2 ^ 63 → (lN n).toInt = n := fun n h => lg_ofNat_toInt h
    rw [l63 _ (by omega), l63 _ (by omega)] at e
    obtain ⟨e1, e2⟩ := cdF_inj (f := fun j => T (s + j) - 96) (g := fun j => nmN i j - 96) l (nleA i) (fun j hj => by have := hT j hj; show 1 ≤ T (s + j) - 96 ∧ T (s + j) - 96 ≤ 31; omega) (fun j hj => by have := nmT2 hi hj; show 1 ≤ nmN i j - 96 ∧ nmN i j - 96 ≤ 31; omega) (by exact_mod_cast e)
    refine h ⟨e1.symm, fun j hj => ?_⟩
    have a : T (s + j) - 96 = nmN i j - 96 := e2 j hj
    have a1 := hT j hj
    have a2 := nmT2 hi (j := j) (by omega)
    omega
  · rw [if_neg hl]
    exact fun e => (wcd_e hi).2 e.symm
theorem rwN_f {s : Nat} : ∀ j, (∀ m, m < j → 48 ≤ T (s + m) ∧ T (s + m) ≤ 57) → rwN T s j ≤ 10000009 ∧ ((rwN T s j ≤ 1000 ∧ nvC T s j = rwN T s j) ∨ (1000 < rwN T s j ∧ nvC T s j = 1001)) := by
  intro j
  induction j with
  | zero => intro _; exact ⟨by show (0 : Nat) ≤ _; omega, .inl ⟨by show (0 : Nat) ≤ _; omega, rfl⟩⟩
  | succ j ih =>
    intro h
    obtain ⟨a, b⟩ := ih (fun m hm => h m (by omega))
    have d := h j (by omega)
    have e : nvC T s (j + 1) = min (nvC T s j * 10 + (T (s + j) - 48)) 1001 := rfl
    rw [e]
    unfold rwN
    by_cases hc : 1000000 < rwN T s j
    · rw [if_pos hc]
      refine ⟨a, .inr ⟨by omega, ?_⟩⟩
      rcases b with b | b <;> omega
    · rw [if_neg hc]
      refine ⟨by omega, ?_⟩
      rcases b with b | b
      · by_cases h1 : rwN T s j * 10 + (T (s + j) - 48) ≤ 1000
        · left; exact ⟨h1, by omega⟩
        · right; exact ⟨by omega, by omega⟩
      · right; exact ⟨by omega, by omega⟩
/-- the reference's tape -/
def TpR (G : Gm) (S : St) (T : Nat → Nat) (tn : Nat) : Prop := ShR G S.2.2 ∧ S.1 87 14 = nI tn ∧ (∀ i, i < tn → S.1 97 i = nI (T i)) ∧ tn ≤ 400 ∧ (∀ i, i < tn → T i ≤ 255)
theorem FrN.refl (S : St) : FrN S S := ⟨rfl, fun _ _ => ⟨rfl, rfl⟩, fun _ _ _ _ => rfl, fun _ _ => rfl⟩
theorem FrN.trans {S S' S'' : St} (h : FrN S S') (h' : FrN S' S'') : FrN S S'' :=
  ⟨h'.1.trans h.1, fun i a => ⟨(h'.2.1 i a).1.trans (h.2.1 i a).1, (h'.2.1 i a).2.trans (h.2.1 i a).2⟩, fun j a b c => (h'.2.2.1 j a b c).trans (h.2.2.1 j a b c), fun j a => (h'.2.2.2 j a).trans (h.2.2.2 j a)⟩
theorem FrN.u {S S' : St} {j : Nat} {v : Int32} (h : FrN S S') (hj : j = 15 ∨ j = 16 ∨ j = 17) : FrN S (uI S' 87 j v) :=
  h.trans ⟨rfl, fun i a => ⟨uI_n _ _ _ _ a, rfl⟩, fun q a b c => uI_p _ _ _ _ (by omega), fun _ _ => rfl⟩
theorem FrN.uw {S S' : St} {v : Int64} (h : FrN S S') : FrN S (uJ S' 87 18 v) :=
  h.trans ⟨rfl, fun i a => ⟨rfl, uJ_n _ _ _ _ a⟩, fun _ _ _ _ => rfl, fun j a => by rw [uJ_s, if_neg a]⟩
theorem FrN.tp {S S' : St} (h : FrN S S') (hS : TpR G S T tn) : TpR G S' T tn :=
  ⟨by rw [h.1]; exact hS.1, by rw [h.2.2.1 14 (by omega) (by omega) (by omega)]; exact hS.2.1, by rw [(h.2.1 97 (by omega)).1]; exact hS.2.2.1, hS.2.2.2⟩
theorem m_small {b : Nat} (hb : b ≤ 255) (y : srt b = 1 → Q 1 S) (n : ¬ srt b = 1 → Q 0 S) : f_X11_isSmall G (nI b) Q S := by
  refine ite_c (fun d => n (fun h => ?_)) (fun d => ite_c (fun d2 => n (fun h => ?_)) (fun d2 => y (srt_1.mpr ?_)))
  · rw [lit, ltI (by omega) (by omega)] at d; have := srt_1.mp h; omega
  · rw [lit, ltI (by omega) (by omega)] at d2; have := srt_1.mp h; omega
  · rw [lit, ltI (by omega) (by omega)] at d d2; omega
theorem m_digit {b : Nat} (hb : b ≤ 255) (y : srt b = 2 → Q 1 S) (n : ¬ srt b = 2 → Q 0 S) : f_X11_isDigit G (nI b) Q S := by
  refine ite_c (fun d => n (fun h => ?_)) (fun d => ite_c (fun d2 => n (fun h => ?_)) (fun d2 => y (srt_2.mpr ?_)))
  · rw [lit, ltI (by omega) (by omega)] at d; have := srt_2.mp h; omega
  · rw [lit, ltI (by omega) (by omega)] at d2; have := srt_2.mp h; omega
  · rw [lit, ltI (by omega) (by omega)] at d d2; omega
theorem m_next_end {S0 : St} {x : Int32} (h17 : S.1 87 17 = x) (h1 : ¬ x = 1) (h2 : ¬ x = 2) (z : K S) : f_X11_next_149 G 87 K S :=
  ⟨1, ite_n (by rw [h17]; exact h1) ⟨1, ite_n (by rw [h17]; exact h2) z⟩⟩
theorem m_next_word {S0 : St} {s e : Nat} (h0 : TpR G S0 T tn) (hse : s ≤ e) (he : e ≤ tn) (hl : ∀ j, s ≤ j → j < e → srt (T j) = 1) (hne : e < tn → srt (T e) ≠ 1) (z : ∀ S', FrN S0 S' → S'.1 87 15 = nI s → S'.1 87 16 = nI e → S'.1 87 17 = 1 → S'.2.1 87 18 = wkR T s (e - s) → K S') : ∀ x j S, s + j + x = e → FrN S0 S → S.1 87 15 = nI s → S.1 87 16 = nI (s + j) → S.1 87 17 = 1 → S.2.1 87 18 = wkR T s j → f_X11_next_149_n G 87 K (x + 1) S := by
  have h4 := h0.2.2.2.1
  have hT := h0.2.2.2.2
  intro x
  induction x with
  | zero =>
    intro j S hj f a15 a16 a17 a18
    have tp := f.tp h0
    rw [f_X11_next_149_n]
    have fin : f_X11_next_243 G 87 K S := ⟨1, ite_n (by rw [a17]; decide) (z S f a15 (by rw [a16]; congr 1) a17 (by rw [a18]; congr 1; omega))⟩
    refine ite_y a17 (ite_c (fun _ => fin) (fun d => ex_y tp.1.tape ?_))
    rw [tp.2.1, a16, leI (by omega) (by omega)] at d
    rw [a16, tp.1.tape_l, in_iff (by omega), clI (by omega), tp.2.2.1 _ (by omega)]
    refine ⟨by omega, m_small (hT _ (by omega)) (fun hs => ?_) (fun _ => ite_y rfl fin)⟩
    rw [show s + j = e from by omega] at hs
    exact absurd hs (hne (by omega))
  | succ x ih =>
    intro j S hj f a15 a16 a17 a18
    have tp := f.tp h0
    have w := fun S2 => ih (j + 1) S2 (by omega)
    rw [f_X11_next_149_n]
    generalize f_X11_next_149_n G 87 K (x + 1) = W at w ⊢
    have hlj := hl (s + j) (by omega) (by omega)
    have lt := srt_1.mp hlj
    refine ite_y a17 (ite_n (by rw [tp.2.1, a16, leI (by omega) (by omega)]; omega) (ex_y tp.1.tape ?_))
    rw [a16, tp.1.tape_l, in_iff (by omega), clI (by omega), tp.2.2.1 _ (by omega)]
    refine ⟨by omega, m_small (hT _ (by omega)) (fun _ => ite_n (by decide) ?_) (fun hn => absurd hlj hn)⟩
    have go : ∀ v : Int64, v = wkR T s (j + 1) → f_X11_next_227 G W 87 v 87 K S := by
      intro v hv
      refine nm_e (nm_e (w _ (f.uw.u (by omega)) ?_ ?_ ?_ ?_))
      · rw [uI_s, if_neg (by omega)]; exact a15
      · rw [uI_s, if_pos rfl]
        show S.1 87 16 + 1 = _
        rw [a16, nI_1, Nat.add_assoc]
      · rw [uI_s, if_neg (by omega)]; exact a17
      · show (uJ S 87 18 v).2.1 87 18 = _
        rw [uJ_s, if_pos rfl]; exact hv
    rw [a16, a15, sbI (by omega), show s + j - s = j from by omega]
    refine ite_c (fun d => go _ ?_) (fun d => ex_y tp.1.tape ?_)
    · rw [lit, leI (by omega) (by omega)] at d
      unfold wkR; rw [if_neg (by omega)]
    · rw [lit, leI (by omega) (by omega)] at d
      rw [tp.1.tape_l, in_iff (by omega), clI (by omega), tp.2.2.1 _ (by omega)]
      refine ⟨by omega, go _ ?_⟩
      rw [a18]
      unfold wkR
      rw [if_pos (by omega), if_pos (by omega), nI_l (by omega), show (32 : Int64) = lN 32 from rfl, show (96 : Int64) = lN 96 from rfl, lN_mul, lN_add, lN_sub (by omega)]
      congr 1
      show _ = cdF _ j * 32 + (T (s + j) - 96)
      omega
theorem m_next_num {S0 : St} {s e : Nat} (h0 : TpR G S0 T tn) (hse : s ≤ e) (he : e ≤ tn) (hl : ∀ j, s ≤ j → j < e → srt (T j) = 2) (hne : e < tn → srt (T e) ≠ 2) (z : ∀ S', FrN S0 S' → S'.1 87 15 = nI s → S'.1 87 16 = nI e → S'.1 87 17 = 2 → S'.2.1 87 18 = lN (rwN T s (e - s)) → K S') : ∀ x j S, s + j + x = e → FrN S0 S → S.1 87 15 = nI s → S.1 87 16 = nI (s + j) → S.1 87 17 = 2 → S.2.1 87 18 = lN (rwN T s j) → f_X11_next_243_n G 87 K (x + 1) S := by
  have h4 := h0.2.2.2.1
  have hT := h0.2.2.2.2
  intro x
  induction x with
  | zero =>
    intro j S hj f a15 a16 a17 a18
    have tp := f.tp h0
    rw [f_X11_next_243_n]
    have fin : K S := z S f a15 (by rw [a16]; congr 1) a17 (by rw [a18]; congr 2; omega)
    refine ite_y a17 (ite_c (fun _ => fin) (fun d => ex_y tp.1.tape ?_))
    rw [tp.2.1, a16, leI (by omega) (by omega)] at d
    rw [a16, tp.1.tape_l, in_iff (by omega), clI (by omega), tp.2.2.1 _ (by omega)]
    refine ⟨by omega, m_digit (hT _ (by omega)) (fun hs => ?_) (fun _ => ite_y rfl fin)⟩
    rw [show s + j = e from by omega] at hs
    exact absurd hs (hne (by omega))
  | succ x ih =>
    intro j S hj f a15 a16 a17 a18
    have tp := f.tp h0
    have w := fun S2 => ih (j + 1) S2 (by omega)
    rw [f_X11_next_243_n]
    generalize f_X11_next_243_n G 87 K (x + 1) = W at w ⊢
    have hlj := hl (s + j) (by omega) (by omega)
    have lt := srt_2.mp hlj
    have rb := (rwN_f (T := T) (s := s) j (fun m hm => srt_2.mp (hl (s + m) (by omega) (by omega)))).1
    refine ite_y a17 (ite_n (by rw [tp.2.1, a16, leI (by omega) (by omega)]; omega) (ex_y tp.1.tape ?_))
    rw [a16, tp.1.tape_l, in_iff (by omega), clI (by omega), tp.2.2.1 _ (by omega)]
    refine ⟨by omega, m_digit (hT _ (by omega)) (fun _ => ite_n (by decide) ?_) (fun hn => absurd hlj hn)⟩
    have go : ∀ v : Int64, v = lN (rwN T s (j + 1)) → f_X11_next_319 G W 87 v 87 K S := by
      intro v hv
      refine nm_e (nm_e (w _ (f.uw.u (by omega)) ?_ ?_ ?_ ?_))
      · rw [uI_s, if_neg (by omega)]; exact a15
      · rw [uI_s, if_pos rfl]
        show S.1 87 16 + 1 = _
        rw [a16, nI_1, Nat.add_assoc]
      · rw [uI_s, if_neg (by omega)]; exact a17
      · show (uJ S 87 18 v).2.1 87 18 = _
        rw [uJ_s, if_pos rfl]; exact hv
    rw [a18]
    refine ite_c (fun d => ex_y tp.1.tape ?_) (fun d => go _ ?_)
    · rw [cmp_le, lN_toInt (by omega)] at d
      have d : (rwN T s j : Int) ≤ 1000000 := d
      rw [a16, tp.1.tape_l, in_iff (by omega), clI (by omega), tp.2.2.1 _ (by omega)]
      refine ⟨by omega, go _ ?_⟩
      have er : rwN T s (j + 1) = rwN T s j * 10 + (T (s + j) - 48) := by show (if _ then _ else _) = _; rw [if_neg (by omega)]
      rw [er, nI_l (by omega), show (10 : Int64) = lN 10 from rfl, show (48 : Int64) = lN 48 from rfl, lN_mul, lN_add, lN_sub (by omega)]
      congr 1
      omega
    · rw [cmp_le, lN_toInt (by omega)] at d
      have d : ¬ (rwN T s j : Int) ≤ 1000000 := d
      have er : rwN T s (j + 1) = rwN T s j := by show (if _ then _ else _) = _; rw [if_pos (by omega)]
      rw [er]
def tkS (T : Nat → Nat) (tn s : Nat) : Nat := if tn ≤ s then 51 else if srt (T s) = 0 then 100 + T s else if srt (T s) = 2 then 50 else nmF T s (enO T tn s - s) 27 0
def tvS (T : Nat → Nat) (tn s : Nat) : Nat := if tn ≤ s then 0 else if srt (T s) = 2 then nvC T s (enO T tn s - s) else 0
theorem m_nextAt {e : Nat} (h0 : TpR G S T tn) (he : S.1 87 16 = nI e) (het : e ≤ tn) (z : ∀ S', FrN S S' → S'.1 87 15 = nI (skp T tn 400 e) → S'.1 87 16 = nI (enO T tn (skp T tn 400 e)) → TokW (tkS T tn (skp T tn 400 e)) (tvS T tn (skp T tn 400 e)) (S'.1 87 17) (S'.2.1 87 18) → K S') : f_X11_next G 87 K S := by
  have h4 := h0.2.2.2.1
  have hT := h0.2.2.2.2
  have sf := skp_f (T := T) (tn := tn) 400 e het (by omega)
  generalize hs : skp T tn 400 e = s at z sf
  -- behind the blanks
  have n46 : ∀ S1, FrN S S1 → S1.1 87 15 = nI s → f_X11_next_46 G 87 K S1 := by
    intro S1 f1 a15
    have tp := f1.tp h0
    refine nm_e (nm_e ?_)
    have f2 : FrN S (uJ (uI S1 87 16 (S1.1 87 15)) 87 18 0) := (f1.u (by omega)).uw
    have b15 : (uJ (uI S1 87 16 (S1.1 87 15)) 87 18 0).1 87 15 = nI s := by show (uI S1 87 16 (S1.1 87 15)).1 87 15 = _; rw [uI_s, if_neg (by omega)]; exact a15
    have b16 : (uJ (uI S1 87 16 (S1.1 87 15)) 87 18 0).1 87 16 = nI s := by show (uI S1 87 16 (S1.1 87 15)).1 87 16 = _; rw [uI_s, if_pos rfl]; exact a15
    have b18 : (uJ (uI S1 87 16 (S1.1 87 15)) 87 18 0).2.1 87 18 = 0 := by rw [uJ_s, if_pos rfl]
    generalize uJ (uI S1 87 16 (S1.1 87 15)) 87 18 0 = S2 at f2 b15 b16 b18 ⊢
    have tp2 := f2.tp h0
    rw [b15, tp2.2.1]
    by_cases hst : s = tn
    · refine ite_y (by rw [hst]) (nm_e ?_)
      have c17 : (uI S2 87 17 0).1 87 17 = 0 := by rw [uI_s, if_pos rfl]
      refine ite_n (by rw [c17]; decide) (m_next_end (S0 := S) c17 (by decide) (by decide) (z _ (f2.u (by omega)) ?_ ?_ ?_))
      · rw [uI_s, if_neg (by omega)]; exact b15
      · rw [uI_s, if_neg (by omega), b16]
        unfold enO; rw [if_pos (by omega)]
      · rw [c17]; exact .inl ⟨by unfold tkS; rw [if_pos (by omega)], rfl⟩
    · have hst : s < tn := by omega
      obtain ⟨e1, e2, e3, e4⟩ := enO_f (T := T) h4 hst
      have hb := hT s hst
      refine ite_n (by rw [eqI (by omega) (by omega)]; omega) (ex_y tp2.1.tape ?_)
      rw [tp2.1.tape_l, in_iff (by omega), clI (by omega), tp2.2.2.1 s hst]
      refine ⟨by omega, m_small hb (fun h1 => ite_n (by decide) ?_) (fun h1 => ite_y rfl (ex_y tp2.1.tape ?_))⟩
      · -- a word
        refine nm_e ?_
        have c17 : (uI S2 87 17 1).1 87 17 = 1 := by rw [uI_s, if_pos rfl]
        refine ite_n (by rw [c17]; decide) ⟨enO T tn s - s + 1, ?_⟩
        obtain ⟨g1, g2⟩ := e3 (by omega)
        refine m_next_word (s := s) (e := enO T tn s) h0 (by omega) e2 (fun j a b => (g1 j a b).trans h1) (fun h => by have := g2 h; rw [h1] at this; exact this) ?_ _ 0 _ (by omega) (f2.u (by omega)) ?_ ?_ c17 ?_
        · intro S' f' a1 a2 a3 a4
          refine z S' f' a1 a2 ?_
          rw [a3, a4]
          have hTl : ∀ j, j < enO T tn s - s → 97 ≤ T (s + j) ∧ T (s + j) ≤ 122 := fun j hj => srt_1.mp ((g1 (s + j) (by omega) (by omega)).trans h1)
          have ek : tkS T tn s = nmF T s (enO T tn s - s) 27 0 := by unfold tkS; rw [if_neg (by omega), if_neg (by omega), if_neg (by omega)]
          rcases nmF_le (T := T) (s := s) (l := enO T tn s - s) 27 0 rfl with h99 | h27
          · refine .inr (.inr (.inl ⟨by rw [ek]; exact h99, rfl, fun i hi => wkR_n hi hTl (nmF_n 27 0 rfl h99 i (by omega) hi)⟩))
          · refine .inr (.inl ⟨by rw [ek]; exact h27, rfl, ?_⟩)
            rw [ek]; exact wkR_y h27 (nmF_y 27 0 rfl _ rfl h27)
        · rw [uI_s, if_neg (by omega)]; exact b15
        · rw [uI_s, if_neg (by omega)]; exact b16
        · show S2.2.1 87 18 = _
          rw [b18]; rfl
      · rw [b15, tp2.1.tape_l, in_iff (by omega), clI (by omega), tp2.2.2.1 s hst]
        refine ⟨by omega, m_digit hb (fun h2 => ite_n (by decide) ?_) (fun h2 => ite_y rfl ?_)⟩
        · -- digits
          refine nm_e ?_
          have c17 : (uI S2 87 17 2).1 87 17 = 2 := by rw [uI_s, if_pos rfl]
          refine ite_n (by rw [c17]; decide) ⟨1, ite_n (by rw [c17]; decide) ⟨enO T tn s - s + 1, ?_⟩⟩
          obtain ⟨g1, g2⟩ := e3 (by omega)
          refine m_next_num (s := s) (e := enO T tn s) h0 (by omega) e2 (fun j a b => (g1 j a b).trans h2) (fun h => by have := g2 h; rw [h2] at this; exact this) ?_ _ 0 _ (by omega) (f2.u (by omega)) ?_ ?_ c17 ?_
          · intro S' f' a1 a2 a3 a4
            refine z S' f' a1 a2 ?_
            rw [a3, a4]
            obtain ⟨r1, r2⟩ := rwN_f (T := T) (s := s) (enO T tn s - s) (fun m hm => srt_2.mp ((g1 (s + m) (by omega) (by omega)).trans h2))
            have ek : tkS T tn s = 50 := by unfold tkS; rw [if_neg (by omega), if_neg (by omega), if_pos h2]
            have ev : tvS T tn s = nvC T s (enO T tn s - s) := by unfold tvS; rw [if_neg (by omega), if_pos h2]
            refine .inr (.inr (.inr (.inl ⟨ek, rfl, by rw [lN_toInt (by omega)]; omega, ?_⟩)))
            rw [ev]
            rcases r2 with ⟨r3, r4⟩ | ⟨r3, r4⟩
            · left; rw [r4]; exact ⟨r3, rfl⟩
            · right; exact ⟨r4, by rw [lN_toInt (by omega)]; omega⟩
          · rw [uI_s, if_neg (by omega)]; exact b15
          · rw [uI_s, if_neg (by omega)]; exact b16
          · show S2.2.1 87 18 = _
            rw [b18]; rfl
        · -- a sign
          have s0 : srt (T s) = 0 := by have := srt_le (T s); omega
          refine nm_e ?_
          have c17 : (uI S2 87 17 3).1 87 17 = 3 := by rw [uI_s, if_pos rfl]
          have c15 : (uI S2 87 17 3).1 87 15 = nI s := by rw [uI_s, if_neg (by omega)]; exact b15
          have f3 : FrN S (uI S2 87 17 3) := f2.u (by omega)
          have tp3 := f3.tp h0
          refine ite_y c17 (ex_y tp3.1.tape ?_)
          rw [c15, tp3.1.tape_l, in_iff (by omega), clI (by omega), tp3.2.2.1 s hst]
          refine ⟨by omega, nm_e (nm_e ?_)⟩
          have d17 : (uI (uJ (uI S2 87 17 3) 87 18 (nI (T s)).toInt64) 87 16 ((uJ (uI S2 87 17 3) 87 18 (nI (T s)).toInt64).1 87 16 + 1)).1 87 17 = 3 := by rw [uI_s, if_neg (by omega)]; exact c17
          refine m_next_end (S0 := S) d17 (by decide) (by decide) (z _ (f3.uw.u (by omega)) ?_ ?_ ?_)
          · rw [uI_s, if_neg (by omega)]; exact c15
          · rw [uI_s, if_pos rfl, e4 s0]
            show (uI S2 87 17 3).1 87 16 + 1 = _
            rw [uI_s, if_neg (by omega), b16, nI_1]
          · rw [d17]
            have ek : tkS T tn s = 100 + T s := by unfold tkS; rw [if_neg (by omega), if_pos s0]
            refine .inr (.inr (.inr (.inr ⟨by omega, by omega, rfl, ?_⟩)))
            show (uJ (uI S2 87 17 3) 87 18 (nI (T s)).toInt64).2.1 87 18 = _
            rw [uJ_s, if_pos rfl, ek, nI_l (by omega), show 100 + T s - 100 = T s from by omega]
  have main : ∀ n i S1, skp T tn n i = s → i ≤ tn → tn ≤ i + n → FrN S S1 → S1.1 87 15 = nI i → f_X11_next_8_n G 87 K (n + 1) S1 := by
    intro n
    induction n with
    | zero =>
      intro i S1 hi h1 h2 f1 a15
      have hi : i = s := hi
      have tp := f1.tp h0
      rw [f_X11_next_8_n]
      refine ite_y (by rw [tp.2.1, a15, leI (by omega) (by omega)]; omega) (n46 S1 f1 (by rw [a15, hi]))
    | succ n ih =>
      intro i S1 hi h1 h2 f1 a15
      have tp := f1.tp h0
      rw [f_X11_next_8_n]
      unfold skp at hi
      refine ite_c (fun d => ?_) (fun d => ex_y tp.1.tape ?_)
      · rw [tp.2.1, a15, leI (by omega) (by omega)] at d
        rw [if_neg (by omega)] at hi
        exact n46 S1 f1 (by rw [a15, hi])
      · rw [tp.2.1, a15, leI (by omega) (by omega)] at d
        have hb := hT i (by omega)
        rw [a15, tp.1.tape_l, in_iff (by omega), clI (by omega), tp.2.2.1 i (by omega)]
        refine ⟨by omega, ite_c (fun d2 => nm_e ?_) (fun d2 => ?_)⟩
        · rw [lit, eqI (by omega) (by omega)] at d2
          rw [if_pos ⟨by omega, d2⟩] at hi
          refine ih (i + 1) _ hi (by omega) (by omega) (f1.u (by omega)) ?_
          rw [uI_s, if_pos rfl, nI_1]
        · rw [lit, eqI (by omega) (by omega)] at d2
          rw [if_neg (fun h => d2 h.2)] at hi
          exact n46 S1 f1 (by rw [a15, hi])
  exact nm_e ⟨401, main 400 e _ hs het (by omega) ((FrN.refl S).u (by omega)) (by rw [uI_s, if_pos rfl]; exact he)⟩
theorem FrE.tp {B S : St} (h : FrE B S) (hB : TpR G B T tn) : TpR G S T tn :=
  ⟨by rw [h.1]; exact hB.1, by rw [h.2.2.2.1 14 (by omega) (by omega) (by omega) (by omega) (by omega) (by omega) (by omega) (by omega) (by omega)]; exact hB.2.1, by rw [h.2.1 97 (by omega) (by omega) (by omega) (by omega) (by omega)]; exact hB.2.2.1, hB.2.2.2⟩
theorem m_nextT (hB : TpR G B T tn) : ∀ (S : St) (k : Nat) (K : St → Prop), FrE B S → k < tcT T tn → RT (tkT T tn) (stT T tn) (teT T tn) (tvT T tn) k S → (∀ S', RT (tkT T tn) (stT T tn) (teT T tn) (tvT T tn) (k + 1) S' → FrN S S' → K S') → f_X11_next G 87 K S := by
  intro S k K hF hk hr z
  have h4 := hB.2.2.2.1
  have hst := (tcT_f (T := T) h4).2.1 k hk
  have he := ((stT_s (T := T) h4 k).2.2.1 hst).2
  exact m_nextAt (hF.tp hB) hr.2.1 he (fun S' f' a1 a2 a3 => z S' ⟨a1, a2, a3⟩ f')
theorem m_begin (hB : TpR G S T tn) (z : ∀ S', RT (tkT T tn) (stT T tn) (teT T tn) (tvT T tn) 0 S' → FrN (uI (uI (uI S 87 16 0) 87 20 0) 87 19 (-1)) S' → K S') : f_X11_begin G 87 K S := by
  refine nm_e (nm_e (nm_e ?_))
  have tp : TpR G (uI (uI (uI S 87 16 0) 87 20 0) 87 19 (-1)) T tn := by
    refine ⟨hB.1, ?_, ?_, hB.2.2.2⟩
    · rw [uI_s, if_neg (by omega), uI_s, if_neg (by omega), uI_s, if_neg (by omega)]; exact hB.2.1
    · rw [uI_n _ _ _ _ (by omega), uI_n _ _ _ _ (by omega), uI_n _ _ _ _ (by omega)]; exact hB.2.2.1
  refine m_nextAt (e := 0) tp ?_ (by omega) (fun S' f' a1 a2 a3 => z S' ⟨a1, a2, a3⟩ f')
  rw [uI_s, if_neg (by omega), uI_s, if_neg (by omega), uI_s, if_pos rfl]; rfl
end
