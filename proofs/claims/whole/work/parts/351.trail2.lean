-- needs: 350
/-! Back, and the reference's undos. -/
def bk (a x : Rw) : Rw := fun i => if i = 4 ∨ (8 ≤ i ∧ i < 38) then x i else a i
theorem bk_y {a x : Rw} {i : Nat} (h : i = 4 ∨ (8 ≤ i ∧ i < 38)) : bk a x i = x i := if_pos h
theorem bk_n {a x : Rw} {i : Nat} (h : ¬ (i = 4 ∨ (8 ≤ i ∧ i < 38))) : bk a x i = a i := if_neg h
section
variable {G : Gm} {S S' : St} {p t : Nat} {a m : Rw} {L : Nat → Lw} {I : Im} {un tn : Nat} {u : Un} {T : Nat → Nat} {fl : Nat → Int32} {Q : Int32 → St → Prop} {K : St → Prop}
theorem c_goBack (hH : PSh G S.2.2 p) (hP : ParC S p a) (hT : TrlC S t un u) (hu : un ≤ 16) (h0 : un ≠ 0) (rt : S.2.2 t 0 = some (t + 1)) (lt : G.2.1 (t + 1) = 512) (hpt : p + 7 < t) (z : ∀ S', Fr (fun i => i = t ∨ i = p + 1 ∨ i = p + 2 ∨ i = p + 4) S S' → ParC S' p (bk a (u 0).2) → TrlC S' t (un - 1) (fun k => u (k + 1)) → Q (nI (u 0).1) S') : f_X9_goBack G t p Q S := by
  obtain ⟨e2, nx, hnx, e1, hr⟩ := hT
  show f_J9_floorMod_7cf53 _ _ _ _ _
  rw [e1]
  refine fm_m hnx (nm_e ?_)
  have hx : (nx + 15) % 16 < 16 := by omega
  obtain ⟨q1, q2, q3, q4⟩ := hr 0 (by omega)
  rw [show (nx + 15 - 0) % 16 = (nx + 15) % 16 from by omega] at q1 q2 q3 q4
  have hr' : ∀ k, k < un - 1 → TRow (S.1 (t + 1)) (((nx + 15) % 16 + 15 - k) % 16) (u (k + 1)) := by
    intro k hk
    rw [show ((nx + 15) % 16 + 15 - k) % 16 = (nx + 15 - (k + 1)) % 16 from by omega]
    exact hr (k + 1) (by omega)
  generalize (nx + 15) % 16 = y at hx q1 q2 q3 q4 hr' ⊢
  refine nm_p (e' := uI (uI S t 1 (nI y)) t 2 (nI (un - 1))) ?_ ?_
  · rw [uI_s, if_neg (by omega), e2, mx16 hu h0]
  have b1 : (uI (uI S t 1 (nI y)) t 2 (nI (un - 1))).1 t 1 = nI y := by rw [uI_s, if_neg (by omega), uI_s, if_pos rfl]
  have b2 : (uI (uI S t 1 (nI y)) t 2 (nI (un - 1))).1 t 2 = nI (un - 1) := by rw [uI_s, if_pos rfl]
  have b3 : ∀ i, i ≠ t → (uI (uI S t 1 (nI y)) t 2 (nI (un - 1))).1 i = S.1 i := fun i hi => by rw [uI_n _ _ _ _ hi, uI_n _ _ _ _ hi]
  have b4 : (uI (uI S t 1 (nI y)) t 2 (nI (un - 1))).2 = S.2 := rfl
  generalize uI (uI S t 1 (nI y)) t 2 (nI (un - 1)) = S0 at b1 b2 b3 b4 ⊢
  refine nm_p (e' := nI (32 * y)) (by rw [b1, lit, pk_mul, Nat.mul_comm]) ?_
  rw [show nI (32 * y) + 24 = nI (32 * y + 24) from by rw [lit, nI_add], show nI (32 * y) + 30 = nI (32 * y + 30) from by rw [lit, nI_add], show nI (32 * y) + 31 = nI (32 * y + 31) from by rw [lit, nI_add]]
  refine ex_y (by rw [b4]; exact rt) (ex_y (by rw [b4]; exact hH.1) ⟨?_, nm_e ?_⟩)
  · rw [hH.2.2.2.2.2.2.2.1, lt]; exact cp_okg (dp := 0) (n := 24) (by omega) (by omega) (by omega) (by omega) (by omega)
  have g1 : ∀ i, i ≠ p + 1 → (cpI S0 (t + 1) (nI (32 * y)) (p + 1) 0 24).1 i = S0.1 i := fun i hi => cpI_n hi
  have g2 : ∀ k, (cpI S0 (t + 1) (nI (32 * y)) (p + 1) 0 24).1 (p + 1) k = if 0 ≤ k ∧ k < 0 + 24 then S0.1 (t + 1) (32 * y + (k - 0)) else S0.1 (p + 1) k := fun k => cpI_g (dp := 0) (n := 24) (by omega) (by omega) (by omega)
  have g3 : (cpI S0 (t + 1) (nI (32 * y)) (p + 1) 0 24).2 = S0.2 := rfl
  generalize cpI S0 (t + 1) (nI (32 * y)) (p + 1) 0 24 = S1 at g1 g2 g3 ⊢
  have R1 : S1.2 = S.2 := by rw [g3, b4]
  refine ex_y (by rw [R1]; exact rt) (ex_y (by rw [R1]; exact hH.2.1) ⟨?_, nm_e ?_⟩)
  · rw [hH.2.2.2.2.2.2.2.2.1, lt]; exact cp_okg (dp := 0) (n := 6) (by omega) (by omega) (by omega) (by omega) (by omega)
  have k1 : ∀ i, i ≠ p + 2 → (cpI S1 (t + 1) (nI (32 * y + 24)) (p + 2) 0 6).1 i = S1.1 i := fun i hi => cpI_n hi
  have k2 : ∀ k, (cpI S1 (t + 1) (nI (32 * y + 24)) (p + 2) 0 6).1 (p + 2) k = if 0 ≤ k ∧ k < 0 + 6 then S1.1 (t + 1) (32 * y + 24 + (k - 0)) else S1.1 (p + 2) k := fun k => cpI_g (dp := 0) (n := 6) (by omega) (by omega) (by omega)
  have k3 : (cpI S1 (t + 1) (nI (32 * y + 24)) (p + 2) 0 6).2 = S1.2 := rfl
  generalize cpI S1 (t + 1) (nI (32 * y + 24)) (p + 2) 0 6 = S2 at k1 k2 k3 ⊢
  have R2 : S2.2 = S.2 := by rw [k3, R1]
  have tt : S2.1 (t + 1) = S.1 (t + 1) := by rw [k1 _ (by omega), g1 _ (by omega), b3 _ (by omega)]
  refine ex_y (by rw [R2]; exact rt) ⟨by rw [lt, in_iff (by omega)]; omega, ?_⟩
  rw [clI (by omega), tt, q3]
  refine c_setTerm (k := 0) (by rw [R2]; exact hH) (by omega) ?_
  refine ex_y (by show S2.2.2 _ _ = _; rw [R2]; exact rt) ⟨by rw [lt, in_iff (by omega)]; omega, ?_⟩
  rw [clI (by omega), uI_n _ _ _ _ (by omega), tt, q4]
  have oth : ∀ i, i ≠ t → i ≠ p + 1 → i ≠ p + 2 → S2.1 i = S.1 i := fun i h1 h2 h3 => by rw [k1 i h3, g1 i h2, b3 i h1]
  refine z _ ?_ ?_ ?_
  · refine Fr.uI ⟨by rw [R2], fun i hi => ⟨oth i (by omega) (by omega) (by omega), by rw [R2]⟩⟩ (by omega)
  · obtain ⟨h0, h1, h2, h3, h4, h5, h6, h7, h8, h9⟩ := hP
    have n4 : ∀ i, i ≠ p + 4 → (uI S2 (p + 4) 0 (nI ((u 0).2 4))).1 i = S2.1 i := fun i hi => uI_n _ _ _ _ hi
    refine ⟨?_, ?_, ?_, ?_, fun k hk => ?_, fun k hk => ?_, fun k hk => ?_, fun k hk => ?_, fun k hk => ?_, fun k hk => ?_⟩
    · rw [n4 _ (by omega), oth _ (by omega) (by omega) (by omega), bk_n (by omega)]; exact h0
    · rw [n4 _ (by omega), oth _ (by omega) (by omega) (by omega), bk_n (by omega)]; exact h1
    · rw [n4 _ (by omega), oth _ (by omega) (by omega) (by omega), bk_n (by omega)]; exact h2
    · rw [n4 _ (by omega), oth _ (by omega) (by omega) (by omega), bk_n (by omega)]; exact h3
    · rw [uI_s]
      by_cases e : k = 0
      · subst e; rw [if_pos rfl, bk_y (by omega)]
      · rw [if_neg e, oth _ (by omega) (by omega) (by omega), bk_n (by omega)]; exact h4 k hk
    · rw [n4 _ (by omega), k1 _ (by omega), g2, if_pos (by omega), bk_y (by omega), b3 _ (by omega)]; exact q1 k hk
    · rw [n4 _ (by omega), k2, if_pos (by omega), bk_y (by omega), g1 _ (by omega), b3 _ (by omega)]; exact q2 k hk
    · rw [n4 _ (by omega), oth _ (by omega) (by omega) (by omega), bk_n (by omega)]; exact h7 k hk
    · rw [n4 _ (by omega), oth _ (by omega) (by omega) (by omega), bk_n (by omega)]; exact h8 k hk
    · rw [n4 _ (by omega), oth _ (by omega) (by omega) (by omega), bk_n (by omega)]; exact h9 k hk
  · refine ⟨?_, y, hx, ?_, fun k hk => ?_⟩
    · rw [uI_n _ _ _ _ (by omega), k1 _ (by omega), g1 _ (by omega)]; exact b2
    · rw [uI_n _ _ _ _ (by omega), k1 _ (by omega), g1 _ (by omega)]; exact b1
    · rw [uI_n _ _ _ _ (by omega), tt]; exact hr' k hk
/-- what the reference's deeds leave -/
def FrA (S S' : St) : Prop := S'.2.2 = S.2.2 ∧ (∀ i, i ≠ 87 → i ≠ 90 → i ≠ 93 → i ≠ 94 → i ≠ 110 → i ≠ 111 → S'.1 i = S.1 i) ∧ (∀ k, k ≠ 9 → k ≠ 35 → k ≠ 40 → S'.1 87 k = S.1 87 k) ∧ (∀ k, 928 ≤ k → S'.1 93 k = S.1 93 k) ∧ (∀ i, i ≠ 87 → i ≠ 106 → i ≠ 109 → S'.2.1 i = S.2.1 i) ∧ (∀ k, k ≠ 41 → k ≠ 42 → S'.2.1 87 k = S.2.1 87 k)
theorem FrA.refl (S : St) : FrA S S := ⟨rfl, fun _ _ _ _ _ _ _ => rfl, fun _ _ _ _ => rfl, fun _ _ => rfl, fun _ _ _ _ => rfl, fun _ _ _ => rfl⟩
theorem FrA.trans {S S' S'' : St} (h : FrA S S') (h' : FrA S' S'') : FrA S S'' :=
  ⟨h'.1.trans h.1, fun i a b c d e f => (h'.2.1 i a b c d e f).trans (h.2.1 i a b c d e f), fun k a b c => (h'.2.2.1 k a b c).trans (h.2.2.1 k a b c), fun k a => (h'.2.2.2.1 k a).trans (h.2.2.2.1 k a), fun i a b c => (h'.2.2.2.2.1 i a b c).trans (h.2.2.2.2.1 i a b c), fun k a b => (h'.2.2.2.2.2 k a b).trans (h.2.2.2.2.2 k a b)⟩
theorem FrA.offC {S S' : St} (h : FrA S S') : OffC S S' := ⟨h.1, fun i hi => ⟨h.2.1 i (by omega) (by omega) (by omega) (by omega) (by omega) (by omega), h.2.2.2.2.1 i (by omega) (by omega) (by omega)⟩⟩
theorem FrA.pu {S S' : St} {i j : Nat} {v : Int32} (h : FrA S S') (hi : i = 90 ∨ i = 110 ∨ i = 111) : FrA S (uI S' i j v) :=
  h.trans ⟨rfl, fun k _ h2 _ _ h5 h6 => uI_n _ _ _ _ (by omega), fun k _ _ _ => by rw [uI_n _ _ _ _ (by omega)], fun k _ => by rw [uI_n _ _ _ _ (by omega)], fun _ _ _ _ => rfl, fun _ _ _ => rfl⟩
theorem FrA.of1 {S S' : St} (h1 : S'.2 = S.2) (h2 : ∀ i, i ≠ 90 → S'.1 i = S.1 i) : FrA S S' := ⟨by rw [h1], fun i _ h _ _ _ _ => h2 i h, fun k _ _ _ => by rw [h2 87 (by omega)], fun k _ => by rw [h2 93 (by omega)], fun i _ _ _ => by rw [h1], fun k _ _ => by rw [h1]⟩
theorem FrR.toA {S S' : St} (h : FrR S S') : FrA S S' := ⟨h.1, fun i a _ _ _ _ _ => h.2.1 i a, fun k _ b c => h.2.2.1 k b c, fun k _ => by rw [h.2.1 93 (by omega)], h.2.2.2.1, h.2.2.2.2⟩
theorem FrX.toA {S S' : St} (h : FrX (fun i => i = 110) S S') : FrA S S' := ⟨h.1, fun i a _ _ _ e _ => h.2.1 i a e, fun k _ b c => h.2.2.1 k b c, fun k _ => by rw [h.2.1 93 (by omega) (by omega)], h.2.2.2.1, h.2.2.2.2⟩
/-- the reference keeps its row, and puts it back -/
theorem m_keepAll {r : Nat} (hS : ShR G S.2.2) (hr : r ≤ 17) (k : ∀ S', S'.2 = S.2 → (∀ i, i ≠ 93 → S'.1 i = S.1 i) → (∀ i, S'.1 93 i = if 58 * r ≤ i ∧ i < 58 * r + 58 then S.1 90 (4 + (i - 58 * r)) else S.1 93 i) → K S') : f_X11_keepAll G 87 (nI r) K S := by
  have st : ∀ (n v : Nat) (S1 : St), n + v = 58 → S1.2 = S.2 → (∀ i, i ≠ 93 → S1.1 i = S.1 i) → (∀ i, S1.1 93 i = if 58 * r ≤ i ∧ i < 58 * r + v then S.1 90 (4 + (i - 58 * r)) else S.1 93 i) → f_X11_keepAll_2_n G 87 (nI r) K (n + 1) (nI v) S1 := by
    intro n
    induction n with
    | zero =>
      intro v S1 hv h1 h2 h3
      have hv : v = 58 := by omega
      subst hv
      exact ite_y (by simp (disch := omega) only [lit, nI_add, pk_mul, leI, ltI, eqI]; omega) (k S1 h1 h2 h3)
    | succ n ih =>
      intro v S1 hv h1 h2 h3
      rw [f_X11_keepAll_2_n]
      refine ite_n (by simp (disch := omega) only [lit, nI_add, pk_mul, leI, ltI, eqI]; omega) (ex_y (by rw [h1]; exact hS.undos) (ex_y (by rw [h1]; exact hS.row) ?_))
      simp (disch := omega) only [show (58 : Int32) = nI 58 from rfl, show (4 : Int32) = nI 4 from rfl, nI_1, nI_add, pk_mul, clI, in_iff]
      rw [hS.row_l, hS.undos_l]
      refine ⟨by omega, by omega, nm_e (ih (v + 1) _ (by omega) h1 (fun i hi => by rw [uI_n _ _ _ _ hi]; exact h2 i hi) (fun i => ?_))⟩
      rw [uI_s, h2 90 (by omega), h3]
      by_cases e : i = 58 * r + v
      · subst e; rw [if_pos rfl, if_pos (by omega), show 58 * r + v - 58 * r = v from by omega]
      · rw [if_neg e]
        by_cases e2 : 58 * r ≤ i ∧ i < 58 * r + v
        · rw [if_pos e2, if_pos (by omega)]
        · rw [if_neg e2, if_neg (by omega)]
  exact ⟨59, st 58 0 S (by omega) rfl (fun _ _ => rfl) (fun i => by rw [if_neg (by omega)])⟩
theorem m_putBack {r : Nat} (hS : ShR G S.2.2) (hr : r ≤ 17) (k : ∀ S', S'.2 = S.2 → (∀ i, i ≠ 90 → S'.1 i = S.1 i) → (∀ i, S'.1 90 i = if 4 ≤ i ∧ i < 62 then S.1 93 (58 * r + (i - 4)) else S.1 90 i) → K S') : f_X11_putBack G 87 (nI r) K S := by
  have st : ∀ (n v : Nat) (S1 : St), n + v = 58 → S1.2 = S.2 → (∀ i, i ≠ 90 → S1.1 i = S.1 i) → (∀ i, S1.1 90 i = if 4 ≤ i ∧ i < 4 + v then S.1 93 (58 * r + (i - 4)) else S.1 90 i) → f_X11_putBack_2_n G 87 (nI r) K (n + 1) (nI v) S1 := by
    intro n
    induction n with
    | zero =>
      intro v S1 hv h1 h2 h3
      have hv : v = 58 := by omega
      subst hv
      exact ite_y (by simp (disch := omega) only [lit, nI_add, pk_mul, leI, ltI, eqI]; omega) (k S1 h1 h2 h3)
    | succ n ih =>
      intro v S1 hv h1 h2 h3
      rw [f_X11_putBack_2_n]
      refine ite_n (by simp (disch := omega) only [lit, nI_add, pk_mul, leI, ltI, eqI]; omega) (ex_y (by rw [h1]; exact hS.row) (ex_y (by rw [h1]; exact hS.undos) ?_))
      simp (disch := omega) only [show (58 : Int32) = nI 58 from rfl, show (4 : Int32) = nI 4 from rfl, nI_1, nI_add, pk_mul, clI, in_iff]
      rw [hS.row_l, hS.undos_l]
      refine ⟨by omega, by omega, nm_e (ih (v + 1) _ (by omega) h1 (fun i hi => by rw [uI_n _ _ _ _ hi]; exact h2 i hi) (fun i => ?_))⟩
      rw [uI_s, h2 93 (by omega), h3]
      by_cases e : i = 4 + v
      · subst e; rw [if_pos rfl, if_pos (by omega), show 4 + v - 4 = v from by omega]
      · rw [if_neg e]
        by_cases e2 : 4 ≤ i ∧ i < 4 + v
        · rw [if_pos e2, if_pos (by omega)]
        · rw [if_neg e2, if_neg (by omega)]
  exact ⟨59, st 58 0 S (by omega) rfl (fun _ _ => rfl) (fun i => by rw [if_neg (by omega)])⟩
theorem RowR.sn {f : Nat → Int32} (h : RowR f a) : SnR (fun i => f (4 + i)) a := by
  obtain ⟨g0, g1, g2, g3, g4, g5, g6, g7, g8, g9, g10⟩ := h
  refine ⟨g4, fun i hi => ?_, fun j hj => ?_, fun j hj k hk => ?_⟩
  · show f (4 + (4 + i)) = _; rw [show 4 + (4 + i) = 8 + i from by omega]; exact g5 i hi
  · show f (4 + (28 + 5 * j)) = _; rw [show 4 + (28 + 5 * j) = 32 + 5 * j from by omega]; exact g6 j hj
  · show f (4 + (29 + 5 * j + k)) = _; rw [show 4 + (29 + 5 * j + k) = 33 + 5 * j + k from by omega]; exact g7 j hj k hk
theorem SnR.ag {f f' : Nat → Int32} (h : SnR f a) (e : ∀ i, i < 58 → f' i = f i) : SnR f' a := by
  obtain ⟨g0, g1, g2, g3⟩ := h
  refine ⟨fun i hi => ?_, fun i hi => ?_, fun j hj => ?_, fun j hj k hk => ?_⟩
  · rw [e _ (by omega)]; exact g0 i hi
  · rw [e _ (by omega)]; exact g1 i hi
  · rw [e _ (by omega)]; exact g2 j hj
  · rw [e _ (by omega)]; exact g3 j hj k hk
/-- the reference with other undos -/
theorem Ref.unr {un' : Nat} {u' : Un} (h : Ref G S a L I un u T tn fl m) (hU : UnR S' un' u') (h1 : S'.2 = S.2) (h2 : ∀ i, i ≠ 87 → i ≠ 93 → i ≠ 94 → S'.1 i = S.1 i) (h3 : ∀ k, k ≠ 9 → S'.1 87 k = S.1 87 k) : Ref G S' a L I un' u' T tn fl m := by
  obtain ⟨⟨g1, g2, g3, g4, g5⟩, g6, g7, g8, g9, g10, g11⟩ := h
  refine ⟨⟨by rw [h1]; exact g1, by rw [h2 90 (by omega) (by omega) (by omega)]; exact g2, by rw [h2 89 (by omega) (by omega) (by omega)]; exact g3, by rw [h2 90 (by omega) (by omega) (by omega)]; exact g4, by rw [h3 21 (by omega)]; exact g5⟩, ?_, hU, ?_, ?_, ?_, ?_⟩
  · unfold ImgR; rw [h2 92 (by omega) (by omega) (by omega), h2 91 (by omega) (by omega) (by omega)]; exact g6
  · unfold TapR; rw [h3 14 (by omega), h2 97 (by omega) (by omega) (by omega)]; exact g8
  · unfold FlR; rw [h3 1 (by omega), h3 12 (by omega), h3 55 (by omega), h3 19 (by omega), h2 88 (by omega) (by omega) (by omega)]; exact g9
  · unfold MonR; rw [h3 59 (by omega), h2 120 (by omega) (by omega) (by omega)]; exact g10
  · unfold CoR; rw [h1]; exact g11
theorem m_rem77 {v : Nat} (h : Ref G S a L I un u T tn fl m) (hu : un < 16) (k : ∀ S', Ref G S' a L I (un + 1) (psh (v, a) u) T tn fl m → FrA S S' → (∀ i, i ≠ 87 → i ≠ 93 → i ≠ 94 → S'.1 i = S.1 i) → (∀ k, k ≠ 9 → S'.1 87 k = S.1 87 k) → S'.2 = S.2 → K S') : f_X11_remember_77 G 87 (nI v) K S := by
  have hS := h.1.1
  obtain ⟨u1, u2⟩ := h.2.2.1
  show f_X11_keepAll _ _ (S.1 87 9) _ _
  rw [u1]
  refine m_keepAll hS (by omega) (fun S1 e1 e2 e3 => ?_)
  have c9 : S1.1 87 9 = nI un := by rw [e2 87 (by omega)]; exact u1
  refine ex_y (by rw [e1]; exact hS.sorts) ?_
  rw [c9, clI (by omega), hS.sorts_l, in_iff (by omega)]
  refine ⟨by omega, nm_e (nm_e ?_)⟩
  rw [uI_n _ _ _ _ (by omega), c9, nI_1]
  have f1 : ∀ i, i ≠ 87 → i ≠ 93 → i ≠ 94 → (uI (uI S1 94 un (nI v)) 87 9 (nI (un + 1))).1 i = S.1 i := fun i h1 h2 h3 => by rw [uI_n _ _ _ _ h1, uI_n _ _ _ _ h3, e2 i h2]
  have f2 : ∀ k, k ≠ 9 → (uI (uI S1 94 un (nI v)) 87 9 (nI (un + 1))).1 87 k = S.1 87 k := fun k hk => by rw [uI_s, if_neg hk, uI_n _ _ _ _ (by omega), e2 87 (by omega)]
  refine k _ (h.unr ⟨?_, fun j hj => ?_⟩ e1 f1 f2) ?_ f1 f2 e1
  · rw [uI_s, if_pos rfl]
  · rw [uI_n _ _ _ _ (show (94 : Nat) ≠ 87 by omega), uI_n _ _ _ _ (show (93 : Nat) ≠ 87 by omega), uI_s, uI_n _ _ _ _ (show (93 : Nat) ≠ 94 by omega)]
    by_cases h0 : j = 0
    · subst h0
      rw [show un + 1 - 1 - 0 = un from by omega, if_pos rfl]
      refine ⟨rfl, (h.1.2.1.sn).ag (fun i hi => ?_)⟩
      rw [e3, if_pos (by omega), show 58 * un + i - 58 * un = i from by omega]
    · rw [show un + 1 - 1 - j = un - 1 - (j - 1) from by omega, if_neg (by omega), e2 94 (by omega)]
      unfold psh
      rw [if_neg h0]
      obtain ⟨w1, w2⟩ := u2 (j - 1) (by omega)
      refine ⟨w1, w2.ag (fun i hi => ?_)⟩
      rw [e3, if_neg (by omega)]
  · refine ⟨by show S1.2.2 = _; rw [e1], fun i h1 _ h3 h4 _ _ => f1 i h1 h3 h4, fun k h1 _ _ => f2 k h1, fun k hk => ?_, fun i _ _ _ => by show S1.2.1 i = _; rw [e1], fun k _ _ => by show S1.2.1 87 k = _; rw [e1]⟩
    rw [uI_n _ _ _ _ (by omega), uI_n _ _ _ _ (by omega), e3, if_neg (by omega)]
theorem m_remember {v : Nat} (h : Ref G S a L I un u T tn fl m) (hu : un ≤ 16) (k : ∀ S', Ref G S' a L I (min 16 (un + 1)) (psh (v, a) u) T tn fl m → FrA S S' → K S') : f_X11_remember G 87 (nI v) K S := by
  have hS := h.1.1
  obtain ⟨u1, u2⟩ := h.2.2.1
  unfold f_X11_remember
  rw [u1]
  by_cases h16 : un = 16
  · subst h16
    refine ite_y rfl ?_
    have s2 : ∀ (n w : Nat) (S1 : St), n + w = 15 → S1.2 = S.2 → (∀ i, i ≠ 93 → i ≠ 94 → S1.1 i = S.1 i) → (∀ i, S1.1 93 i = if i < 870 then S.1 93 (i + 58) else S.1 93 i) → (∀ i, S1.1 94 i = if i < w then S.1 94 (i + 1) else S.1 94 i) → f_X11_remember_41_n G 87 (nI v) K (n + 1) (nI w) S1 := by
      intro n
      induction n with
      | zero =>
        intro w S1 hw h1 h2 h3 h4
        have hw : w = 15 := by omega
        subst hw
        refine ite_y (by simp (disch := omega) only [lit, nI_add, pk_mul, leI, ltI, eqI]; omega) (nm_e ?_)
        have c9 : S1.1 87 9 = nI 16 := by rw [h2 87 (by omega) (by omega)]; exact u1
        rw [c9, lit, sbI (by omega)]
        have hR : Ref G (uI S1 87 9 (nI (16 - 1))) a L I 15 u T tn fl m := by
          refine h.unr ⟨?_, fun j hj => ?_⟩ h1 (fun i e1 e2 e3 => by rw [uI_n _ _ _ _ e1, h2 i e2 e3]) (fun k hk => by rw [uI_s, if_neg hk, h2 87 (by omega) (by omega)])
          · rw [uI_s, if_pos rfl]
          · obtain ⟨w1, w2⟩ := u2 j (by omega)
            rw [uI_n _ _ _ _ (show (94 : Nat) ≠ 87 by omega), uI_n _ _ _ _ (show (93 : Nat) ≠ 87 by omega), h4, if_pos (by omega), show 15 - 1 - j + 1 = 16 - 1 - j from by omega]
            refine ⟨w1, w2.ag (fun i hi => ?_)⟩
            rw [h3 _, if_pos (by omega), show 58 * (15 - 1 - j) + i + 58 = 58 * (16 - 1 - j) + i from by omega]
        refine m_rem77 hR (by omega) (fun S' hR' o' _ _ _ => k S' hR' (FrA.trans ?_ o'))
        exact ⟨by show S1.2.2 = _; rw [h1], fun i a1 _ a3 a4 _ _ => by rw [uI_n _ _ _ _ a1, h2 i a3 a4], fun k a1 _ _ => by rw [uI_s, if_neg a1, h2 87 (by omega) (by omega)], fun k hk => by rw [uI_n _ _ _ _ (by omega), h3, if_neg (by omega)], fun i _ _ _ => by show S1.2.1 i = _; rw [h1], fun k _ _ => by show S1.2.1 87 k = _; rw [h1]⟩
      | succ n ih =>
        intro w S1 hw h1 h2 h3 h4
        rw [f_X11_remember_41_n]
        refine ite_n (by simp (disch := omega) only [lit, nI_add, pk_mul, leI, ltI, eqI]; omega) (ex_y (by rw [h1]; exact hS.sorts) (ex_y (by rw [h1]; exact hS.sorts) ?_))
        simp (disch := omega) only [nI_1, clI, in_iff]
        rw [hS.sorts_l]
        refine ⟨by omega, by omega, nm_e (ih (w + 1) _ (by omega) h1 (fun i e1 e2 => by rw [uI_n _ _ _ _ e2]; exact h2 i e1 e2) (fun i => by rw [uI_n _ _ _ _ (by omega)]; exact h3 i) (fun i => ?_))⟩
        rw [uI_s, h4, h4]
        by_cases e : i = w
        · subst e; rw [if_pos rfl, if_neg (by omega), if_pos (by omega)]
        · rw [if_neg e]
          by_cases e2 : i < w
          · rw [if_pos e2, if_pos (by omega)]
          · rw [if_neg e2, if_neg (by omega)]
    have s1 : ∀ (n w : Nat) (S1 : St), n + w = 870 → S1.2 = S.2 → (∀ i, i ≠ 93 → S1.1 i = S.1 i) → (∀ i, S1.1 93 i = if i < w then S.1 93 (i + 58) else S.1 93 i) → f_X11_remember_11_n G 87 (nI v) K (n + 1) (nI w) S1 := by
      intro n
      induction n with
      | zero =>
        intro w S1 hw h1 h2 h3
        have hw : w = 870 := by omega
        subst hw
        exact ite_y (by simp (disch := omega) only [lit, nI_add, pk_mul, leI, ltI, eqI]; omega) ⟨16, s2 15 0 S1 (by omega) h1 (fun i e1 _ => h2 i e1) h3 (fun i => by rw [if_neg (by omega), h2 94 (by omega)])⟩
      | succ n ih =>
        intro w S1 hw h1 h2 h3
        rw [f_X11_remember_11_n]
        refine ite_n (by simp (disch := omega) only [lit, nI_add, pk_mul, leI, ltI, eqI]; omega) (ex_y (by rw [h1]; exact hS.undos) (ex_y (by rw [h1]; exact hS.undos) ?_))
        simp (disch := omega) only [show (58 : Int32) = nI 58 from rfl, nI_1, nI_add, clI, in_iff]
        rw [hS.undos_l]
        refine ⟨by omega, by omega, nm_e (ih (w + 1) _ (by omega) h1 (fun i e1 => by rw [uI_n _ _ _ _ e1]; exact h2 i e1) (fun i => ?_))⟩
        rw [uI_s, h3, h3]
        by_cases e : i = w
        · subst e; rw [if_pos rfl, if_neg (by omega), if_pos (by omega)]
        · rw [if_neg e]
          by_cases e2 : i < w
          · rw [if_pos e2, if_pos (by omega)]
          · rw [if_neg e2, if_neg (by omega)]
    exact ⟨871, s1 870 0 S (by omega) rfl (fun _ _ => rfl) (fun i => by rw [if_neg (by omega)])⟩
  · refine ite_n (by rw [lit, eqI (by omega) (by omega)]; exact h16) (m_rem77 h (by omega) (fun S' hR' o' _ _ _ => k S' ?_ o'))
    rw [show min 16 (un + 1) = un + 1 from by omega]; exact hR'
end
