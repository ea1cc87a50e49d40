-- needs: 200 201 202 203 204 210 211 220 221 222 223 224 225 226 227 228 230 231 232 240
/-! Glasses: digits and lenses. -/
theorem dgs_up : ∀ {n g : Nat}, dgs n g → dgs (n + 1) g := by
  intro n
  induction n with
  | zero => intro g h; exact .inl h
  | succ n ih =>
    intro g h
    rcases h with h | ⟨h1, h2, h3⟩
    · exact .inl h
    · exact .inr ⟨h1, h2, ih h3⟩
theorem gnn_up : ∀ {n g : Nat}, dgs n g → gnn (n + 1) g = gnn n g := by
  intro n
  induction n with
  | zero => intro g h; have h : g = 0 := h; subst h; rfl
  | succ n ih =>
    intro g h
    show (if g = 0 then 0 else gnn (n + 1) (g / 10) + 1) = (if g = 0 then 0 else gnn n (g / 10) + 1)
    rcases h with h | ⟨h1, h2, h3⟩
    · rw [if_pos h, if_pos h]
    · rw [if_neg (by omega), if_neg (by omega), ih h3]
theorem dgs_add {n g l : Nat} (h : dgs n g) (hl : l ≤ 7) : dgs (n + 1) (g * 10 + l + 1) := by
  refine .inr ⟨by omega, by omega, ?_⟩
  rw [show (g * 10 + l + 1) / 10 = g from by omega]; exact h
theorem gn_add {g l : Nat} (h : dgs 3 g) (hl : l ≤ 7) : gn (g * 10 + l + 1) = gn g + 1 := by
  show (if g * 10 + l + 1 = 0 then 0 else gnn 3 ((g * 10 + l + 1) / 10) + 1) = gnn 4 g + 1
  rw [if_neg (by omega), show (g * 10 + l + 1) / 10 = g from by omega, gnn_up h]
theorem gk_add {g l i : Nat} (h : dgs 3 g) (hl : l ≤ 7) : gk (g * 10 + l + 1) i = if i < gn g then gk g i else if i = gn g then l else 0 := by
  unfold gk
  rw [gn_add h hl]
  by_cases h1 : i < gn g
  · rw [if_pos (by omega), if_pos h1, if_pos h1]
    have e : 10 ^ (gn g + 1 - 1 - i) = 10 * 10 ^ (gn g - 1 - i) := by
      rw [show gn g + 1 - 1 - i = (gn g - 1 - i) + 1 from by omega, Nat.pow_succ, Nat.mul_comm]
    rw [e, ← Nat.div_div_eq_div_mul, show (g * 10 + l + 1) / 10 = g from by omega]
  · rw [if_neg h1]
    by_cases h2 : i = gn g
    · rw [if_pos (by omega), if_pos h2, show gn g + 1 - 1 - i = 0 from by omega, Nat.pow_zero, Nat.div_one]; omega
    · rw [if_neg (by omega), if_neg h2]
theorem dgs_gAdd {n g l : Nat} (h : dgs n g) (hl : l ≤ 7) : dgs (n + 1) (gAdd g l) := by
  unfold gAdd
  split
  · exact dgs_up h
  · exact dgs_add h hl
theorem dgs_m {n k g : Nat} (h : dgs n g) (hk : n ≤ k) : dgs k g := by
  induction k with
  | zero => have : n = 0 := by omega
            subst this; exact h
  | succ k ih =>
    by_cases e : n = k + 1
    · subst e; exact h
    · exact dgs_up (ih (by omega))
section
variable {G : Gm} {S S' : St} {a m : Rw} {L : Nat → Lw} {I : Im} {un tn : Nat} {u : Un} {T : Nat → Nat} {fl : Nat → Int32} {Q : Int32 → St → Prop} {K : Gm → St → Prop} {lo : Option Lw}
theorem glsA_v {j : Nat} : vG (glsA lo a j) := by
  unfold glsA
  exact dgs_gAdd (dgs_gAdd (dgs_gAdd (dgs_gAdd (n := 0) rfl (lenA_le (by omega))) (lenA_le (by omega))) (lenA_le (by omega))) (lenA_le (by omega))
def nz (l : Nat) : Nat := if l = 0 then 0 else 1
theorem gn_gAdd {g l : Nat} (h : dgs 3 g) (hl : l ≤ 7) : gn (gAdd g l) = gn g + nz l := by
  unfold gAdd nz
  split
  · rfl
  · exact gn_add h hl
/-- the first k kinds' lenses as a glass -/
def glsK (lo : Option Lw) (a : Rw) (j : Nat) : Nat → Nat
  | 0 => 0
  | k + 1 => gAdd (glsK lo a j k) (lenA lo a j k)
theorem glsK_d {j : Nat} : ∀ k, k ≤ 4 → dgs k (glsK lo a j k) := by
  intro k
  induction k with
  | zero => intro _; exact rfl
  | succ k ih => intro hk; exact dgs_gAdd (ih (by omega)) (lenA_le (by omega))
theorem glsK_4 {j : Nat} : glsK lo a j 4 = glsA lo a j := rfl
theorem gn_glsK {j k : Nat} (hk : k < 4) : gn (glsK lo a j (k + 1)) = gn (glsK lo a j k) + nz (lenA lo a j k) :=
  gn_gAdd (dgs_m (glsK_d k (by omega)) (by omega)) (lenA_le (by omega))
theorem dig : ∀ {n g : Nat}, dgs n g → ∀ e, e < gnn n g → 1 ≤ g / 10 ^ e % 10 ∧ g / 10 ^ e % 10 ≤ 8 := by
  intro n
  induction n with
  | zero => intro g _ e he; exact absurd he (Nat.not_lt_zero _)
  | succ n ih =>
    intro g h e he
    rcases h with h | ⟨h1, h2, h3⟩
    · subst h; exact absurd he (Nat.not_lt_zero _)
    · have en : gnn (n + 1) g = gnn n (g / 10) + 1 := by
        show (if g = 0 then 0 else gnn n (g / 10) + 1) = _
        rw [if_neg (by omega)]
      cases e with
      | zero => rw [Nat.pow_zero, Nat.div_one]; exact ⟨h1, h2⟩
      | succ e =>
        have := ih h3 e (by omega)
        rw [Nat.pow_succ, Nat.mul_comm, ← Nat.div_div_eq_div_mul]; exact this
theorem c_lensAt {g i : Nat} (hg : vG g) (hi : i < 4) (h : Q (if i < gn g then nI (gk g i) else -1) S) : f_X3_lensAt G (nI g) (nI i) Q S := by
  have g4 := gn_le g
  have g8 := vG_88 hg
  refine c_lensesIn hg ?_
  by_cases hig : i < gn g
  · rw [if_pos hig] at h
    refine nm_p (e' := nI (gn g - 1)) (by rw [lit, sbI (by omega)]) ?_
    have main : ∀ (x r : Nat), i + x + 1 ≤ gn g → r = g / 10 ^ (gn g - 1 - (i + x)) → f_X3_lensAt_9_n G (nI g) (nI i) Q (x + 1) (nI r) (nI (i + x)) S := by
      intro x
      induction x with
      | zero =>
        intro r hb hr
        rw [f_X3_lensAt_9_n]
        refine ite_y (by rw [leI (by omega) (by omega)]; omega) (ite_n (by simp (disch := omega) only [lit, nI_add, pk_mul, leI, ltI, eqI]; omega) (c_lensesIn hg (ite_n (by rw [leI (by omega) (by omega)]; omega) ?_)))
        have r8 : r ≤ 8888 := by rw [hr]; exact Nat.le_trans (Nat.div_le_self _ _) g8
        have dg := dig hg (gn g - 1 - i) (show gn g - 1 - i < gn g from by omega)
        have hr' : r = g / 10 ^ (gn g - 1 - i) := hr
        rw [← hr'] at dg
        have e : gk g i = r % 10 - 1 := by unfold gk; rw [if_pos hig, hr']
        rw [lit, rmI (by omega) (by omega) (by omega), lit, sbI (by omega), ← e]
        exact h
      | succ x ih =>
        intro r hb hr
        rw [f_X3_lensAt_9_n]
        have r8 : r ≤ 8888 := by rw [hr]; exact Nat.le_trans (Nat.div_le_self _ _) g8
        refine ite_n (by rw [leI (by omega) (by omega)]; omega) (nm_p (e' := nI (r / 10)) (by rw [lit, dvI (by omega) (by omega) (by omega)]) ?_)
        rw [show nI (i + (x + 1)) + (-1) = nI (i + x) from pk_m1 (i + x)]
        refine ih (r / 10) (by omega) ?_
        rw [hr, Nat.div_div_eq_div_mul, show gn g - 1 - (i + x) = (gn g - 1 - (i + (x + 1))) + 1 from by omega, Nat.pow_succ]
    have mm := main (gn g - 1 - i) g (by omega) (by rw [show gn g - 1 - (i + (gn g - 1 - i)) = 0 from by omega, Nat.pow_zero, Nat.div_one])
    rw [show i + (gn g - 1 - i) = gn g - 1 from by omega] at mm
    exact ⟨_, mm⟩
  · rw [if_neg hig] at h
    refine nm_e ⟨1, ?_⟩
    rw [f_X3_lensAt_9_n]
    refine ite_y ?_ (ite_n (by simp (disch := omega) only [lit, nI_add, pk_mul, leI, ltI, eqI]; omega) (c_lensesIn hg (ite_y (by rw [leI (by omega) (by omega)]; omega) h)))
    by_cases h0 : gn g = 0
    · rw [h0, i32_le, nI_toInt (by omega)]
      have : (nI 0 - 1).toInt = -1 := rfl
      omega
    · rw [lit, sbI (by omega), leI (by omega) (by omega)]; omega
/-- as FrR, and some rows of ints too -/
def FrX (X : Nat → Prop) (S S' : St) : Prop := S'.2.2 = S.2.2 ∧ (∀ i, i ≠ 87 → ¬ X i → S'.1 i = S.1 i) ∧ (∀ k, k ≠ 35 → k ≠ 40 → S'.1 87 k = S.1 87 k) ∧ (∀ i, i ≠ 87 → i ≠ 106 → i ≠ 109 → S'.2.1 i = S.2.1 i) ∧ (∀ k, k ≠ 41 → k ≠ 42 → S'.2.1 87 k = S.2.1 87 k)
theorem FrX.refl {X : Nat → Prop} (S : St) : FrX X S S := ⟨rfl, fun _ _ _ => rfl, fun _ _ _ => rfl, fun _ _ _ _ => rfl, fun _ _ _ => rfl⟩
theorem FrX.trans {X : Nat → Prop} {S S' S'' : St} (h : FrX X S S') (h' : FrX X S' S'') : FrX X S S'' :=
  ⟨h'.1.trans h.1, fun i h1 h2 => (h'.2.1 i h1 h2).trans (h.2.1 i h1 h2), fun k h1 h2 => (h'.2.2.1 k h1 h2).trans (h.2.2.1 k h1 h2), fun i h1 h2 h3 => (h'.2.2.2.1 i h1 h2 h3).trans (h.2.2.2.1 i h1 h2 h3), fun k h1 h2 => (h'.2.2.2.2 k h1 h2).trans (h.2.2.2.2 k h1 h2)⟩
theorem FrX.of {X : Nat → Prop} {S S' S'' : St} (h : FrX X S S') (h' : FrR S' S'') : FrX X S S'' :=
  h.trans ⟨h'.1, fun i h1 _ => h'.2.1 i h1, h'.2.2.1, h'.2.2.2.1, h'.2.2.2.2⟩
theorem FrX.pu {X : Nat → Prop} {S S' : St} {i j : Nat} {v : Int32} (h : FrX X S S') (hX : X i) (hi : i ≠ 87) : FrX X S (uI S' i j v) :=
  h.trans ⟨rfl, fun k h1 h2 => uI_n _ _ _ _ (fun e => h2 (by rw [e]; exact hX)), fun k _ _ => by rw [uI_n _ _ _ _ (by omega)], fun _ _ _ _ => rfl, fun _ _ _ => rfl⟩
theorem FrX.mono {X Y : Nat → Prop} {S S' : St} (h : FrX X S S') (hX : ∀ i, X i → Y i) : FrX Y S S' := ⟨h.1, fun i h1 h2 => h.2.1 i h1 (fun hx => h2 (hX i hx)), h.2.2⟩
theorem FrX.offC {X : Nat → Prop} {S S' : St} (h : FrX X S S') (hX : ∀ i, X i → 87 ≤ i ∧ i ≤ 120) : OffC S S' := ⟨h.1, fun i hi => ⟨h.2.1 i (by omega) (fun hx => by have := hX i hx; omega), h.2.2.2.1 i (by omega) (by omega) (by omega)⟩⟩
theorem RfP.frX {X : Nat → Prop} (h : RfP G S a L) (f : FrX X S S') (h89 : ¬ X 89) (h90 : ¬ X 90) : RfP G S' a L := by
  obtain ⟨h1, h2, h3, h4, h5, h6⟩ := h
  refine ⟨by rw [f.1]; exact h1, by rw [f.2.1 90 (by omega) h90]; exact h2, by rw [f.2.1 89 (by omega) h89]; exact h3, by rw [f.2.1 90 (by omega) h90]; exact h4, ?_, h6⟩
  rw [f.2.2.1 21 (by omega) (by omega)]; exact h5
theorem Ref.frX {X : Nat → Prop} (h : Ref G S a L I un u T tn fl m) (f : FrX X S S') (hX : ∀ i, X i → ¬ ((88 ≤ i ∧ i ≤ 94) ∨ i = 97 ∨ i = 120)) : Ref G S' a L I un u T tn fl m :=
  h.ag (fun k hk => f.2.2.1 k (by omega) (by omega)) (fun i hi => f.2.1 i (by omega) (fun hx => hX i hx hi)) (fun i _ => f.2.2.2.1 i (by omega) (by omega) (by omega)) (by rw [f.1])
/-- the reference lays what would be ground -/
theorem m_layGround {j : Nat} (hR : RfP G S a L) (hj : j < 6) (z : ∀ S', FrX (fun i => i = 110) S S' → (∀ k, k < 4 → S'.1 110 k = nI (lenA (frc a L) a j k)) → Q (nI (gn (glsA (frc a L) a j))) S') : f_X11_layGround G 87 (nI j) Q S := by
  have st : ∀ (n k : Nat) (S1 : St), FrX (fun i => i = 110) S S1 → (∀ i, i < k → S1.1 110 i = nI (lenA (frc a L) a j i)) → k < 4 → (∀ S2, FrX (fun i => i = 110) S S2 → (∀ i, i < k + 1 → S2.1 110 i = nI (lenA (frc a L) a j i)) → f_X11_layGround_4_n G 87 (nI j) Q n (nI (gn (glsK (frc a L) a j (k + 1)))) (nI (k + 1)) S2) → f_X11_layGround_4_n G 87 (nI j) Q (n + 1) (nI (gn (glsK (frc a L) a j k))) (nI k) S1 := by
    intro n k S1 f1 h1 hk w
    have hR1 := hR.frX f1 (by omega) (by omega)
    have l7 := lenA_le (lo := frc a L) (a := a) (j := j) hk
    rw [f_X11_layGround_4_n]
    generalize f_X11_layGround_4_n G 87 (nI j) Q n = W at w ⊢
    refine ite_n (by simp (disch := omega) only [lit, nI_add, pk_mul, leI, ltI, eqI]; omega) (ex_y hR1.1.groundTo ?_)
    refine m_grindsOf hR1 hj hk (fun S2 f2 => ?_)
    have hR2 := hR1.fr f2
    have i110 : vp_in (nI k) (G.2.1 110) := by rw [hR1.1.groundTo_l, in_iff (by omega)]; exact hk
    refine ⟨i110, nm_e (ex_y hR2.1.groundTo ⟨i110, ?_⟩)⟩
    rw [clI (by omega), uI_s, if_pos rfl]
    have f3 : FrX (fun i => i = 110) S (uI S2 110 k (nI (lenA (frc a L) a j k))) := (f1.of f2).pu rfl (by omega)
    have w3 := w _ f3 (by
      intro i hi
      rw [uI_s]
      by_cases e : i = k
      · rw [if_pos e, e]
      · rw [if_neg e, f2.2.1 110 (by omega)]; exact h1 i (by omega))
    rw [gn_glsK hk] at w3
    unfold nz at w3
    refine ite_c (fun d => ?_) (fun d => ?_)
    · rw [lit, eqI (by omega) (by omega)] at d
      rw [if_pos d] at w3
      refine nm_p (e' := nI (gn (glsK (frc a L) a j k) + 0)) (by rw [lit, nI_add]) ?_
      rw [nI_1]; exact w3
    · rw [lit, eqI (by omega) (by omega)] at d
      rw [if_neg d] at w3
      refine nm_p (nI_1 _) ?_
      rw [nI_1]; exact w3
  refine ⟨5, st 4 0 S (FrX.refl S) (fun i hi => absurd hi (by omega)) (by omega) (fun S1 f1 h1 => st 3 1 S1 f1 h1 (by omega) (fun S2 f2 h2 => st 2 2 S2 f2 h2 (by omega) (fun S3 f3 h3 => st 1 3 S3 f3 h3 (by omega) (fun S4 f4 h4 => ?_))))⟩
  exact ite_y (by simp (disch := omega) only [lit, nI_add, pk_mul, leI, ltI, eqI]; omega) (z S4 f4 h4)
end
