/-! The class reads a clause. -/
section
variable {G : Gm} {B S S' : St} {tk ts tv : Nat → Nat} {tc q : Nat} {od : Bool} {Q : Int32 → St → Prop} {K : St → Prop} {k p N : Nat} {c : Cd} {us : Nat → Prop}
theorem c_here0 (hS : ShC G S.2.2) (hA : TkA tk ts tv tc) (h5 : S.1 75 5 = nI tc) (ha : ∀ i, i < tc → S.1 77 i = tI (tk i)) (h6 : S.1 75 6 = nI k) (hk : k ≤ tc) (z : Q (tI (tk k)) S) : f_X6_here G 75 Q S := by
  have t4 := hA.1
  unfold f_X6_here
  rw [h6, h5]
  refine ite_n (nI_nn (by omega)) (ite_c (fun d => ?_) (fun d => ?_))
  · rw [leI (by omega) (by omega)] at d
    rw [hA.2.1 k d] at z
    exact z
  · rw [leI (by omega) (by omega)] at d
    refine ex_y hS.r75_2 ⟨?_, ?_⟩
    · rw [hS.l77, in_iff (by omega)]; omega
    · rw [clI (by omega), ha k (by omega)]; exact z
theorem c_fail0 (hS : ShC G S.2.2) (hA : TkA tk ts tv tc) (h5 : S.1 75 5 = nI tc) (hb : ∀ i, i ≤ tc → S.1 78 i = nI (ts i)) (h6 : S.1 75 6 = nI k) (h9 : S.1 75 9 = -1) (hk : k ≤ tc) (z : K (uI (uI S 75 9 (nI (ts k))) 75 6 (nI tc))) : f_X6_fail G 75 K S := by
  have t4 := hA.1
  unfold f_X6_fail
  rw [h6]
  refine ite_y h9 (ite_n (nI_nn (by omega)) (ite_n (by simp (disch := omega) only [lit, nI_add, pk_mul, leI, ltI, eqI]; omega) (ex_y hS.r75_3 ⟨?_, ?_⟩)))
  · rw [hS.l78, in_iff (by omega)]; omega
  · rw [clI (by omega), hb k hk]
    refine nm_e (nm_p ?_ z)
    rw [uI_s, if_neg (by omega), h5]
/-- what reading clauses changes; and below the q-th nothing -/
def FrC (q : Nat) (B S : St) : Prop := S.2 = B.2 ∧ (∀ i, (i < 75 ∨ 85 < i ∨ (75 < i ∧ i < 80)) → S.1 i = B.1 i) ∧ (∀ j, j ≠ 6 → j ≠ 7 → j ≠ 9 → S.1 75 j = B.1 75 j) ∧ (∀ j, j < q → S.1 81 j = B.1 81 j ∧ S.1 82 j = B.1 82 j ∧ S.1 83 j = B.1 83 j) ∧ (∀ j, j < 4 * q → S.1 84 j = B.1 84 j)
theorem FrC.refl (q : Nat) (B : St) : FrC q B B := ⟨rfl, fun _ _ => rfl, fun _ _ _ _ => rfl, fun _ _ => ⟨rfl, rfl, rfl⟩, fun _ _ => rfl⟩
theorem FrC.trans {S'' : St} (h : FrC q S S') (h' : FrC q S' S'') : FrC q S S'' := ⟨h'.1.trans h.1, fun i a => (h'.2.1 i a).trans (h.2.1 i a), fun j a b c => (h'.2.2.1 j a b c).trans (h.2.2.1 j a b c), fun j a => ⟨(h'.2.2.2.1 j a).1.trans (h.2.2.2.1 j a).1, (h'.2.2.2.1 j a).2.1.trans (h.2.2.2.1 j a).2.1, (h'.2.2.2.1 j a).2.2.trans (h.2.2.2.1 j a).2.2⟩, fun j a => (h'.2.2.2.2 j a).trans (h.2.2.2.2 j a)⟩
theorem FrC.mono {q' : Nat} (h : FrC q B S) (hq : q' ≤ q) : FrC q' B S := ⟨h.1, h.2.1, h.2.2.1, fun j a => h.2.2.2.1 j (by omega), fun j a => h.2.2.2.2 j (by omega)⟩
theorem FrP.toC (h : FrP B q S) : FrC q B S := ⟨h.1, fun i a => h.2.1 i (by omega) (by omega) (by omega) (by omega), h.2.2.1, fun j a => ⟨by rw [h.2.1 81 (by omega) (by omega) (by omega) (by omega)], by rw [h.2.1 82 (by omega) (by omega) (by omega) (by omega)], h.2.2.2.2 j (by omega)⟩, fun j a => by rw [h.2.1 84 (by omega) (by omega) (by omega) (by omega)]⟩
theorem FrC.u {i j : Nat} {v : Int32} (h : FrC q B S) (hi : (i = 75 ∧ (j = 6 ∨ j = 7 ∨ j = 9)) ∨ i = 80 ∨ ((i = 81 ∨ i = 82 ∨ i = 83) ∧ q ≤ j) ∨ (i = 84 ∧ 4 * q ≤ j) ∨ i = 85) : FrC q B (uI S i j v) := by
  have e : ∀ a b, ¬ (a = i ∧ b = j) → (uI S i j v).1 a b = S.1 a b := fun a b h => if_neg h
  refine h.trans ⟨rfl, fun a ha => uI_n _ _ _ _ (by omega), fun b h1 h2 h3 => e 75 b (by omega), fun b hb => ⟨e 81 b (by omega), e 82 b (by omega), e 83 b (by omega)⟩, fun b hb => e 84 b (by omega)⟩
theorem FrP.refl (B : St) (q : Nat) : FrP B q B := ⟨rfl, fun _ _ _ _ _ => rfl, fun _ _ _ _ => rfl, fun _ _ => rfl, fun _ _ => rfl⟩
theorem EnvC.re (hE : EnvC G B tk ts tv tc od q) (hF : FrP B q S) : EnvC G S tk ts tv tc od q := by
  obtain ⟨a, b, c, d, e, f, g, h⟩ := hE
  refine ⟨by rw [hF.R]; exact a, b, ?_, ?_, ?_, ?_, ?_, h⟩
  · rw [hF.2.2.1 5 (by omega) (by omega) (by omega)]; exact c
  · rw [hF.2.1 77 (by omega) (by omega) (by omega) (by omega), hF.2.1 79 (by omega) (by omega) (by omega) (by omega)]; exact d
  · rw [hF.2.1 78 (by omega) (by omega) (by omega) (by omega)]; exact e
  · rw [hF.2.2.1 8 (by omega) (by omega) (by omega)]; exact f
  · rw [hF.2.2.2.1 5 (by omega)]; exact g
theorem CSt.re (h : CSt B od q k p N c us S) : CSt S od q k p N c us S := ⟨FrP.refl S q, h.2⟩
theorem CBd.re {x : Nat} (h : CBd B tc q x S) : CBd S tc q x S := ⟨FrP.refl S q, h.2⟩
theorem EnvC.u84 {j : Nat} {v : Int32} (hE : EnvC G S tk ts tv tc od q) : EnvC G (uI S 84 j v) tk ts tv tc od q := by
  obtain ⟨a, b, c, d, e, f, g, h⟩ := hE
  have r : ∀ i, i ≠ 84 → (uI S 84 j v).1 i = S.1 i := fun i hi => uI_n _ _ _ _ hi
  exact ⟨a, b, by rw [r 75 (by omega)]; exact c, by rw [r 77 (by omega), r 79 (by omega)]; exact d, by rw [r 78 (by omega)]; exact e, by rw [r 75 (by omega)]; exact f, by rw [r 80 (by omega)]; exact g, h⟩
theorem CSt.u84 {j : Nat} {v : Int32} (h : CSt S od q k p N c us S) : CSt (uI S 84 j v) od q k p N c us (uI S 84 j v) := by
  obtain ⟨_, h6, h7, h9, h80, hc, hu⟩ := h
  have r : ∀ i, i ≠ 84 → (uI S 84 j v).1 i = S.1 i := fun i hi => uI_n _ _ _ _ hi
  exact ⟨FrP.refl _ q, by rw [r 75 (by omega)]; exact h6, by rw [r 75 (by omega)]; exact h7, by rw [r 75 (by omega)]; exact h9, by rw [r 80 (by omega)]; exact h80, by rw [r 85 (by omega)]; exact hc, by rw [r 83 (by omega)]; exact hu⟩
theorem CBd.u84 {x j : Nat} {v : Int32} (h : CBd S tc q x S) : CBd (uI S 84 j v) tc q x (uI S 84 j v) := by
  obtain ⟨_, h6, h9, hx, z, z1, z2⟩ := h
  have r : ∀ i, i ≠ 84 → (uI S 84 j v).1 i = S.1 i := fun i hi => uI_n _ _ _ _ hi
  exact ⟨FrP.refl _ q, by rw [r 75 (by omega)]; exact h6, by rw [r 75 (by omega)]; exact h9, hx, z, z1, by rw [r 80 (by omega)]; exact z2⟩
theorem c_mark {w : Nat} (hE : EnvC G S tk ts tv tc od q) (hw : w < 4) (z : K (uI S 84 (4 * q + w) (S.1 80 6))) : f_X8_mark G 80 (nI w) K S := by
  have hS := hE.1
  have g := hE.2.2.2.2.2.2.1
  have h := hE.2.2.2.2.2.2.2
  refine nm_p (e' := nI (4 * q + w)) (by rw [g, nI_pred, show (4 : Int32) = nI 4 from rfl, pk_mul, nI_add, Nat.mul_comm]) ?_
  refine ite_n (nI_nn (by omega)) (ex_y hS.r80_3 (ite_n (by rw [hS.l84, leI (by omega) (by omega)]; omega) (ex_y hS.r80_3 ?_)))
  rw [hS.l84, in_iff (by omega), clI (by omega)]
  exact ⟨by omega, nm_e z⟩
theorem c_mark3 (hE : EnvC G S tk ts tv tc od q) {w : Nat} (hw : w < 4) (z : K (uI S 84 (4 * q + w) (S.1 80 6))) : ∃ a1, S.2.2 75 10 = some a1 ∧ f_X8_mark G a1 (nI w) K S := ex_y hE.1.r75_10 (c_mark hE hw z)
/-- repeat -/
theorem c_repeat {r : Nat} (hE : EnvC G S tk ts tv tc od q) (z : K (uI S 82 q (nI r))) : f_X8_repeat G 80 (nI r) K S := by
  have hS := hE.1
  have g := hE.2.2.2.2.2.2.1
  have h := hE.2.2.2.2.2.2.2
  refine nm_p (e' := nI q) (by rw [g, nI_pred]) ?_
  refine ite_n (nI_nn (by omega)) (ex_y hS.r80_1 (ite_n (by rw [hS.l82, leI (by omega) (by omega)]; omega) (ex_y hS.r80_1 ?_)))
  rw [hS.l82, in_iff (by omega), clI (by omega)]
  exact ⟨by omega, nm_e z⟩
theorem EnvC.u82 {j : Nat} {v : Int32} (hE : EnvC G S tk ts tv tc od q) : EnvC G (uI S 82 j v) tk ts tv tc od q := by
  obtain ⟨a, b, c, d, e, f, g, h⟩ := hE
  have r : ∀ i, i ≠ 82 → (uI S 82 j v).1 i = S.1 i := fun i hi => uI_n _ _ _ _ hi
  exact ⟨a, b, by rw [r 75 (by omega)]; exact c, by rw [r 77 (by omega), r 79 (by omega)]; exact d, by rw [r 78 (by omega)]; exact e, by rw [r 75 (by omega)]; exact f, by rw [r 80 (by omega)]; exact g, h⟩
theorem CSt.u82 {j : Nat} {v : Int32} (h : CSt S od q k p N c us S) : CSt (uI S 82 j v) od q k p N c us (uI S 82 j v) := by
  obtain ⟨_, h6, h7, h9, h80, hc, hu⟩ := h
  have r : ∀ i, i ≠ 82 → (uI S 82 j v).1 i = S.1 i := fun i hi => uI_n _ _ _ _ hi
  exact ⟨FrP.refl _ q, by rw [r 75 (by omega)]; exact h6, by rw [r 75 (by omega)]; exact h7, by rw [r 75 (by omega)]; exact h9, by rw [r 80 (by omega)]; exact h80, by rw [r 85 (by omega)]; exact hc, by rw [r 83 (by omega)]; exact hu⟩
/-- a sum at its place, or none -/
def SgO (t : Nat) (c : Cd) (us : Nat → Prop) (i j : Nat) (o : Option Fn) : Prop := match o with
  | none => i = j
  | some f => ∃ h, h ≤ 32 ∧ Seg c us t i j h f
theorem SgO.le {t i j : Nat} {o : Option Fn} (h : SgO t c us i j o) : i ≤ j := by
  cases o with
  | none => exact Nat.le_of_eq h
  | some f => obtain ⟨_, _, s⟩ := h; exact Nat.le_of_lt s.keep.1
theorem SgO.keep {t i j : Nat} {o : Option Fn} {c' : Cd} {us' : Nat → Prop} (h : SgO t c us i j o) (hc : ∀ k, i ≤ k → k < j → c' k = c k) (hu : ∀ w, us w → us' w) : SgO t c' us' i j o := by
  cases o with
  | none => exact h
  | some f => obtain ⟨h1, h2, s⟩ := h; exact ⟨h1, h2, s.keep.2 c' us' hc hu⟩
/-- a step of a clause: from one state with its own base to another -/
def CGo (G : Gm) (tk ts tv : Nat → Nat) (tc : Nat) (od : Bool) (q : Nat) (S : St) (S' : St) : Prop := FrC q S S' ∧ EnvC G S' tk ts tv tc od q ∧ S'.1 81 = S.1 81
theorem c_opt_sum {b : Bool} (hE : EnvC G S tk ts tv tc od q) (h : CSt S od q k p N c us S) (hk : k ≤ tc) (hp : p ≤ 50) (hN : N ≤ k) (y : ∀ k' p' o, gOpt b (gSum tk tv od 8) k k p = .inr (k', p', o) → ∀ S' N' c' us', CGo G tk ts tv tc od q S S' → S'.1 82 = S.1 82 → S'.1 84 = S.1 84 → CSt S' od q k' p' N' c' us' S' → N' + k ≤ N + k' → SgO 0 c' us' N N' o → (∀ i, i < N → c' i = c i) → (∀ w, us w → us' w) → K S') (e : ∀ x, gOpt b (gSum tk tv od 8) k k p = .inl x → ∀ S', CGo G tk ts tv tc od q S S' → CBd S' tc q (ts x) S' → K S') : if b = true then f_X6_sum G 10 75 0 (fun S2 => K S2) S else K S := by
  cases b with
  | false =>
    rw [if_neg (by simp)]
    exact y k p none (by unfold gOpt; rw [if_neg (by simp)]) S N c us ⟨FrC.refl q S, hE, rfl⟩ rfl rfl h (by omega) rfl (fun _ _ => rfl) (fun _ h => h)
  | true =>
    rw [if_pos rfl]
    refine c_sum hE 8 10 0 rfl (by omega) _ k p N c us S hk hp hN h ?_ ?_
    · intro k' p' f hg S' N' c' us' hh hS' hN' hseg hh' hc hu
      refine y k' p' (some f) (by unfold gOpt; rw [if_pos rfl, hg]) S' N' c' us' ⟨hS'.1.toC, hE.re hS'.1, hS'.1.2.1 81 (by omega) (by omega) (by omega) (by omega)⟩ (hS'.1.2.1 82 (by omega) (by omega) (by omega) (by omega)) (hS'.1.2.1 84 (by omega) (by omega) (by omega) (by omega)) hS'.re hN' ⟨hh, by omega, hseg⟩ hc hu
    · intro x hx S' hB
      exact e x (by unfold gOpt; rw [if_pos rfl, hx]) S' ⟨hB.1.toC, hE.re hB.1, hB.1.2.1 81 (by omega) (by omega) (by omega) (by omega)⟩ hB.re
end
