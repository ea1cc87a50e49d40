-- needs: 200 201 202
/-! The parish of the class: what its methods answer and leave. -/
def PSh (G : Gm) (R : Nat → Nat → Option Nat) (p : Nat) : Prop := R p 1 = some (p + 1) ∧ R p 2 = some (p + 2) ∧ R p 3 = some (p + 3) ∧ R p 4 = some (p + 4) ∧ R p 6 = some (p + 5) ∧ R p 7 = some (p + 6) ∧ R p 9 = some (p + 7) ∧ G.2.1 (p + 1) = 24 ∧ G.2.1 (p + 2) = 6 ∧ G.2.1 (p + 3) = 6 ∧ G.2.1 (p + 4) = 4 ∧ G.2.1 (p + 5) = 8 ∧ G.2.1 (p + 6) = 8 ∧ G.2.1 (p + 7) = 6
/-- the row: 0 people, 1 seen, 2 laws, 3 the law in force and one, 4.. terms, 8.. sins, 32.. glasses, 38.. wanted, 44.. seen by, 52.. seen as -/
def Va (a : Nat → Nat) : Prop := a 0 ≤ 6 ∧ a 1 ≤ 8 ∧ a 2 ≤ 6 ∧ a 3 ≤ a 2 ∧ a 4 ≤ 999 ∧ a 5 ≤ 10 ∧ a 6 ≤ 9 ∧ a 7 ≤ 255 ∧ (∀ i, i < 24 → a (8 + i) ≤ 8) ∧ (∀ i, i < 6 → vG (a (32 + i))) ∧ (∀ i, i < 6 → a (38 + i) ≤ 3) ∧ (∀ i, i < 8 → a (44 + i) < 6) ∧ (∀ i, i < 8 → a (52 + i) ≤ 255) ∧ (∀ i, i < a 1 → a (44 + i) < a 0)
def ParC (S : St) (p : Nat) (a : Nat → Nat) : Prop := S.1 p 0 = nI (a 0) ∧ S.1 p 5 = nI (a 1) ∧ S.1 p 8 = nI (a 2) ∧ S.1 p 10 = nI (a 3) - 1 ∧ (∀ i, i < 4 → S.1 (p + 4) i = nI (a (4 + i))) ∧ (∀ i, i < 24 → S.1 (p + 1) i = nI (a (8 + i))) ∧ (∀ i, i < 6 → S.1 (p + 2) i = nI (a (32 + i))) ∧ (∀ i, i < 6 → S.1 (p + 3) i = nI (a (38 + i))) ∧ (∀ i, i < 8 → S.1 (p + 5) i = nI (a (44 + i))) ∧ (∀ i, i < 8 → S.1 (p + 6) i = nI (a (52 + i)))
def up (a : Nat → Nat) (k v : Nat) : Nat → Nat := fun i => if i = k then v else a i
theorem up_s (a : Nat → Nat) (k v : Nat) : up a k v k = v := if_pos rfl
theorem up_n (a : Nat → Nat) {k v i : Nat} (h : i ≠ k) : up a k v i = a i := if_neg h
section
variable {G : Gm} {S : St} {p : Nat} {a : Nat → Nat} {Q : Int32 → St → Prop} {K : St → Prop}
theorem Va.sc (h : Va a) : a 7 < 256 := by have := h.2.2.2.2.2.2.2.1; omega
theorem Va.sin (h : Va a) {i : Nat} (hi : i < 24) : a (8 + i) ≤ 8 := h.2.2.2.2.2.2.2.2.1 i hi
theorem Va.gl (h : Va a) {i : Nat} (hi : i < 6) : vG (a (32 + i)) := h.2.2.2.2.2.2.2.2.2.1 i hi
theorem Va.wa (h : Va a) {i : Nat} (hi : i < 6) : a (38 + i) ≤ 3 := h.2.2.2.2.2.2.2.2.2.2.1 i hi
theorem Va.by (h : Va a) {i : Nat} (hi : i < 8) : a (44 + i) < 6 := h.2.2.2.2.2.2.2.2.2.2.2.1 i hi
theorem Va.as (h : Va a) {i : Nat} (hi : i < 8) : a (52 + i) ≤ 255 := h.2.2.2.2.2.2.2.2.2.2.2.2.1 i hi
theorem Va.bp (h : Va a) {i : Nat} (hi : i < a 1) : a (44 + i) < a 0 := h.2.2.2.2.2.2.2.2.2.2.2.2.2 i hi
theorem c_has_y {j : Nat} (hP : ParC S p a) (hV : Va a) (hj : j < a 0) (h : Q 1 S) : f_X5_has G p (nI j) Q S := by
  have h6 := hV.1
  unfold f_X5_has
  rw [hP.1]
  exact ite_n (by simp (disch := omega) only [lit, nI_add, pk_mul, leI, ltI, eqI]; omega) (ite_n (by simp (disch := omega) only [lit, nI_add, pk_mul, leI, ltI, eqI]; omega) (ite_n (by simp (disch := omega) only [lit, nI_add, pk_mul, leI, ltI, eqI]; omega) h))
theorem c_has_n {v : Int32} (hP : ParC S p a) (hV : Va a) (hv : v < 0 ∨ nI (a 0) ≤ v) (h : Q 0 S) : f_X5_has G p v Q S := by
  unfold f_X5_has
  rw [hP.1]
  refine ite_c (fun _ => h) (fun h0 => ?_)
  rcases hv with hv | hv
  · exact absurd hv h0
  · exact ite_y hv h
theorem c_kind_y {k : Nat} (hk : k < 4) (h : Q 1 S) : f_X10_isKind G (nI k) Q S := by
  unfold f_X10_isKind
  exact ite_n (by simp (disch := omega) only [lit, nI_add, pk_mul, leI, ltI, eqI]; omega) (ite_n (by simp (disch := omega) only [lit, nI_add, pk_mul, leI, ltI, eqI]; omega) h)
theorem c_kind_n {v : Int32} (hv : v < 0 ∨ nI 4 ≤ v) (h : Q 0 S) : f_X10_isKind G v Q S := by
  unfold f_X10_isKind
  refine ite_c (fun _ => h) (fun h0 => ?_)
  rcases hv with hv | hv
  · exact absurd hv h0
  · exact ite_y hv h
theorem c_termOf {k : Nat} (hH : PSh G S.2.2 p) (hP : ParC S p a) (hk : k < 4) (h : Q (nI (a (4 + k))) S) : f_X5_termOf G p (nI k) Q S := by
  unfold f_X5_termOf
  refine ite_n (by simp (disch := omega) only [lit, nI_add, pk_mul, leI, ltI, eqI]; omega) (ite_n (by simp (disch := omega) only [lit, nI_add, pk_mul, leI, ltI, eqI]; omega) (ex_y hH.2.2.2.1 ⟨?_, ?_⟩))
  · rw [in_iff (by omega), hH.2.2.2.2.2.2.2.2.2.2.1]; exact hk
  · rw [clI (by omega), hP.2.2.2.2.1 k hk]; exact h
theorem c_glassOf {j : Nat} (hH : PSh G S.2.2 p) (hP : ParC S p a) (hV : Va a) (hj : j < a 0) (h : Q (nI (a (32 + j))) S) : f_X5_glassOf G p (nI j) Q S := by
  have h6 := hV.1
  refine c_has_y hP hV hj (ite_n (by decide) (ex_y hH.2.1 ⟨?_, ?_⟩))
  · rw [in_iff (by omega), hH.2.2.2.2.2.2.2.2.1]; omega
  · rw [clI (by omega), hP.2.2.2.2.2.2.1 j (by omega)]; exact h
theorem c_glassOf_n {v : Int32} (hP : ParC S p a) (hV : Va a) (hv : v < 0 ∨ nI (a 0) ≤ v) (h : Q 0 S) : f_X5_glassOf G p v Q S :=
  c_has_n hP hV hv (ite_y rfl h)
theorem c_sinOf {j k : Nat} (hH : PSh G S.2.2 p) (hP : ParC S p a) (hV : Va a) (hj : j < a 0) (hk : k < 4) (h : Q (nI (a (8 + (4 * j + k)))) S) : f_X5_sinOf G p (nI j) (nI k) Q S := by
  have h6 := hV.1
  refine c_has_y hP hV hj (ite_n (by decide) (c_kind_y hk (ite_n (by decide) (ex_y hH.1 ?_))))
  simp (disch := omega) only [lit, nI_add, pk_mul, clI, in_iff]
  rw [hH.2.2.2.2.2.2.2.1, show j * 4 + k = 4 * j + k from by omega, hP.2.2.2.2.2.1 _ (by omega)]
  exact ⟨by omega, h⟩
theorem mxn (v : Nat) : mx 0 (mn 8 (nI v)) = nI (min 8 v) ∨ ¬ v < 2147483648 := by
  by_cases hv : v < 2147483648
  · left
    unfold mx mn
    by_cases h : v < 8
    · rw [if_pos (show nI v < 8 from by rw [lit, ltI hv (by omega)]; exact h), Nat.min_eq_right (by omega)]
      by_cases h0 : v = 0
      · subst h0; decide
      · rw [if_pos (show (0 : Int32) < nI v from by rw [lit, ltI (by omega) hv]; omega)]
    · rw [if_neg (show ¬ nI v < 8 from by rw [lit, ltI hv (by omega)]; exact h), Nat.min_eq_left (by omega)]
      decide
  · right; exact hv
theorem mxn8 {v : Nat} (h : v ≤ 8) : mx 0 (mn 8 (nI v)) = nI v := by
  rcases mxn v with e | e
  · rw [e, Nat.min_eq_right h]
  · omega
/-- setSin of one there, of a kind -/
theorem c_setSin {j k : Nat} {x : Int32} (hH : PSh G S.2.2 p) (hP : ParC S p a) (hV : Va a) (hj : j < a 0) (hk : k < 4) (h : K (uI S (p + 1) (4 * j + k) (mx 0 (mn 8 x)))) : f_X5_setSin G p (nI j) (nI k) x K S := by
  have h6 := hV.1
  refine c_has_y hP hV hj (ite_n (by decide) (c_kind_y hk (ite_n (by decide) (ex_y hH.1 ?_))))
  show vp_in _ _ ∧ _
  simp (disch := omega) only [lit, nI_add, pk_mul, clI, in_iff]
  rw [hH.2.2.2.2.2.2.2.1, show j * 4 + k = 4 * j + k from by omega]
  exact ⟨by omega, nm_e h⟩
theorem c_setGlass {j : Nat} {x : Int32} (hH : PSh G S.2.2 p) (hP : ParC S p a) (hV : Va a) (hj : j < a 0) (h : K (uI S (p + 2) j x)) : f_X5_setGlass G p (nI j) x K S := by
  have h6 := hV.1
  refine c_has_y hP hV hj (ite_n (by decide) (ex_y hH.2.1 ?_))
  rw [in_iff (by omega), clI (by omega), hH.2.2.2.2.2.2.2.2.1]
  exact ⟨by omega, nm_e h⟩
theorem c_setWanted {j : Nat} {x : Int32} (hH : PSh G S.2.2 p) (hP : ParC S p a) (hV : Va a) (hj : j < a 0) (h : K (uI S (p + 3) j x)) : f_X5_setWanted G p (nI j) x K S := by
  have h6 := hV.1
  refine c_has_y hP hV hj (ite_n (by decide) (ex_y hH.2.2.1 ?_))
  rw [in_iff (by omega), clI (by omega), hH.2.2.2.2.2.2.2.2.2.1]
  exact ⟨by omega, nm_e h⟩
theorem c_wantedOf {j : Nat} (hH : PSh G S.2.2 p) (hP : ParC S p a) (hV : Va a) (hj : j < a 0) (h : Q (nI (a (38 + j))) S) : f_X5_wantedOf G p (nI j) Q S := by
  have h6 := hV.1
  refine c_has_y hP hV hj (ite_n (by decide) (ex_y hH.2.2.1 ?_))
  rw [in_iff (by omega), clI (by omega), hH.2.2.2.2.2.2.2.2.2.1, hP.2.2.2.2.2.2.2.1 j (by omega)]
  exact ⟨by omega, h⟩
theorem c_setTerm {k : Nat} {x : Int32} (hH : PSh G S.2.2 p) (hk : k < 4) (h : K (uI S (p + 4) k x)) : f_X5_setTerm G p (nI k) x K S := by
  unfold f_X5_setTerm
  refine ite_n (by simp (disch := omega) only [lit, nI_add, pk_mul, leI, ltI, eqI]; omega) (ite_n (by simp (disch := omega) only [lit, nI_add, pk_mul, leI, ltI, eqI]; omega) (ex_y hH.2.2.2.1 ?_))
  rw [in_iff (by omega), clI (by omega), hH.2.2.2.2.2.2.2.2.2.2.1]
  exact ⟨hk, nm_e h⟩
/-- what one sees -/
def sgt (a : Nat → Nat) (j : Nat) : Nat := thC (a (32 + j)) (a 7)
theorem sgt_lt (hV : Va a) {j : Nat} (hj : j < 6) : sgt a j < 256 := thC_lt (vG_ok (hV.gl hj)) hV.sc
theorem c_sightOf {j : Nat} (hH : PSh G S.2.2 p) (hP : ParC S p a) (hV : Va a) (hj : j < a 0) (h : Q (nI (sgt a j)) S) : f_X5_sightOf G p (nI j) Q S := by
  have h6 := hV.1
  refine c_glassOf hH hP hV hj ?_
  refine c_termOf (k := 3) hH hP (by omega) ?_
  exact c_through (vG_ok (hV.gl (by omega))) hV.sc h
theorem c_sightOf_n {v : Int32} (hH : PSh G S.2.2 p) (hP : ParC S p a) (hV : Va a) (hv : v < 0 ∨ nI (a 0) ≤ v) (h : Q (nI (a 7)) S) : f_X5_sightOf G p v Q S := by
  refine c_glassOf_n hP hV hv ?_
  refine c_termOf (k := 3) hH hP (by omega) ?_
  exact c_through (g := 0) (vG_ok vG_0) hV.sc h
/-- all sins of one -/
def sn4 (a : Nat → Nat) (j : Nat) : Nat := a (8 + (4 * j + 0)) + a (8 + (4 * j + 1)) + a (8 + (4 * j + 2)) + a (8 + (4 * j + 3))
theorem c_sinsOf {j : Nat} (hH : PSh G S.2.2 p) (hP : ParC S p a) (hV : Va a) (hj : j < a 0) (h : Q (nI (sn4 a j)) S) : f_X5_sinsOf G p (nI j) Q S := by
  have h6 := hV.1
  refine c_has_y hP hV hj (ite_n (by decide) ?_)
  have st : ∀ n v k, k < 4 → f_X5_sinsOf_14_n G p (nI j) Q n (nI (v + a (8 + (4 * j + k)))) (nI (k + 1)) S → f_X5_sinsOf_14_n G p (nI j) Q (n + 1) (nI v) (nI k) S := by
    intro n v k hk z
    show ite _ _ _
    refine ite_n (by simp (disch := omega) only [lit, nI_add, pk_mul, leI, ltI, eqI]; omega) (ex_y hH.1 ?_)
    simp (disch := omega) only [lit, nI_add, pk_mul, clI, in_iff]
    rw [hH.2.2.2.2.2.2.2.1, show j * 4 + k = 4 * j + k from by omega, hP.2.2.2.2.2.1 _ (by omega)]
    exact ⟨by omega, nm_p (nI_add _ _) z⟩
  refine ⟨5, st 4 0 0 (by omega) (st 3 _ 1 (by omega) (st 2 _ 2 (by omega) (st 1 _ 3 (by omega) ?_)))⟩
  refine ite_y (by simp (disch := omega) only [lit, nI_add, pk_mul, leI, ltI, eqI]; omega) ?_
  rw [Nat.zero_add]; exact h
theorem c_sinsOf_n {v : Int32} (hP : ParC S p a) (hV : Va a) (hv : v < 0 ∨ nI (a 0) ≤ v) (h : Q 0 S) : f_X5_sinsOf G p v Q S :=
  c_has_n hP hV hv (ite_y rfl h)
end
