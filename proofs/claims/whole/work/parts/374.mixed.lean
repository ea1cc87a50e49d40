-- needs: 373
/-! mixed. -/
def swA (a : Rw) (j k : Nat) : Rw := up (up a (32 + j) (a (32 + k))) (32 + k) (a (32 + j))
abbrev exP (a : Rw) (j k : Nat) : Prop := seeP (swA a j k) (a 7)
def inn2 (a : Rw) (v : Int32) (j : Nat) : Nat → Nat → Nat × Int32 → Nat × Int32
  | 0, _, p => p
  | n + 1, k, p => inn2 a v j n (k + 1) (if exP a j k then (p.1 + 1, if nI p.1 = v then nI (10 * j + k) else p.2) else p)
def out2 (a : Rw) (v : Int32) : Nat → Nat → Nat × Int32 → Nat × Int32
  | 0, _, p => p
  | n + 1, j, p => out2 a v n (j + 1) (inn2 a v j (a 0 - (j + 1)) (j + 1) p)
theorem inn2_k (a : Rw) {x j : Nat} : ∀ n k (p : Nat × Int32), x < p.1 → p.1 + n < 2147483648 → (inn2 a (nI x) j n k p).2 = p.2 ∧ p.1 ≤ (inn2 a (nI x) j n k p).1 := by
  intro n
  induction n with
  | zero => intro k p _ _; exact ⟨rfl, Nat.le_refl _⟩
  | succ n ih =>
    intro k p hp hb
    rw [inn2]
    split
    · rw [if_neg (by rw [eqI (by omega) (by omega)]; omega)]
      have w := ih (k + 1) (p.1 + 1, p.2) (by show x < p.1 + 1; omega) (by show p.1 + 1 + n < _; omega)
      exact ⟨w.1, by have := w.2; simp only at this; omega⟩
    · exact ih (k + 1) p hp (by omega)
theorem inn2_b (a : Rw) {v : Int32} {j : Nat} : ∀ n k (p : Nat × Int32), (inn2 a v j n k p).1 ≤ p.1 + n := by
  intro n
  induction n with
  | zero => intro k p; exact Nat.le_refl _
  | succ n ih =>
    intro k p
    rw [inn2]
    split
    · have w := ih (k + 1) (p.1 + 1, if nI p.1 = v then nI (10 * j + k) else p.2); simp only at w; omega
    · have w := ih (k + 1) p; omega
theorem out2_k (a : Rw) (h6 : a 0 ≤ 6) {x : Nat} : ∀ n j (p : Nat × Int32), x < p.1 → p.1 + 6 * n < 2147483000 → (out2 a (nI x) n j p).2 = p.2 := by
  intro n
  induction n with
  | zero => intro j p _ _; rfl
  | succ n ih =>
    intro j p hp hb
    rw [out2]
    have w := inn2_k a (x := x) (j := j) (a 0 - (j + 1)) (j + 1) p hp (by omega)
    have w2 := inn2_b a (v := nI x) (j := j) (a 0 - (j + 1)) (j + 1) p
    rw [ih (j + 1) _ (by omega) (by omega)]; exact w.1
section
variable {G : Gm} {S S' : St} {a m : Rw} {L : Nat → Lw} {I : Im} {un tn : Nat} {u : Un} {T : Nat → Nat} {fl : Nat → Int32} {Q : Int32 → St → Prop} {K : Gm → St → Prop}
theorem sw_1 {j k i : Nat} (h : i < 32 ∨ 38 ≤ i) (hj : j < 6) (hk : k < 6) : swA a j k i = a i := by
  unfold swA; rw [up_n _ (by omega), up_n _ (by omega)]
theorem c_explains {j k : Nat} (hH : PSh G S.2.2 1) (hP : ParC S 1 a) (hV : Va a) (hj : j < a 0) (hk : k < a 0) (ne : j ≠ k) (h1 : exP a j k → Q 1 S) (h0 : ¬ exP a j k → Q 0 S) : f_X4_explains G 1 (nI j) (nI k) Q S := by
  have h8 := hV.2.1
  have h6 := hV.1
  have r5 : S.1 1 5 = nI (a 1) := hP.2.1
  have s1 : ∀ i, i < 32 ∨ 38 ≤ i → swA a j k i = a i := fun i hi => sw_1 hi (by omega) (by omega)
  have st : ∀ (n i : Nat), n + i = a 1 → (∀ q, q < i → thC (swA a j k (32 + a (44 + q))) (a 7) = a (52 + q)) → f_X4_explains_2_n G 1 (nI j) (nI k) Q (n + 1) (nI i) S := by
    intro n
    induction n with
    | zero =>
      intro i hi hq
      rw [f_X4_explains_2_n, r5]
      refine ite_y (by simp (disch := omega) only [lit, nI_add, pk_mul, leI, ltI, eqI]; omega) (h1 (fun q hq' => ?_))
      rw [s1 1 (by omega)] at hq'
      rw [s1 (44 + q) (by omega), s1 (52 + q) (by omega)]; exact hq q (by omega)
    | succ n ih =>
      intro i hi hq
      rw [f_X4_explains_2_n, r5]
      have bp := hV.bp (i := i) (by omega)
      have as8 := hV.as (i := i) (by omega)
      refine ite_n (by simp (disch := omega) only [lit, nI_add, pk_mul, leI, ltI, eqI]; omega) (ite_n (by simp (disch := omega) only [lit, nI_add, pk_mul, leI, ltI, eqI]; omega) (ex_y hH.2.2.2.2.1 ⟨by rw [hH.2.2.2.2.2.2.2.2.2.2.2.1, in_iff (by omega)]; omega, ?_⟩))
      rw [clI (by omega), hP.2.2.2.2.2.2.2.2.1 i (by omega)]
      refine nm_e ?_
      have go : ∀ (w : Nat), w < a 0 → swA a j k (32 + a (44 + i)) = a (32 + w) → f_X4_explains_46 G (f_X4_explains_2_n G 1 (nI j) (nI k) Q (n + 1)) 1 (nI j) (nI k) (nI i) (nI w) Q S := by
        intro w hw e
        have tl := sgt_lt hV (j := w) (by omega)
        refine c_sightOf hH hP hV hw (ex_y hH.2.2.2.2.2.1 ⟨by rw [hH.2.2.2.2.2.2.2.2.2.2.2.2.1, in_iff (by omega)]; omega, ?_⟩)
        rw [clI (by omega), hP.2.2.2.2.2.2.2.2.2 i (by omega), nI_1]
        refine ite_c (fun h => ?_) (fun h => ?_)
        · rw [eqI (by omega) (by omega)] at h
          refine ih (i + 1) (by omega) (fun q hq' => ?_)
          by_cases e' : q = i
          · rw [e', e]; exact h
          · exact hq q (by omega)
        · rw [eqI (by omega) (by omega)] at h
          refine h0 (fun hh => h ?_)
          have := hh i (by rw [s1 1 (by omega)]; omega)
          rw [s1 (44 + i) (by omega), s1 (52 + i) (by omega), e] at this
          exact this
      refine ite_c (fun h => ?_) (fun h => ite_c (fun h' => ?_) (fun h' => ?_))
      · rw [eqI (by omega) (by omega)] at h
        exact go k hk (by rw [h]; unfold swA; rw [up_n _ (by omega), up_s])
      · rw [eqI (by omega) (by omega)] at h h'
        exact go j hj (by rw [h']; unfold swA; rw [up_s])
      · rw [eqI (by omega) (by omega)] at h h'
        exact go _ bp (by unfold swA; rw [up_n _ (by omega), up_n _ (by omega)])
  exact ⟨a 1 + 1, st (a 1) 0 (by omega) (fun q hq => absurd hq (by omega))⟩
theorem C_mixed {v : Int32} (hH : PSh G S.2.2 1) (hP : ParC S 1 a) (hV : Va a) (h : if v = -1 then Q (nI (out2 a v (a 0) 0 (0, -1)).1) S else Q (out2 a v (a 0) 0 (0, -1)).2 S) : f_X4_mixedAt G 54 1 v Q S := by
  have h6 := hV.1
  have so : ∀ (n j c : Nat), n + j = a 0 → c ≤ 6 * j → out2 a v n j (c, -1) = out2 a v (a 0) 0 (0, -1) → f_X4_mixedAt_5_n G 1 v Q (n + 1) (nI c) (nI j) S := by
    intro n
    induction n with
    | zero =>
      intro j c hj hc he
      rw [f_X4_mixedAt_5_n, hP.1]
      rw [← he] at h
      exact ite_y (by simp (disch := omega) only [lit, nI_add, pk_mul, leI, ltI, eqI]; omega) h
    | succ n ih =>
      intro j c hj hc he
      rw [f_X4_mixedAt_5_n, hP.1]
      refine ite_n (by simp (disch := omega) only [lit, nI_add, pk_mul, leI, ltI, eqI]; omega) (nm_p (nI_1 j) ?_)
      rw [out2] at he
      have si : ∀ (q k c' : Nat), q + k = a 0 → j < k → c' ≤ c + (k - (j + 1)) → out2 a v n (j + 1) (inn2 a v j q k (c', -1)) = out2 a v (a 0) 0 (0, -1) → f_X4_mixedAt_20_n G (f_X4_mixedAt_5_n G 1 v Q (n + 1)) 1 v (nI j) Q (q + 1) (nI c') (nI k) S := by
        intro q
        induction q with
        | zero =>
          intro k c' hk hjk hc' he'
          rw [f_X4_mixedAt_20_n, hP.1, nI_1]
          exact ite_y (by simp (disch := omega) only [lit, nI_add, pk_mul, leI, ltI, eqI]; omega) (ih (j + 1) c' (by omega) (by omega) he')
        | succ q ihq =>
          intro k c' hk hjk hc' he'
          rw [f_X4_mixedAt_20_n, hP.1, nI_1, nI_1, nI_1]
          rw [inn2] at he'
          refine ite_n (by simp (disch := omega) only [lit, nI_add, pk_mul, leI, ltI, eqI]; omega) (c_explains hH hP hV (by omega) (by omega) (by omega) (fun p => ite_n (by decide) ?_) (fun p => ite_y rfl ?_))
          · rw [if_pos p] at he'
            refine ite_c (fun e => ?_) (fun e => ?_)
            · rw [if_pos (show nI (c', (-1 : Int32)).1 = v from e)] at he'
              have he' : out2 a v n (j + 1) (inn2 a v j q (k + 1) (c' + 1, nI (10 * j + k))) = out2 a v (a 0) 0 (0, -1) := he'
              have v1 : ¬ v = -1 := fun ev => by rw [ev] at e; exact nI_m1 (by omega) e
              rw [if_neg v1, ← he', ← e] at h
              have w1 := inn2_k a (x := c') (j := j) q (k + 1) (c' + 1, nI (10 * j + k)) (by show c' < c' + 1; omega) (by show c' + 1 + q < _; omega)
              have w2 := inn2_b a (v := nI c') (j := j) q (k + 1) (c' + 1, nI (10 * j + k))
              have w3 := w1.2
              simp only at w2 w3
              rw [out2_k a h6 (x := c') n (j + 1) _ (by omega) (by omega), w1.1] at h
              rw [show (10 : Int32) = nI 10 from rfl, pk_mul, nI_add, Nat.mul_comm j 10]; exact h
            · rw [if_neg (show ¬ nI (c', (-1 : Int32)).1 = v from e)] at he'
              exact ihq (k + 1) (c' + 1) (by omega) (by omega) (by omega) he'
          · rw [if_neg p] at he'
            exact ihq (k + 1) c' (by omega) (by omega) (by omega) he'
      exact ⟨a 0 - (j + 1) + 1, si (a 0 - (j + 1)) (j + 1) c (by omega) (by omega) (by omega) he⟩
  exact ⟨a 0 + 1, so (a 0) 0 0 (by omega) (by omega) rfl⟩
end
