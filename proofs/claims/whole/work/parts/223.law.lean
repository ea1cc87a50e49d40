-- needs: 200 201 202 203 220 221
/-! Laws: clauses of a head, a test, a sum. -/
abbrev Lw : Type := Nat × (Nat → Nat × Fn × Fn)
def U9 (x : Nat) : Prop := x < 9
/-- what the last clause of a head that holds, of the first n, tells -/
def tel (lw : Lw) (v : Nat) (e : Nat → Int64) : Nat → Option Int64
  | 0 => none
  | q + 1 => if (lw.2 q).1 = v ∧ (lw.2 q).2.1 e = some 1 ∧ (v = 3 ∨ (lw.2 q).2.2 e ≠ none) then (if v = 3 then some 1 else (lw.2 q).2.2 e) else tel lw v e q
/-- a clause's places in a code -/
def ClS (c : Cd) (m0 m2 m3 : Nat) (cl : Nat × Fn × Fn) : Prop := cl.1 ≤ 3 ∧ m0 ≤ m2 ∧ m2 ≤ m3 ∧ (cl.1 = 3 ∨ ∃ h, h ≤ 32 ∧ Seg c U9 0 m0 m2 h cl.2.2) ∧ ((m2 = m3 ∧ ∀ e, cl.2.1 e = some 1) ∨ (m2 < m3 ∧ ∃ h, h ≤ 32 ∧ Seg c U9 1 m2 m3 h cl.2.1))
/-- a text of the class that is this law -/
def TextC (G : Gm) (M : Nat → Nat → Int32) (R : Nat → Nat → Option Nat) (t : Nat) (lw : Lw) : Prop :=
  R t 0 = some (t + 1) ∧ R t 3 = some (t + 4) ∧ R t 4 = some (t + 5) ∧ lw.1 ≤ 12 ∧ M t 5 = nI lw.1 ∧ G.2.1 (t + 1) = lw.1 ∧ G.2.1 (t + 4) = 4 * lw.1 ∧ G.2.1 (t + 5) ≤ 800 ∧ G.1 t = 7 ∧ t + 5 < G.2.2 ∧
  ∃ c : Cd, (∀ k, 2 * k + 2 ≤ G.2.1 (t + 5) → M (t + 5) (2 * k) = nI (c k).1 ∧ M (t + 5) (2 * k + 1) = nI (agC (c k))) ∧
  ∀ q, q < lw.1 → M (t + 1) q = nI (lw.2 q).1 ∧ ∃ m0 m2 m3, M (t + 4) (4 * q) = nI (2 * m0) ∧ M (t + 4) (4 * q + 2) = nI (2 * m2) ∧ M (t + 4) (4 * q + 3) = nI (2 * m3) ∧ 2 * m3 ≤ G.2.1 (t + 5) ∧ ClS c m0 m2 m3 (lw.2 q)
def JSh (G : Gm) (R : Nat → Nat → Option Nat) (q : Nat) : Prop := R q 0 = some (q + 1) ∧ R q 1 = some (q + 2) ∧ R (q + 2) 0 = some (q + 3) ∧ G.2.1 (q + 1) = 9 ∧ G.2.1 (q + 3) = 32
def smE (e : Nat → Int64) : Prop := ∀ x, x < 9 → -1000000000 ≤ (e x).toInt ∧ (e x).toInt ≤ 1000000000
theorem t32 {v : Int64} (h1 : -1000000000 ≤ v.toInt) (h2 : v.toInt ≤ 1000000000) : v.toInt32.toInt = v.toInt := by
  rw [Int64.toInt_toInt32]
  exact Int.bmod_eq_of_le (by omega) (by omega)
theorem wv_min {o : Option Int64} (h : ∀ v, o = some v → -1000000000 ≤ v.toInt ∧ v.toInt ≤ 1000000000) : wv o = -2147483648 ↔ o = none := by
  cases o with
  | none => exact ⟨fun _ => rfl, fun _ => rfl⟩
  | some v =>
    obtain ⟨h1, h2⟩ := h v rfl
    constructor
    · intro hv
      have hv : v.toInt32 = -2147483648 := hv
      have := congrArg Int32.toInt hv
      rw [t32 h1 h2] at this
      have e : (-2147483648 : Int32).toInt = -2147483648 := rfl
      omega
    · intro h; cases h
theorem wv_1 {o : Option Int64} (h : ∀ v, o = some v → v = 0 ∨ v = 1) : wv o = 1 ↔ o = some 1 := by
  cases o with
  | none => exact ⟨fun h => absurd h (by decide), fun h => by cases h⟩
  | some v =>
    rcases h v rfl with rfl | rfl
    · exact ⟨fun h => absurd h (by decide), fun h => absurd (Option.some.inj h) (by decide)⟩
    · exact ⟨fun _ => rfl, fun _ => rfl⟩
section
variable {G : Gm} {S : St} {Q : Int32 → St → Prop} {q t : Nat} {lw : Lw} {e : Nat → Int64}
theorem c_verbOf {j : Nat} (hT : TextC G S.1 S.2.2 t lw) (hj : j < lw.1) (h : Q (nI (lw.2 j).1) S) : f_X8_verbOf G t (nI j) Q S := by
  obtain ⟨r0, r3, r4, n12, m5, l1, l4, l5, k7, tb, c, hc, hq⟩ := hT
  refine ite_n (by simp (disch := omega) only [lit, nI_add, pk_mul, leI, ltI, eqI]; omega) (ex_y r0 (ite_n (by rw [l1, leI (by omega) (by omega)]; omega) (ex_y r0 ?_)))
  rw [in_iff (by omega), clI (by omega), l1, (hq j hj).1]
  exact ⟨hj, h⟩
theorem c_markOf {j i : Nat} {Q : Int32 → St → Prop} (hT : TextC G S.1 S.2.2 t lw) (hj : j < lw.1) (hi : i < 4) (h : Q (S.1 (t + 4) (4 * j + i)) S) : f_X8_markOf G t (nI j) (nI i) Q S := by
  obtain ⟨r0, r3, r4, n12, m5, l1, l4, l5, k7, tb, c, hc, hq⟩ := hT
  refine nm_p (e' := nI (4 * j + i)) (by rw [lit, pk_mul, nI_add, Nat.mul_comm]) ?_
  refine ite_n (by simp (disch := omega) only [lit, nI_add, pk_mul, leI, ltI, eqI]; omega) (ex_y r3 (ite_n (by rw [l4, leI (by omega) (by omega)]; omega) (ex_y r3 ?_)))
  rw [in_iff (by omega), clI (by omega), l4]
  exact ⟨by omega, h⟩
theorem c_lastTold {v : Nat} (hJ : JSh G S.2.2 q) (hv : v ≤ 3) (hT : TextC G S.1 S.2.2 t lw) (he : ∀ x, x < 9 → (S.1 (q + 1) x).toInt64 = e x) (hs : smE e) (k : ∀ S', Lk (q + 2) 0 S S' → Q (wv (tel lw v e lw.1)) S') : f_X2_lastTold G q (some t) (nI v) Q S := by
  obtain ⟨jr0, jr1, jr2, jl1, jl3⟩ := hJ
  refine ⟨?_, fun h => by cases h⟩
  rintro a1 ha1
  obtain rfl : t = a1 := Option.some.inj ha1
  have main : ∀ (n : Nat) (S' : St), n ≤ lw.1 → Lk (q + 2) 0 S S' → (∀ S', Lk (q + 2) 0 S S' → Q (wv (tel lw v e n)) S') → f_X2_lastTold_14_n G q t (nI v) Q (n + 1) (nI n - 1) S' := by
    intro n
    induction n with
    | zero =>
      intro S' _ L z
      exact ite_y (by decide) (z S' L)
    | succ n ih =>
      intro S' hn L z
      have hT' : TextC G S'.1 S'.2.2 t lw := by rw [L.1, L.2.1]; exact hT
      obtain ⟨r0, r3, r4, n12, m5, l1, l4, l5, k7, tb, c, hc, hq⟩ := id hT'
      obtain ⟨hv1, m0, m2, m3, q0, q2, q3, hm3, hh, h02, h23, hsum, htest⟩ := hq n (by omega)
      rw [nI_pred]
      rw [f_X2_lastTold_14_n]
      refine ite_n (by simp (disch := omega) only [lit, nI_add, pk_mul, leI, ltI, eqI]; omega) ?_
      have nx : ∀ S', Lk (q + 2) 0 S S' → (¬ ((lw.2 n).1 = v ∧ (lw.2 n).2.1 e = some 1 ∧ (v = 3 ∨ (lw.2 n).2.2 e ≠ none))) → f_X2_lastTold_14_n G q t (nI v) Q (n + 1) (nI n + (-1)) S' := by
        intro S1 L1 hno
        rw [show nI n + (-1) = nI n - 1 from by rw [Int32.sub_eq_add_neg]]
        refine ih S1 (by omega) L1 (fun S2 L2 => ?_)
        have := z S2 L2
        unfold tel at this
        rw [if_neg hno] at this
        exact this
      have yes : ∀ S', Lk (q + 2) 0 S S' → ((lw.2 n).1 = v ∧ (lw.2 n).2.1 e = some 1 ∧ (v = 3 ∨ (lw.2 n).2.2 e ≠ none)) → Q (wv (if v = 3 then some 1 else (lw.2 n).2.2 e)) S' := by
        intro S1 L1 hy
        have := z S1 L1
        unfold tel at this
        rw [if_pos hy] at this
        exact this
      generalize f_X2_lastTold_14_n G q t (nI v) Q (n + 1) = W at nx ⊢
      refine c_verbOf hT' (by omega) ?_
      refine ite_c (fun d => ?_) (fun d => ?_)
      · have d : (lw.2 n).1 = v := by rw [eqI (by omega) (by omega)] at d; exact d
        refine c_markOf (i := 0) hT' (by omega) (by omega) ?_
        refine c_markOf (i := 2) hT' (by omega) (by omega) ?_
        refine c_markOf (i := 3) hT' (by omega) (by omega) ?_
        rw [show 4 * n + 0 = 4 * n from rfl, q0, q2, q3]
        have b1 : 2 * m3 ≤ 800 := by omega
        have cx : ∀ (S1 : St) (j : Nat), Lk (q + 2) 0 S S1 → 2 * j ≤ 2 * m3 → CxC G S1.1 S1.2.2 (q + 2) (q + 1) (t + 5) (2 * j) c e U9 := by
          intro S1 j L1 hj
          refine ⟨by rw [L1.2.1]; exact jr2, jl3, by omega, l5, ?_, by omega, ?_⟩
          · intro k hk
            have := hc k (by omega)
            rw [L.1] at this
            rw [L1.1]; exact this
          · intro x hx
            rw [L1.1, jl1]
            exact ⟨hx, he x hx⟩
        -- the sum
        have s84 : ∀ S1, Lk (q + 2) 0 S S1 → (lw.2 n).2.1 e = some 1 → f_X2_lastTold_84 G W q t (nI v) (nI n) (nI (2 * m0)) (nI (2 * m2)) Q S1 := by
          intro S1 L1 ht1
          unfold f_X2_lastTold_84
          refine ite_c (fun d3 => ?_) (fun d3 => ?_)
          · have d3 : v = 3 := by rw [lit, eqI (by omega) (by omega)] at d3; exact d3
            refine ite_n (by decide) ?_
            have := yes S1 L1 ⟨d, ht1, .inl d3⟩
            rw [if_pos d3] at this
            exact this
          · have d3 : ¬ v = 3 := by rw [lit, eqI (by omega) (by omega)] at d3; exact d3
            have hsum : ∃ h, h ≤ 32 ∧ Seg c U9 0 m0 m2 h (lw.2 n).2.2 := by
              rcases hsum with h | h
              · omega
              · exact h
            obtain ⟨h, h32, sg⟩ := hsum
            refine ex_y (by rw [L1.2.1]; exact jr1) (ex_y (by rw [L1.2.1]; exact jr0) ?_)
            refine c_worth (cx S1 m2 L1 (by omega)) sg h32 (by rw [L1.2.1]; rw [L.2.1] at r4; exact r4) (fun S2 L2 => ?_)
            have L12 : Lk (q + 2) 0 S S2 := L1.trans L2 (Nat.le_refl _)
            refine ite_c (fun dm => ?_) (fun dm => ?_)
            · rw [wv_min (sg.val.1 e · (fun x hx => hs x hx))] at dm
              have z1 := nx S2 L12 (fun hy => by
                rcases hy.2.2 with h3 | h3
                · exact d3 h3
                · exact h3 dm)
              exact z1
            · rw [wv_min (sg.val.1 e · (fun x hx => hs x hx))] at dm
              have := yes S2 L12 ⟨d, ht1, .inr dm⟩
              rw [if_neg d3] at this
              exact this
        refine ite_c (fun dl => ?_) (fun dl => ?_)
        · rw [leI (by omega) (by omega)] at dl
          rcases htest with ⟨_, h1⟩ | ⟨h1, _⟩
          · exact s84 S' L (h1 e)
          · omega
        · rw [leI (by omega) (by omega)] at dl
          rcases htest with ⟨h1, _⟩ | ⟨h1, h, h32, sg⟩
          · omega
          · refine ex_y (by rw [L.2.1]; exact jr1) (ex_y (by rw [L.2.1]; exact jr0) ?_)
            refine c_worth (cx S' m3 L (by omega)) sg h32 r4 (fun S2 L2 => ?_)
            have L12 : Lk (q + 2) 0 S S2 := L.trans L2 (Nat.le_refl _)
            refine ite_c (fun dm => ?_) (fun dm => ?_)
            · rw [wv_1 (sg.val.2.1 rfl e)] at dm
              exact s84 S2 L12 dm
            · rw [wv_1 (sg.val.2.1 rfl e)] at dm
              have z1 := nx S2 L12 (fun hy => dm hy.2.1)
              exact z1
      · have d : ¬ (lw.2 n).1 = v := by rw [eqI (by omega) (by omega)] at d; exact d
        have z1 := nx S' L (fun hy => d hy.1)
        exact z1
  obtain ⟨r0, r3, r4, n12, m5, _⟩ := hT
  rw [m5]
  exact nm_e ⟨lw.1 + 1, main lw.1 S (Nat.le_refl _) (Lk.refl _ _ S) k⟩
end
