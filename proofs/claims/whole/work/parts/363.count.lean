-- needs: 362
/-! drawn, count. -/
section
variable {G : Gm} {S S' : St} {a m : Rw} {L : Nat → Lw} {I : Im} {un tn : Nat} {u : Un} {T : Nat → Nat} {fl : Nat → Int32} {Q : Int32 → St → Prop} {K : Gm → St → Prop}
theorem R_36 {v w : Int32} (h : Inv G S) (k : ∀ S', Inv G S' → K G S') : f_X10_drawn G 0 v w (fun r S1 => f_X11_drawn G 87 v w (fun r2 S2 => r = r2 ∧ K G S2) S1) S := by
  obtain ⟨a, L, I, un, u, T, tn, fl, m, hV, hC, hR⟩ := h
  have fin := k _ (inv hV hC.th hR.th)
  obtain ⟨m0, m8, mg⟩ := hV.2.2.2.2.2.2
  have hH := hC.1.p9
  obtain ⟨c0, c1, c2⟩ := hC.2.2.2.1
  have hM := hR.th.2.2.2.2.2.1
  have hS := hR.th.1.1
  have e59 : ∀ j, j < m 0 → (uI S 87 0 0).1 87 59 = nI (m 0) ∧ (∀ i, i < 24 → (uI S 87 0 0).1 120 (4 + i) = nI (m (8 + i))) ∧ (∀ j, j < 6 → (uI S 87 0 0).1 120 (28 + 5 * j) = nI (gn (m (32 + j)))) := by
    intro j hj
    rcases hM with ⟨_, h0⟩ | h
    · omega
    · exact h
  unfold f_X10_drawn
  refine ex_y hC.1.r0_1 ?_
  unfold f_X5_has
  rw [c0]
  rcases ar_c (m 0) (by omega) v with ⟨j, hj, rfl⟩ | hv
  · refine ite_n (by simp (disch := omega) only [lit, nI_add, pk_mul, leI, ltI, eqI]; omega) (ite_n (by simp (disch := omega) only [lit, nI_add, pk_mul, leI, ltI, eqI]; omega) (ite_n (by simp (disch := omega) only [lit, nI_add, pk_mul, leI, ltI, eqI]; omega) (ite_n (by decide) ?_)))
    obtain ⟨g0, g1, g2⟩ := e59 j hj
    have sw : ∀ {r : Int32}, (f_X11_in G w.toInt64 0 4 (fun r6 S5 => (if r6 = 0 then (r = -1 ∧ K G S5) else (∃ a8, S5.2.2 87 58 = some a8 ∧ (if 4 ≤ w then f_X11_drawn_61 G (32 + (5 * nI j)) a8 (fun r2 S2 => r = r2 ∧ K G S2) S5 else f_X11_drawn_61 G ((8 + (4 * nI j)) + w) a8 (fun r2 S2 => r = r2 ∧ K G S2) S5)))) (uI S 87 0 0)) → f_X11_drawn G 87 (nI j) w (fun r2 S2 => r = r2 ∧ K G S2) S := by
      intro r z
      refine nm_e ?_
      rw [g0]
      refine m_in (fun _ _ => ite_n (by decide) z) (fun n => ?_)
      exfalso; apply n
      rw [i32_64, nI_toInt (by omega), l1 (by omega)]
      have : (0 : Int64).toInt = 0 := rfl
      omega
    have hasj : ∀ {Q' : Int32 → St → Prop}, Q' 1 S → f_X5_has G 9 (nI j) Q' S := by
      intro Q' q
      unfold f_X5_has
      rw [c0]
      exact ite_n (by simp (disch := omega) only [lit, nI_add, pk_mul, leI, ltI, eqI]; omega) (ite_n (by simp (disch := omega) only [lit, nI_add, pk_mul, leI, ltI, eqI]; omega) (ite_n (by simp (disch := omega) only [lit, nI_add, pk_mul, leI, ltI, eqI]; omega) q))
    rcases ar_c 5 (by omega) w with ⟨x, hx, rfl⟩ | hw
    · by_cases x4 : x < 4
      · refine c_kind_y x4 (ite_n (by decide) (ex_y hC.1.r0_1 (hasj (ite_n (by decide) (c_kind_y x4 (ite_n (by decide) (ex_y hH.1 ?_)))))))
        simp (disch := omega) only [lit, nI_add, pk_mul, clI, in_iff]
        refine ⟨by rw [hH.2.2.2.2.2.2.2.1]; omega, ?_⟩
        rw [show j * 4 + x = 4 * j + x from by omega, c1 _ (by omega)]
        refine sw (m_in_y (l := 0) (h := 4) (by omega) rfl rfl (by omega) (by omega) (ite_n (by decide) (ex_y hS.drawn (ite_n (by simp (disch := omega) only [lit, nI_add, pk_mul, leI, ltI, eqI]; omega) ?_))))
        unfold f_X11_drawn_61
        simp (disch := omega) only [show (8 : Int32) = nI 8 from rfl, show (4 : Int32) = nI 4 from rfl, nI_add, pk_mul, sbI, clI, in_iff]
        rw [hS.drawn_l, show 8 + 4 * j + x - 4 = 4 + (4 * j + x) from by omega, g1 _ (by omega)]
        exact ⟨by omega, rfl, fin⟩
      · have hx4 : x = 4 := by omega
        subst hx4
        refine c_kind_n (.inr (by decide)) (ite_y rfl (ite_y rfl (ex_y hC.1.r0_1 (hasj (ite_n (by decide) (ex_y hH.2.1 ?_))))))
        rw [in_iff (by omega), clI (by omega), hH.2.2.2.2.2.2.2.2.1, show S.1 (9 + 2) j = nI (m (32 + j)) from c2 j (by omega)]
        refine ⟨by omega, c_lensesIn (mg j (by omega)) (sw (m_in_y (l := 0) (h := 4) (by omega) rfl rfl (by omega) (by omega) (ite_n (by decide) (ex_y hS.drawn (ite_y (by decide) ?_)))))⟩
        unfold f_X11_drawn_61
        simp (disch := omega) only [show (32 : Int32) = nI 32 from rfl, show (5 : Int32) = nI 5 from rfl, show (4 : Int32) = nI 4 from rfl, nI_add, pk_mul, sbI, clI, in_iff]
        rw [hS.drawn_l, show 32 + 5 * j - 4 = 28 + 5 * j from by omega, g2 j (by omega)]
        exact ⟨by omega, rfl, fin⟩
    · have w4 : w < 0 ∨ nI 4 ≤ w := by
        rcases hw with hw | hw
        · exact .inl hw
        · right; rw [i32_le, nI_toInt (by omega)] at hw ⊢; omega
      refine c_kind_n w4 (ite_y rfl (ite_n (ne_of_rng (n := 5) (i := 4) (by omega) (by omega) hw) (sw (m_in_n (n := 5) (by omega) rfl rfl hw (ite_y rfl ⟨rfl, fin⟩)))))
  · have no : f_X11_drawn G 87 v w (fun r2 S2 => (-1 : Int32) = r2 ∧ K G S2) S := by
      refine nm_e ?_
      have e : ((uI S 87 0 0).1 87 59).toInt = m 0 ∨ ((uI S 87 0 0).1 87 59).toInt = -1 ∧ m 0 = 0 := by
        rcases hM with ⟨h1, h0⟩ | h
        · right; rw [h1]; exact ⟨rfl, h0⟩
        · left; rw [h.1, nI_toInt (by omega)]
      refine m_in (fun h1 h2 => ?_) (fun _ => ite_y rfl ⟨rfl, fin⟩)
      exfalso
      rw [i32_64] at h1 h2
      have z0 : (0 : Int64).toInt = 0 := rfl
      have e2 : (((uI S 87 0 0).1 87 59).toInt64 - 1).toInt = ((uI S 87 0 0).1 87 59).toInt - 1 := by
        rw [Int64.toInt_sub, i32_64]
        exact Int.bmod_eq_of_le (by have : (1 : Int64).toInt = 1 := rfl; omega) (by have : (1 : Int64).toInt = 1 := rfl; omega)
      rw [e2] at h2
      rcases hv with hv | hv
      · rw [i32_lt] at hv
        have : (0 : Int32).toInt = 0 := rfl
        omega
      · rw [i32_le, nI_toInt (by omega)] at hv; omega
    refine c_rng_n (n := m 0) hv (ite_y rfl no)
end
