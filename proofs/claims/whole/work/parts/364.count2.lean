-- needs: 363
def aSm (a : Rw) : Nat → Nat
  | 0 => 0
  | n + 1 => aSm a n + sn4 a n
section
variable {G : Gm} {S S' : St} {p : Nat} {a m : Rw} {L : Nat → Lw} {I : Im} {un tn : Nat} {u : Un} {T : Nat → Nat} {fl : Nat → Int32} {Q : Int32 → St → Prop} {K : Gm → St → Prop}
theorem c_allSins (hH : PSh G S.2.2 p) (hP : ParC S p a) (hV : Va a) (z : Q (nI (aSm a (a 0))) S) : f_X5_allSins G p Q S := by
  have h6 := hV.1
  have st : ∀ (n j : Nat), n + j = a 0 → f_X5_allSins_4_n G p Q (n + 1) (nI (aSm a j)) (nI j) S := by
    intro n
    induction n with
    | zero =>
      intro j hj
      rw [f_X5_allSins_4_n, hP.1]
      have hj : j = a 0 := by omega
      exact ite_y (by simp (disch := omega) only [lit, nI_add, pk_mul, leI, ltI, eqI]; omega) (by rw [hj]; exact z)
    | succ n ih =>
      intro j hj
      rw [f_X5_allSins_4_n, hP.1]
      refine ite_n (by simp (disch := omega) only [lit, nI_add, pk_mul, leI, ltI, eqI]; omega) (c_sinsOf hH hP hV (by omega) (nm_p (nI_add _ _) ?_))
      rw [nI_1]; exact ih (j + 1) (by omega)
  exact ⟨a 0 + 1, st (a 0) 0 (by omega)⟩
theorem m_allSins (hR : Ref G S a L I un u T tn fl m) (hV : Va a) (z : Q (nI (aSm a (a 0))) S) : f_X11_allSins G 87 Q S := by
  have h6 := hV.1
  have e0 : S.1 90 ((0 : Int32).toNatClampNeg) = nI (a 0) := hR.1.2.1.1
  have st : ∀ (n j : Nat), n + j = a 0 → f_X11_allSins_4_n G 87 Q (n + 1) (nI (aSm a j)) (nI j) S := by
    intro n
    induction n with
    | zero =>
      intro j hj
      rw [f_X11_allSins_4_n]
      have hj : j = a 0 := by omega
      refine ex_y hR.1.1.row ⟨inrow (n := 0) hR.1.1 (by omega), ?_⟩
      rw [e0]
      exact ite_y (by simp (disch := omega) only [lit, nI_add, pk_mul, leI, ltI, eqI]; omega) (by rw [hj]; exact z)
    | succ n ih =>
      intro j hj
      rw [f_X11_allSins_4_n]
      refine ex_y hR.1.1.row ⟨inrow (n := 0) hR.1.1 (by omega), ?_⟩
      rw [e0]
      refine ite_n (by simp (disch := omega) only [lit, nI_add, pk_mul, leI, ltI, eqI]; omega) (m_sinsOf hR.1.1 hR.1.2.1 (by omega) (nm_p (nI_add _ _) ?_))
      rw [nI_1]; exact ih (j + 1) (by omega)
  exact ⟨a 0 + 1, st (a 0) 0 (by omega)⟩
theorem R_39 {v : Int32} (h : Inv G S) (k : ∀ S', Inv G S' → K G S') : f_X10_count G 0 v (fun r S1 => f_X11_count G 87 v (fun r2 S2 => r = r2 ∧ K G S2) S1) S := by
  obtain ⟨a, L, I, un, u, T, tn, fl, m, hV, hC, hR⟩ := h
  have fin := k _ (inv hV hC.th hR.th)
  have hr := hR.th
  have hS := hr.1.1
  have ir : ∀ {n : Nat}, n < 5485 → vp_in (nI n) (G.2.1 90) := fun h => inrow hS h
  have i86 : ∀ {n : Nat}, n < 7 → vp_in (nI n) (G.2.1 86) := fun h => by rw [hC.1.l86, in_iff (by omega)]; exact h
  have i88 : ∀ {n : Nat}, n < 7 → vp_in (nI n) (G.2.1 88) := fun h => by rw [hS.refusals_l, in_iff (by omega)]; exact h
  have rf : ∀ n, n < 7 → S.1 86 n = (uI S 87 0 0).1 88 n := fun n hn => by rw [hC.2.2.2.2.2.2.2.1.2.2.2.2 n hn]; exact (hr.2.2.2.2.1.2.2.2.2 n hn).symm
  by_cases h0 : v = 0
  · subst h0
    refine ite_y rfl (ex_y hC.1.r0_0 (nm_e (ite_y rfl (ex_y hS.row ⟨ir (n := 0) (by omega), ?_, fin⟩))))
    exact (show S.1 1 0 = nI (a 0) from hC.2.1.1).trans hr.1.2.1.1.symm
  by_cases h1 : v = 1
  · subst h1
    refine ite_n h0 (ite_y rfl (ex_y hC.1.r0_0 (c_allSins hC.1.p1 hC.2.1 hV.1 (nm_e (ite_n h0 (ite_y rfl (m_allSins hr hV.1 ⟨rfl, fin⟩)))))))
  by_cases h2 : v = 2
  · subst h2
    refine ite_n h0 (ite_n h1 (ite_y rfl (ex_y hC.1.r0_0 (nm_e (ite_n h0 (ite_n h1 (ite_y rfl (ex_y hS.row ⟨ir (n := 1) (by omega), ?_, fin⟩))))))))
    exact (show S.1 1 5 = nI (a 1) from hC.2.1.2.1).trans hr.1.2.1.2.1.symm
  by_cases h3 : v = 3
  · subst h3
    refine ite_n h0 (ite_n h1 (ite_n h2 (ite_y rfl (ex_y hC.1.r0_0 (nm_e (ite_n h0 (ite_n h1 (ite_n h2 (ite_y rfl (ex_y hS.row ⟨ir (n := 2) (by omega), ?_, fin⟩))))))))))
    exact (show S.1 1 8 = nI (a 2) from hC.2.1.2.2.1).trans hr.1.2.1.2.2.1.symm
  by_cases h4 : v = 4
  · subst h4
    refine ite_n h0 (ite_n h1 (ite_n h2 (ite_n h3 (ite_y rfl (ex_y hC.1.r0_3 (nm_e (ite_n h0 (ite_n h1 (ite_n h2 (ite_n h3 (ite_y rfl ⟨?_, fin⟩)))))))))))
    exact (show S.1 18 2 = nI un from hC.2.2.2.2.2.1.1).trans hr.2.2.1.1.symm
  by_cases h5 : v = 5
  · subst h5
    refine ite_n h0 (ite_n h1 (ite_n h2 (ite_n h3 (ite_n h4 (ite_y rfl (ex_y hC.1.r0_8 (nm_e (ite_n h0 (ite_n h1 (ite_n h2 (ite_n h3 (ite_n h4 (ite_y rfl ⟨?_, fin⟩)))))))))))))
    exact (show S.1 75 1 = nI tn from hC.2.2.2.2.2.2.1.1).trans hr.2.2.2.1.1.symm
  by_cases h6 : v = 6
  · subst h6
    refine ite_n h0 (ite_n h1 (ite_n h2 (ite_n h3 (ite_n h4 (ite_n h5 (ite_y rfl (ex_y hC.1.r0_9 ⟨i86 (n := 1) (by omega), nm_e (ite_n h0 (ite_n h1 (ite_n h2 (ite_n h3 (ite_n h4 (ite_n h5 (ite_y rfl (ex_y hS.refusals ⟨i88 (n := 1) (by omega), rf 1 (by omega), fin⟩))))))))⟩)))))))
  by_cases h7 : v = 7
  · subst h7
    refine ite_n h0 (ite_n h1 (ite_n h2 (ite_n h3 (ite_n h4 (ite_n h5 (ite_n h6 (ite_y rfl (ex_y hC.1.r0_9 ⟨i86 (n := 2) (by omega), nm_e (ite_n h0 (ite_n h1 (ite_n h2 (ite_n h3 (ite_n h4 (ite_n h5 (ite_n h6 (ite_y rfl (ex_y hS.refusals ⟨i88 (n := 2) (by omega), rf 2 (by omega), fin⟩)))))))))⟩))))))))
  by_cases h8 : v = 8
  · subst h8
    refine ite_n h0 (ite_n h1 (ite_n h2 (ite_n h3 (ite_n h4 (ite_n h5 (ite_n h6 (ite_n h7 (ite_y rfl (ex_y hC.1.r0_9 ⟨i86 (n := 3) (by omega), nm_e (ite_n h0 (ite_n h1 (ite_n h2 (ite_n h3 (ite_n h4 (ite_n h5 (ite_n h6 (ite_n h7 (ite_y rfl (ex_y hS.refusals ⟨i88 (n := 3) (by omega), rf 3 (by omega), fin⟩))))))))))⟩)))))))))
  by_cases h9 : v = 9
  · subst h9
    refine ite_n h0 (ite_n h1 (ite_n h2 (ite_n h3 (ite_n h4 (ite_n h5 (ite_n h6 (ite_n h7 (ite_n h8 (ite_y rfl (ex_y hC.1.r0_9 ⟨i86 (n := 5) (by omega), nm_e (ite_n h0 (ite_n h1 (ite_n h2 (ite_n h3 (ite_n h4 (ite_n h5 (ite_n h6 (ite_n h7 (ite_n h8 (ite_y rfl (ex_y hS.refusals ⟨i88 (n := 5) (by omega), rf 5 (by omega), fin⟩)))))))))))⟩))))))))))
  by_cases h10 : v = 10
  · subst h10
    refine ite_n h0 (ite_n h1 (ite_n h2 (ite_n h3 (ite_n h4 (ite_n h5 (ite_n h6 (ite_n h7 (ite_n h8 (ite_n h9 (ite_y rfl (ex_y hC.1.r0_9 ⟨i86 (n := 6) (by omega), nm_e (ite_n h0 (ite_n h1 (ite_n h2 (ite_n h3 (ite_n h4 (ite_n h5 (ite_n h6 (ite_n h7 (ite_n h8 (ite_n h9 (ite_y rfl (ex_y hS.refusals ⟨i88 (n := 6) (by omega), rf 6 (by omega), fin⟩))))))))))))⟩)))))))))))
  by_cases h11 : v = 11
  · subst h11
    refine ite_n h0 (ite_n h1 (ite_n h2 (ite_n h3 (ite_n h4 (ite_n h5 (ite_n h6 (ite_n h7 (ite_n h8 (ite_n h9 (ite_n h10 (ite_y rfl (ex_y hC.1.r0_0 (nm_e (ite_n h0 (ite_n h1 (ite_n h2 (ite_n h3 (ite_n h4 (ite_n h5 (ite_n h6 (ite_n h7 (ite_n h8 (ite_n h9 (ite_n h10 (ite_y rfl (ex_y hS.row ⟨ir (n := 3) (by omega), ?_, fin⟩))))))))))))))))))))))))))
    exact (show S.1 1 10 = nI (a 3) - 1 from hC.2.1.2.2.2.1).trans hr.1.2.1.2.2.2.1.symm
  refine ite_n h0 (ite_n h1 (ite_n h2 (ite_n h3 (ite_n h4 (ite_n h5 (ite_n h6 (ite_n h7 (ite_n h8 (ite_n h9 (ite_n h10 (ite_n h11 ?_)))))))))))
  have mm : ∀ {r : Int32}, f_X11_in G v.toInt64 12 15 (fun r23 S22 => (if r23 = 0 then (r = -1 ∧ K G S22) else (∃ a25, S22.2.2 87 4 = some a25 ∧ (vp_in ((4 + v) - 12) (G.2.1 a25) ∧ r = (S22.1 a25 ((4 + v) - 12).toNatClampNeg) ∧ K G S22)))) (uI S 87 0 0) → f_X11_count G 87 v (fun r2 S2 => r = r2 ∧ K G S2) S := by
    intro r z
    exact nm_e (ite_n h0 (ite_n h1 (ite_n h2 (ite_n h3 (ite_n h4 (ite_n h5 (ite_n h6 (ite_n h7 (ite_n h8 (ite_n h9 (ite_n h10 (ite_n h11 z))))))))))))
  have t12 : (12 : Int32).toInt = 12 := rfl
  have t16 : (16 : Int32).toInt = 16 := rfl
  have u12 : (12 : Int64).toInt = 12 := rfl
  have u15 : (15 : Int64).toInt = 15 := rfl
  by_cases hlo : v < 12
  · refine ite_y hlo (mm (m_in (fun c1 _ => ?_) (fun _ => ite_y rfl ⟨rfl, fin⟩)))
    exfalso; rw [i32_64] at c1; rw [i32_lt] at hlo; omega
  refine ite_n hlo ?_
  by_cases hhi : 16 ≤ v
  · refine ite_y hhi (mm (m_in (fun _ c2 => ?_) (fun _ => ite_y rfl ⟨rfl, fin⟩)))
    exfalso; rw [i32_64] at c2; rw [i32_le] at hhi; omega
  refine ite_n hhi ?_
  rw [i32_lt] at hlo
  rw [i32_le] at hhi
  obtain ⟨x, hx, rfl⟩ : ∃ x, x < 4 ∧ v = nI (12 + x) := ⟨(v.toInt - 12).toNat, by omega, i32n (by omega) (by omega)⟩
  refine ex_y hC.1.r0_0 ?_
  rw [show (12 : Int32) = nI 12 from rfl, sbI (by omega), show 12 + x - 12 = x from by omega]
  refine c_termOf hC.1.p1 hC.2.1 hx (mm (m_in_y (l := 12) (h := 15) (by omega) rfl rfl (by omega) (by omega) (ite_n (by decide) (ex_y hS.row ?_))))
  rw [show (4 : Int32) = nI 4 from rfl, show (12 : Int32) = nI 12 from rfl, nI_add, sbI (by omega), clI (by omega), show 4 + (12 + x) - 12 = 4 + x from by omega]
  exact ⟨ir (by omega), (hr.1.2.1.2.2.2.2.1 x hx).symm, fin⟩
end
