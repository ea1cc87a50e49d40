-- needs: 374
section
variable {G : Gm} {S S' : St} {a m : Rw} {L : Nat → Lw} {I : Im} {un tn : Nat} {u : Un} {T : Nat → Nat} {fl : Nat → Int32} {Q : Int32 → St → Prop} {K : Gm → St → Prop}
theorem sw_sw {j k : Nat} (ne : j ≠ k) : swA (swA a j k) j k = a := by
  funext i
  unfold swA
  by_cases e1 : i = 32 + k
  · rw [e1, up_s, up_n _ (by omega), up_s]
  rw [up_n _ e1]
  by_cases e2 : i = 32 + j
  · rw [e2, up_s, up_s]
  rw [up_n _ e2, up_n _ e1, up_n _ e2]
theorem swA_v {j k : Nat} (hV : Va a) (hj : j < 6) (hk : k < 6) : Va (swA a j k) := (hV.ug hj (hV.gl hk)).ug hk (hV.gl hj)
theorem M_mixed {v : Int32} (hR : Ref G S a L I un u T tn fl m) (hV : Va a) (h : ∀ S', Ref G S' a L I un u T tn fl m → OffC S S' → if v = -1 then Q (nI (out2 a v (a 0) 0 (0, -1)).1) S' else Q (out2 a v (a 0) 0 (0, -1)).2 S') : f_X11_mixed_12 G 87 v Q 0 (-1) 0 S := by
  have h6 := hV.1
  have so : ∀ (n j c : Nat) (r : Int32) (S1 : St), n + j = a 0 → Ref G S1 a L I un u T tn fl m → OffC S S1 → out2 a v n j (c, r) = out2 a v (a 0) 0 (0, -1) → f_X11_mixed_12_n G 87 v Q (n + 1) (nI c) r (nI j) S1 := by
    intro n
    induction n with
    | zero =>
      intro j c r S1 hj hR1 o1 he
      rw [f_X11_mixed_12_n]
      have e0 : S1.1 90 ((0 : Int32).toNatClampNeg) = nI (a 0) := hR1.1.2.1.1
      refine ex_y hR1.1.1.row ⟨inrow (n := 0) hR1.1.1 (by omega), ?_⟩
      rw [e0]
      have hh := h S1 hR1 o1
      rw [← he] at hh
      exact ite_y (by simp (disch := omega) only [lit, nI_add, pk_mul, leI, ltI, eqI]; omega) hh
    | succ n ih =>
      intro j c r S1 hj hR1 o1 he
      rw [f_X11_mixed_12_n]
      have e0 : S1.1 90 ((0 : Int32).toNatClampNeg) = nI (a 0) := hR1.1.2.1.1
      refine ex_y hR1.1.1.row ⟨inrow (n := 0) hR1.1.1 (by omega), ?_⟩
      rw [e0]
      refine ite_n (by simp (disch := omega) only [lit, nI_add, pk_mul, leI, ltI, eqI]; omega) (nm_p (nI_1 j) ?_)
      rw [out2] at he
      have si : ∀ (q k c' : Nat) (r' : Int32) (S2 : St), q + k = a 0 → j < k → Ref G S2 a L I un u T tn fl m → OffC S S2 → out2 a v n (j + 1) (inn2 a v j q k (c', r')) = out2 a v (a 0) 0 (0, -1) → f_X11_mixed_29_n G (f_X11_mixed_12_n G 87 v Q (n + 1)) 87 v (nI j) Q (q + 1) (nI c') r' (nI k) S2 := by
        intro q
        induction q with
        | zero =>
          intro k c' r' S2 hk hjk hR2 o2 he'
          rw [f_X11_mixed_29_n]
          have e0 : S2.1 90 ((0 : Int32).toNatClampNeg) = nI (a 0) := hR2.1.2.1.1
          refine ex_y hR2.1.1.row ⟨inrow (n := 0) hR2.1.1 (by omega), ?_⟩
          rw [e0, nI_1]
          exact ite_y (by simp (disch := omega) only [lit, nI_add, pk_mul, leI, ltI, eqI]; omega) (ih (j + 1) c' r' S2 (by omega) hR2 o2 he')
        | succ q ihq =>
          intro k c' r' S2 hk hjk hR2 o2 he'
          rw [f_X11_mixed_29_n]
          have e0 : S2.1 90 ((0 : Int32).toNatClampNeg) = nI (a 0) := hR2.1.2.1.1
          refine ex_y hR2.1.1.row ⟨inrow (n := 0) hR2.1.1 (by omega), ?_⟩
          rw [e0]
          refine ite_n (by simp (disch := omega) only [lit, nI_add, pk_mul, leI, ltI, eqI]; omega) (m_exchange hR2 (by omega) (by omega) (by omega) (fun S3 hR3 f3 => ?_))
          have hR3 : Ref G S3 (swA a j k) L I un u T tn fl m := hR3
          have hV3 := swA_v (j := j) (k := k) hV (by omega) (by omega)
          have e7 : S3.1 90 ((7 : Int32).toNatClampNeg) = nI (a 7) := by
            rw [show S3.1 90 ((7 : Int32).toNatClampNeg) = nI (swA a j k (4 + 3)) from hR3.1.2.1.2.2.2.2.1 3 (by omega), sw_1 (by omega) (by omega) (by omega)]
          refine ex_y hR3.1.1.row ⟨inrow (n := 7) hR3.1.1 (by omega), ?_⟩
          rw [e7]
          have back : ∀ {K' : St → Prop}, (∀ S4, Ref G S4 a L I un u T tn fl m → OffC S S4 → K' S4) → f_X11_exchange G 87 (nI j) (nI k) K' S3 := by
            intro K' z
            refine m_exchange hR3 (by omega) (by omega) (by omega) (fun S4 hR4 f4 => z S4 ?_ ((o2.trans f3.offC).trans f4.offC))
            have hR4 : Ref G S4 (swA (swA a j k) j k) L I un u T tn fl m := hR4
            rw [sw_sw (by omega)] at hR4
            exact hR4
          rw [inn2] at he'
          refine m_allSee hR3 hV3 hV.sc (fun p => back (fun S4 hR4 o4 => ite_n (by decide) ?_)) (fun p => back (fun S4 hR4 o4 => ite_y rfl ?_))
          · rw [if_pos p] at he'
            refine ite_c (fun e => ?_) (fun e => ?_)
            · rw [if_pos (show nI (c', r').1 = v from e)] at he'
              refine ite_n (by decide) (nm_p (nI_1 c') ?_)
              rw [show (10 : Int32) = nI 10 from rfl, pk_mul, nI_add, nI_1]
              exact ihq (k + 1) (c' + 1) _ S4 (by omega) (by omega) hR4 o4 he'
            · rw [if_neg (show ¬ nI (c', r').1 = v from e)] at he'
              unfold f_X11_mixed_90 f_X11_mixed_91
              refine ite_n (by decide) (nm_p (nI_1 c') ?_)
              rw [nI_1]
              exact ihq (k + 1) (c' + 1) _ S4 (by omega) (by omega) hR4 o4 he'
          · rw [if_neg p] at he'
            unfold f_X11_mixed_90 f_X11_mixed_91
            refine ite_y rfl (nm_p (e' := nI c') (by rw [lit, nI_add]; rfl) ?_)
            rw [nI_1]
            exact ihq (k + 1) c' r' S4 (by omega) (by omega) hR4 o4 he'
      exact ⟨a 0 - (j + 1) + 1, si (a 0 - (j + 1)) (j + 1) c r S1 (by omega) (by omega) hR1 o1 he⟩
  exact ⟨a 0 + 1, so (a 0) 0 0 (-1) S (by omega) hR (OffC.refl S) rfl⟩
theorem inn2_lo (a : Rw) {v : Int32} (hv : v < -1) {j : Nat} : ∀ n k (p : Nat × Int32), p.1 + n < 2147483648 → (inn2 a v j n k p).2 = p.2 := by
  intro n
  induction n with
  | zero => intro k p _; rfl
  | succ n ih =>
    intro k p hb
    rw [inn2]
    split
    · rw [if_neg (fun e => by rw [← e, i32_lt, nI_toInt (by omega)] at hv; have : (-1 : Int32).toInt = -1 := rfl; omega), ih _ _ (by show p.1 + 1 + n < _; omega)]
    · exact ih _ _ (by omega)
theorem out2_lo (a : Rw) (h6 : a 0 ≤ 6) {v : Int32} (hv : v < -1) : ∀ n j (p : Nat × Int32), p.1 + 6 * n < 2147483000 → (out2 a v n j p).2 = p.2 := by
  intro n
  induction n with
  | zero => intro j p _; rfl
  | succ n ih =>
    intro j p hb
    rw [out2]
    have w2 := inn2_b a (v := v) (j := j) (a 0 - (j + 1)) (j + 1) p
    rw [ih (j + 1) _ (by omega), inn2_lo a hv _ _ _ (by omega)]
theorem R_27 {v : Int32} (h : Inv G S) (k : ∀ S', Inv G S' → K G S') : f_X10_mixed G 0 v (fun r S1 => f_X11_mixed G 87 v (fun r2 S2 => r = r2 ∧ K G S2) S1) S := by
  obtain ⟨a, L, I, un, u, T, tn, fl, m, hV, hC, hR⟩ := h
  unfold f_X10_mixed
  by_cases hlo : v < -1
  · refine ite_y hlo (nm_e (M_mixed hR.th hV.1 (fun S1 hR1 o1 => ite_n (fun e => ?_) ⟨?_, k _ (inv hV (hC.th.offC o1) hR1)⟩)))
    · rw [e] at hlo; exact absurd hlo (by decide)
    · have := hV.1.1
      exact (out2_lo a hV.1.1 hlo (a 0) 0 (0, -1) (by show 0 + 6 * a 0 < _; omega)).symm
  · refine ite_n hlo (ex_y hC.1.r0_7 (ex_y hC.1.r0_0 (C_mixed hC.1.p1 hC.2.1 hV.1 ?_)))
    by_cases h1 : v = -1
    · exact ite_y h1 (nm_e (M_mixed hR.th hV.1 (fun S1 hR1 o1 => ite_y h1 ⟨rfl, k _ (inv hV (hC.th.offC o1) hR1)⟩)))
    · exact ite_n h1 (nm_e (M_mixed hR.th hV.1 (fun S1 hR1 o1 => ite_n h1 ⟨rfl, k _ (inv hV (hC.th.offC o1) hR1)⟩)))
end
