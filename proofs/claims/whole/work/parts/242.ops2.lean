-- needs: 200 201 202 203 204 210 211 220 221 222 223 224 225 226 227 228 230 231 232 240 241
/-! of, asks, alike, ground, drawn, count, forget, saw, end. -/
section
variable {G : Gm} {S S' : St} {a m : Rw} {L : Nat → Lw} {I : Im} {un tn : Nat} {u : Un} {T : Nat → Nat} {fl : Nat → Int32} {Q : Int32 → St → Prop} {K : Gm → St → Prop}
theorem Cls.frJ {q : Nat} (h : Cls G S a L I un u T tn fl m) (f : FrJ q S S') (hq : q = 20 ∨ q = 25 ∨ q = 41 ∨ q = 46 ∨ q = 55) : Cls G S' a L I un u T tn fl m :=
  h.fr f (by intro i hi; unfold rlC; omega)
theorem FrJ.offR {q : Nat} (f : FrJ q S S') (hq : q < 80) : OffR S S' := Fr.offR f (by intro i hi; omega)
theorem lt13 {x : Nat} (h : x < 13) : x = 0 ∨ x = 1 ∨ x = 2 ∨ x = 3 ∨ x = 4 ∨ x = 5 ∨ x = 6 ∨ x = 7 ∨ x = 8 ∨ x = 9 ∨ x = 10 ∨ x = 11 ∨ x = 12 := by omega
theorem R_1 {v w : Int32} (h : Inv G S) (k : ∀ S', Inv G S' → K G S') : f_X10_of G 0 v w (fun r S1 => f_X11_of G 87 v w (fun r2 S2 => r = r2 ∧ K G S2) S1) S := by
  obtain ⟨a, L, I, un, u, T, tn, fl, m, hV, hC, hR⟩ := h
  have h6 := hV.1.1
  have hA := hC.1
  have fin : ∀ {r r2 : Int32}, r = r2 → r = r2 ∧ K G (uI S 87 0 0) := fun e => ⟨e, k _ (inv hV hC.th hR.th)⟩
  refine ex_y hA.r0_0 ?_
  rcases ar_c (a 0) (by omega) v with ⟨j, hj, rfl⟩ | hv
  · have py : ∀ {S1 : St} {Q' : Int32 → St → Prop}, Ref G S1 a L I un u T tn fl m → Q' 1 S1 → f_X11_isPerson G 87 (nI j) Q' S1 := fun hr hq => m_person_y hr.1.1 hr.1.2.1 hV.1 hj hq
    refine c_has_y hC.2.1 hV.1 hj (ite_n (by decide) ?_)
    rcases ar_c 13 (by omega) w with ⟨x, hx, rfl⟩ | hw
    · by_cases x4 : x < 4
      · refine ite_n (by simp (disch := omega) only [lit, nI_add, pk_mul, leI, ltI, eqI]; omega) (ite_n (by simp (disch := omega) only [lit, nI_add, pk_mul, leI, ltI, eqI]; omega) (ex_y hA.r0_0 (c_sinOf hA.p1 hC.2.1 hV.1 hj x4 ?_)))
        refine nm_e (py hR.th (ite_n (by decide) (m_in_y (l := 0) (h := 3) (by omega) rfl rfl (by omega) (by omega) (ite_n (by decide) (ex_y hR.1.1.row ?_)))))
        simp (disch := omega) only [show (8 : Int32) = nI 8 from rfl, show (4 : Int32) = nI 4 from rfl, nI_add, pk_mul, clI]
        refine ⟨inrow hR.1.1 (by omega), fin ?_⟩
        rw [show 8 + 4 * j + x = 8 + (4 * j + x) from by omega]
        exact (hR.1.2.1.2.2.2.2.2.1 _ (by omega)).symm
      refine ite_n (by simp (disch := omega) only [lit, nI_add, pk_mul, leI, ltI, eqI]; omega) (ite_y (by simp (disch := omega) only [lit, nI_add, pk_mul, leI, ltI, eqI]; omega) ?_)
      -- the reference's way to its switch
      have sw : ∀ {S1 : St} {r : Int32}, Ref G S1 a L I un u T tn fl m → ¬ (5 ≤ x ∧ x ≤ 8) → (if nI x = 4 then f_X11_lensesOf G 87 (nI j) (fun r12 S11 => r = r12 ∧ K G S11) (uI S1 87 0 0) else (if nI x = 5 then r = -1 ∧ K G (uI S1 87 0 0) else (if nI x = 6 then r = -1 ∧ K G (uI S1 87 0 0) else (if nI x = 7 then r = -1 ∧ K G (uI S1 87 0 0) else (if nI x = 8 then r = -1 ∧ K G (uI S1 87 0 0) else (if nI x = 9 then f_X11_sightOf G 87 (nI j) (fun r14 S13 => r = r14 ∧ K G S13) (uI S1 87 0 0) else (if nI x = 10 then f_X11_sightOf G 87 (nI j) (fun r16 S15 => f_X11_doesOf G 87 (nI j) r16 (fun r18 S17 => r = r18 ∧ K G S17) S15) (uI S1 87 0 0) else (if nI x = 11 then (∃ a19, (uI S1 87 0 0).2.2 87 4 = some a19 ∧ (vp_in (62 + nI j) (G.2.1 a19) ∧ r = ((uI S1 87 0 0).1 a19 (62 + nI j).toNatClampNeg) ∧ K G (uI S1 87 0 0))) else (if nI x = 12 then f_X11_isBarred G 87 (nI j) (fun r22 S21 => (if r22 = 0 then r = 0 ∧ K G S21 else r = 1 ∧ K G S21)) (uI S1 87 0 0) else r = -1 ∧ K G (uI S1 87 0 0)))))))))) → f_X11_of G 87 (nI j) (nI x) (fun r2 S2 => r = r2 ∧ K G S2) S1 := by
        intro S1 r hr hx5 z
        refine nm_e (py hr.th (ite_n (by decide) (m_in (fun h1 h2 => ?_) (fun _ => ite_y rfl (m_in (fun h1 h2 => ?_) (fun _ => ite_y rfl z))))))
        · exfalso
          rw [i32_64, nI_toInt (by omega)] at h2
          have : (3 : Int64).toInt = 3 := rfl
          omega
        · exfalso
          rw [i32_64, nI_toInt (by omega)] at h1 h2
          have : (5 : Int64).toInt = 5 := rfl
          have : (8 : Int64).toInt = 8 := rfl
          omega
      by_cases x5 : 5 ≤ x ∧ x ≤ 8
      · refine ite_n (by simp (disch := omega) only [lit, nI_add, pk_mul, leI, ltI, eqI]; omega) (ite_n (by simp (disch := omega) only [lit, nI_add, pk_mul, leI, ltI, eqI]; omega) (ex_y hA.r0_0 (c_glassOf hA.p1 hC.2.1 hV.1 hj ?_)))
        rw [show (5 : Int32) = nI 5 from rfl, sbI x5.1]
        have g4 := gn_le (a (32 + j))
        refine c_lensAt (hV.1.gl (by omega)) (by omega) ?_
        refine nm_e (py hR.th (ite_n (by decide) (m_in (fun h1 h2 => ?_) (fun _ => ite_y rfl (m_in_y (l := 5) (h := 8) (by omega) rfl rfl x5.1 x5.2 (ite_n (by decide) ?_))))))
        · exfalso
          rw [i32_64, nI_toInt (by omega)] at h2
          have : (3 : Int64).toInt = 3 := rfl
          omega
        refine m_lensesOf hR.th.1.1 hR.th.1.2.1 (by omega) ?_
        rw [show (5 : Int32) = nI 5 from rfl, sbI x5.1]
        refine ite_c (fun d => ?_) (fun d => ?_)
        · rw [leI (by omega) (by omega)] at d
          rw [if_neg (by omega)]; exact fin rfl
        · rw [leI (by omega) (by omega)] at d
          rw [if_pos (by omega)]
          refine ex_y hR.1.1.row ?_
          have e : (((32 : Int32) + (5 : Int32) * nI j) + nI x) - 4 = nI (33 + 5 * j + (x - 5)) := by
            rw [show (32 : Int32) = nI 32 from rfl, show (5 : Int32) = nI 5 from rfl, show (4 : Int32) = nI 4 from rfl, pk_mul, nI_add, nI_add, sbI (by omega)]
            congr 1; omega
          have e' : ((32 : Int32) + (nI 5) * nI j + nI x) - 4 = nI (33 + 5 * j + (x - 5)) := e
          rw [e', clI (by omega)]
          exact ⟨inrow hR.1.1 (by omega), fin (hR.1.2.1.2.2.2.2.2.2.2.1 j (by omega) (x - 5) (by omega)).symm⟩
      have go58 : f_X10_of_58 G 0 (nI j) (nI x) (fun r S1 => f_X11_of G 87 (nI j) (nI x) (fun r2 S2 => r = r2 ∧ K G S2) S1) S := by
        unfold f_X10_of_58
        have hx' : x = 4 ∨ x = 9 ∨ x = 10 ∨ x = 11 ∨ x = 12 := by omega
        rcases hx' with rfl | rfl | rfl | rfl | rfl
        · refine ite_y rfl (ex_y hA.r0_0 (c_glassOf hA.p1 hC.2.1 hV.1 hj (c_lensesIn (hV.1.gl (by omega)) ?_)))
          exact sw hR (by omega) (ite_y rfl (m_lensesOf hR.th.1.1 hR.th.1.2.1 (by omega) (fin rfl)))
        · refine ite_n (by decide) (ite_n (by decide) (ite_n (by decide) (ite_n (by decide) (ite_n (by decide) (ite_y rfl (ex_y hA.r0_0 (c_sightOf hA.p1 hC.2.1 hV.1 hj ?_)))))))
          exact sw hR (by omega) (ite_n (by decide) (ite_n (by decide) (ite_n (by decide) (ite_n (by decide) (ite_n (by decide) (ite_y rfl (m_sightOf hR.th.1.1 hR.th.1.2.1 hR.th.1.2.2.1 hV.1 (by omega) (fin rfl))))))))
        · refine ite_n (by decide) (ite_n (by decide) (ite_n (by decide) (ite_n (by decide) (ite_n (by decide) (ite_n (by decide) (ite_y rfl (ex_y hA.r0_4 (ex_y hA.r0_0 (ex_y hA.r0_0 (c_sightOf hA.p1 hC.2.1 hV.1 hj ?_))))))))))
          have s8 := sgt_lt hV.1 (j := j) (by omega)
          refine c_deed hA.j20 hA.p1 hC.2.1 hV.1 hC.2.2.1.1 (by omega) (by omega) hj s8 (fun S1 f1 => ?_)
          have hC1 := hC.frJ f1 (by omega)
          have hR1 := hR.offR (f1.offR (by omega))
          refine sw hR1 (by omega) (ite_n (by decide) (ite_n (by decide) (ite_n (by decide) (ite_n (by decide) (ite_n (by decide) (ite_n (by decide) (ite_y rfl (m_sightOf hR1.th.1.1 hR1.th.1.2.1 hR1.th.1.2.2.1 hV.1 (by omega) ?_))))))))
          exact m_doesOf (hR1.th.rfp hV.1) (by omega) s8 (fun S2 f2 => ⟨rfl, k _ (inv hV (hC1.th.offC f2.offC) (hR1.th.frR f2))⟩)
        · refine ite_n (by decide) (ite_n (by decide) (ite_n (by decide) (ite_n (by decide) (ite_n (by decide) (ite_n (by decide) (ite_n (by decide) (ite_y rfl (ex_y hA.r0_0 (c_wantedOf hA.p1 hC.2.1 hV.1 hj ?_)))))))))
          refine sw hR (by omega) (ite_n (by decide) (ite_n (by decide) (ite_n (by decide) (ite_n (by decide) (ite_n (by decide) (ite_n (by decide) (ite_n (by decide) (ite_y rfl (ex_y hR.1.1.row ?_)))))))))
          rw [show (62 : Int32) + nI j = nI (62 + j) from by rw [lit, nI_add], clI (by omega)]
          exact ⟨inrow hR.1.1 (by omega), fin (hR.1.2.1.2.2.2.2.2.2.2.2.1 j (by omega)).symm⟩
        · refine ite_n (by decide) (ite_n (by decide) (ite_n (by decide) (ite_n (by decide) (ite_n (by decide) (ite_n (by decide) (ite_n (by decide) (ite_n (by decide) (ite_y rfl (ex_y hA.r0_4 (ex_y hA.r0_0 ?_))))))))))
          refine c_bars hA.j20 hA.p1 hC.2.1 hV.1 hC.2.2.1.1 (by omega) (by omega) hj (fun S1 f1 => ?_)
          have hC1 := hC.frJ f1 (by omega)
          have hR1 := hR.offR (f1.offR (by omega))
          have go : ∀ r : Int32, r = (if barA (frc a L) a j = true then 1 else 0) → f_X11_of G 87 (nI j) (nI 12) (fun r2 S2 => r = r2 ∧ K G S2) S1 := by
            intro r hr
            refine sw hR1 (by omega) (ite_n (by decide) (ite_n (by decide) (ite_n (by decide) (ite_n (by decide) (ite_n (by decide) (ite_n (by decide) (ite_n (by decide) (ite_n (by decide) (ite_y rfl ?_)))))))))
            refine m_isBarred (hR1.th.rfp hV.1) (by omega) (fun S2 f2 => ?_)
            have fk := k _ (inv hV (hC1.th.offC f2.offC) (hR1.th.frR f2))
            rw [hr]
            by_cases hb : barA (frc a L) a j = true
            · rw [if_pos hb]; exact ite_n (by decide) ⟨rfl, fk⟩
            · rw [if_neg hb]; exact ite_y rfl ⟨rfl, fk⟩
          by_cases hb : barA (frc a L) a j = true
          · rw [if_pos hb] at go ⊢; exact ite_n (by decide) (go 1 rfl)
          · rw [if_neg hb] at go ⊢; exact ite_y rfl (go 0 rfl)
      refine ite_c (fun _ => go58) (fun _ => ite_c (fun _ => go58) (fun d9 => ?_))
      exfalso
      rename_i d5
      simp (disch := omega) only [lit, ltI] at d5
      simp (disch := omega) only [lit, leI] at d9
      omega
    · -- no such question
      have ne : ∀ i, i < 13 → ¬ w = nI i := fun i hi => ne_of_rng hi (by omega) hw
      have wn : ¬ (0 ≤ w.toInt ∧ w.toInt < 13) := by
        rcases hw with hw | hw
        · rw [i32_lt] at hw
          have : (0 : Int32).toInt = 0 := rfl
          omega
        · rw [i32_le, nI_toInt (by omega)] at hw; omega
      have rf : f_X11_of G 87 (nI j) w (fun r2 S2 => (-1 : Int32) = r2 ∧ K G S2) S := by
        refine nm_e (py hR.th (ite_n (by decide) (m_in (fun h1 h2 => ?_) (fun _ => ite_y rfl (m_in (fun h1 h2 => ?_) (fun _ => ite_y rfl ?_))))))
        · exfalso
          rw [i32_64] at h1 h2
          have : (3 : Int64).toInt = 3 := rfl
          have : (0 : Int64).toInt = 0 := rfl
          omega
        · exfalso
          rw [i32_64] at h1 h2
          have : (5 : Int64).toInt = 5 := rfl
          have : (8 : Int64).toInt = 8 := rfl
          omega
        · exact ite_n (ne 4 (by omega)) (ite_n (ne 5 (by omega)) (ite_n (ne 6 (by omega)) (ite_n (ne 7 (by omega)) (ite_n (ne 8 (by omega)) (ite_n (ne 9 (by omega)) (ite_n (ne 10 (by omega)) (ite_n (ne 11 (by omega)) (ite_n (ne 12 (by omega)) (fin rfl)))))))))
      have c58 : f_X10_of_58 G 0 (nI j) w (fun r S1 => f_X11_of G 87 (nI j) w (fun r2 S2 => r = r2 ∧ K G S2) S1) S :=
        ite_n (ne 4 (by omega)) (ite_n (ne 5 (by omega)) (ite_n (ne 6 (by omega)) (ite_n (ne 7 (by omega)) (ite_n (ne 8 (by omega)) (ite_n (ne 9 (by omega)) (ite_n (ne 10 (by omega)) (ite_n (ne 11 (by omega)) (ite_n (ne 12 (by omega)) rf))))))))
      have c32 : f_X10_of_32 G 0 (nI j) w (fun r S1 => f_X11_of G 87 (nI j) w (fun r2 S2 => r = r2 ∧ K G S2) S1) S := by
        refine ite_c (fun _ => c58) (fun d5 => ite_y ?_ c58)
        rw [i32_lt] at d5
        rw [i32_le]
        have : (5 : Int32).toInt = 5 := rfl
        have : (9 : Int32).toInt = 9 := rfl
        omega
      refine ite_c (fun _ => c32) (fun d0 => ite_y ?_ c32)
      rw [i32_lt] at d0
      rw [i32_le]
      have : (0 : Int32).toInt = 0 := rfl
      have : (4 : Int32).toInt = 4 := rfl
      omega
  · refine c_has_n hC.2.1 hV.1 hv (ite_y rfl ?_)
    exact nm_e (m_person_n hR.th.1.1 hR.th.1.2.1 hV.1 hv (ite_y rfl (fin rfl)))
end
