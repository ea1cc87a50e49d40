-- needs: 358
section
variable {G : Gm} {S S' : St} {a m : Rw} {L : Nat → Lw} {I : Im} {un tn : Nat} {u : Un} {T : Nat → Nat} {fl : Nat → Int32} {Q : Int32 → St → Prop} {K : Gm → St → Prop}
theorem Cls.par {b : Rw} (h : Cls G S a L I un u T tn fl m) (f : Fr (fun i => 1 ≤ i ∧ i ≤ 7) S S') (hP : ParC S' 1 b) (h2 : b 2 = a 2) : Cls G S' b L I un u T tn fl m := by
  obtain ⟨h1, h2', h3, h4, h5, h6, h7, h8, h9⟩ := h
  have e : ∀ i, ¬ (1 ≤ i ∧ i ≤ 7) → S'.1 i = S.1 i := fun i hi => (f.2 i hi).1
  exact ⟨by rw [f.1]; exact h1, hP, (h3.ag (fun i _ => e i (by omega)) f.1).eqa h2, h4.ag (e _ (by omega)) (e _ (by omega)) (e _ (by omega)), h5.ag (fun i _ => e i (by omega)) f.1, h6.ag (e _ (by omega)) (e _ (by omega)), h7.ag (by rw [e 75 (by omega)]) (e _ (by omega)), h8.ag (e _ (by omega)) (by rw [e 75 (by omega)]) (e _ (by omega)), h9.ag (fun i _ _ => e i (by omega))⟩
theorem newP_2 {q : Nat → Nat} (h6 : a 0 < 6) : newP a q 2 = a 2 := by
  unfold newP; rw [if_neg (by omega), if_neg (by omega), if_neg (by omega)]
theorem R_0 (h : Inv G S) (k : ∀ S', Inv G S' → K G S') : f_X10_person G 0 (fun r S1 => f_X11_person G 87 (fun r2 S2 => r = r2 ∧ K G S2) S1) S := by
  obtain ⟨a, L, I, un, u, T, tn, fl, m, hV, hC, hR⟩ := h
  have h6 := hV.1.1
  refine ex_y hC.1.r0_0 ?_
  rw [hC.2.1.1]
  by_cases h0 : a 0 < 6
  · refine ite_y (by rw [lit, ltI (by omega) (by omega)]; exact h0) (ex_y hC.1.r0_3 (C_empty hC (fun S1 hC1 o1 => ex_y hC1.1.r0_0 ?_)))
    refine c_addPerson hC1.1.p1 hC1.2.1 hV.1 h0 (fun S2 f2 hP2 => ?_)
    have hC2 := hC1.par (f2.mono (fun i hi => by omega)) hP2 (newP_2 h0)
    refine C_accept hC2 (fun S3 hC3 o3 => nm_e ?_)
    have hR3 := (hR.offR ((o1.trans (Fr.offR f2 (by intro i hi; omega))).trans o3)).th
    refine m_come1 (x1 := 0) (x2 := 0) (x3 := 0) (x4 := 0) (q := fun _ => 0) hR3 (by omega) (by omega) (by omega) (by omega) rfl rfl rfl rfl h0 (fun S4 hR4 o4 _ _ => ?_)
    exact M_settled_y hR4 (nn0 (by omega)) (fun S5 hR5 o5 => ⟨rfl, k S5 (inv (hV.set0 (newP_v hV.1 h0 (fun _ _ => by omega))) (hC3.th.offC (o4.trans o5)) hR5)⟩)
  · refine ite_n (by rw [lit, ltI (by omega) (by omega)]; exact h0) (C_refuse (n := 5) hC (by omega) (by omega) (fun S3 hC3 o3 => nm_e ?_))
    have hR3 := (hR.offR o3).th
    refine m_come1_full (x1 := 0) (x2 := 0) (x3 := 0) (x4 := 0) hR3 (by omega) (by omega) (by omega) (by omega) (by omega) ?_
    exact M_settled_n (n := 5) hR3 (by omega) (by omega) (fun S5 hR5 o5 => ⟨rfl, k S5 (inv hV (hC3.th.offC o5) hR5)⟩)
theorem Va.saw {j s : Nat} (hV : Va a) (h1 : a 1 < 8) (hj : j < a 0) (hs : s ≤ 255) : Va (up (up (up a (44 + a 1) j) (52 + a 1) s) 1 (a 1 + 1)) := by
  obtain ⟨h0, h1', h2, h3, h4, h5, h6, h7, h8, h9, h10, h11, h12, h13⟩ := hV
  have z : ∀ i, i ≠ 1 → i ≠ 44 + a 1 → i ≠ 52 + a 1 → up (up (up a (44 + a 1) j) (52 + a 1) s) 1 (a 1 + 1) i = a i := fun i e1 e2 e3 => by rw [up_n _ e1, up_n _ e3, up_n _ e2]
  refine ⟨?_, ?_, ?_, ?_, ?_, ?_, ?_, ?_, fun k hk => ?_, fun k hk => ?_, fun k hk => ?_, fun k hk => ?_, fun k hk => ?_, fun k hk => ?_⟩
  · rw [z _ (by omega) (by omega) (by omega)]; exact h0
  · rw [up_s]; omega
  · rw [z _ (by omega) (by omega) (by omega)]; exact h2
  · rw [z _ (by omega) (by omega) (by omega), z _ (by omega) (by omega) (by omega)]; exact h3
  · rw [z _ (by omega) (by omega) (by omega)]; exact h4
  · rw [z _ (by omega) (by omega) (by omega)]; exact h5
  · rw [z _ (by omega) (by omega) (by omega)]; exact h6
  · rw [z _ (by omega) (by omega) (by omega)]; exact h7
  · rw [z _ (by omega) (by omega) (by omega)]; exact h8 k hk
  · rw [z _ (by omega) (by omega) (by omega)]; exact h9 k hk
  · rw [z _ (by omega) (by omega) (by omega)]; exact h10 k hk
  · by_cases e : k = a 1
    · rw [up_n _ (by omega), up_n _ (by omega), e, up_s]; omega
    · rw [z _ (by omega) (by omega) (by omega)]; exact h11 k hk
  · by_cases e : k = a 1
    · rw [up_n _ (by omega), e, up_s]; exact hs
    · rw [z _ (by omega) (by omega) (by omega)]; exact h12 k hk
  · rw [up_s] at hk
    rw [z 0 (by omega) (by omega) (by omega)]
    by_cases e : k = a 1
    · rw [up_n _ (by omega), up_n _ (by omega), e, up_s]; exact hj
    · rw [z _ (by omega) (by omega) (by omega)]; exact h13 k (by omega)
theorem R_23 {v w : Int32} (h : Inv G S) (k : ∀ S', Inv G S' → K G S') : f_X10_saw G 0 v w (fun r S1 => f_X11_saw G 87 v w (fun r2 S2 => r = r2 ∧ K G S2) S1) S := by
  obtain ⟨a, L, I, un, u, T, tn, fl, m, hV, hC, hR⟩ := h
  have h6 := hV.1.1
  have h8 := hV.1.2.1
  unfold f_X10_saw
  rcases ar_c 256 (by omega) w with ⟨s, hs, rfl⟩ | hw
  · refine c_num_y hs (ite_n (by decide) (ex_y hC.1.r0_0 ?_))
    rcases ar_c (a 0) (by omega) v with ⟨j, hj, rfl⟩ | hv
    · refine c_has_y hC.2.1 hV.1 hj (ite_n (by decide) (ex_y hC.1.r0_0 ?_))
      have e5 : S.1 1 5 = nI (a 1) := hC.2.1.2.1
      rw [e5]
      by_cases h1 : a 1 < 8
      · refine ite_y (by rw [lit, ltI (by omega) (by omega)]; exact h1) (ex_y hC.1.r0_0 ?_)
        unfold f_X5_addSeen
        rw [e5]
        refine ite_n (by simp (disch := omega) only [lit, nI_add, pk_mul, leI, ltI, eqI]; omega) (ite_n (by simp (disch := omega) only [lit, nI_add, pk_mul, leI, ltI, eqI]; omega) (ex_y hC.1.p1.2.2.2.2.1 ⟨?_, nm_e (ex_y hC.1.p1.2.2.2.2.2.1 ?_)⟩))
        · rw [hC.1.p1.2.2.2.2.2.2.2.2.2.2.2.1, in_iff (by omega)]; exact h1
        rw [clI (by omega)]
        have e5' : (uI S (1 + 5) (a 1) (nI j)).1 1 5 = nI (a 1) := by rw [uI_n _ _ _ _ (by omega)]; exact e5
        rw [e5', clI (by omega), hC.1.p1.2.2.2.2.2.2.2.2.2.2.2.2.1, in_iff (by omega)]
        refine ⟨h1, nm_e (nm_e ?_)⟩
        have e5'' : (uI (uI S (1 + 5) (a 1) (nI j)) (1 + 6) (a 1) (nI s)).1 1 5 = nI (a 1) := by rw [uI_n _ _ _ _ (by omega)]; exact e5'
        rw [e5'', nI_1]
        have hC1 := ((hC.set (q := 1 + 5) (i := a 1) (v := j) (x := 44 + a 1) (by unfold pos; omega) (by omega)).set (q := 1 + 6) (i := a 1) (v := s) (x := 52 + a 1) (by unfold pos; omega) (by omega)).set (q := 1) (i := 5) (v := a 1 + 1) (x := 1) (by unfold pos; omega) (by omega)
        have e9 : (uI (uI (uI S (1 + 5) (a 1) (nI j)) (1 + 6) (a 1) (nI s)) 1 5 (nI (a 1 + 1))).1 1 5 = nI (a 1 + 1) := by rw [uI_s, if_pos rfl]
        have oR : OffR S (uI (uI (uI S (1 + 5) (a 1) (nI j)) (1 + 6) (a 1) (nI s)) 1 5 (nI (a 1 + 1))) := (((OffR.refl S).uI (by omega)).uI (by omega)).uI (by omega)
        generalize uI (uI (uI S (1 + 5) (a 1) (nI j)) (1 + 6) (a 1) (nI s)) 1 5 (nI (a 1 + 1)) = S1 at hC1 e9 oR ⊢
        unfold f_X5_addSeen_46
        rw [e9]
        refine C_accept hC1 (fun S2 hC2 o2 => nm_e ?_)
        have hR2 := (hR.offR (oR.trans o2)).th
        have hS := hR2.1.1
        refine m_sight_y hs (ite_n (by decide) (m_person_y hR2.1.1 hR2.1.2.1 hV.1 hj (ite_n (by decide) (ex_y hS.row ⟨inrow (n := 1) hS (by omega), nm_p (e' := nI (a 1)) hR2.1.2.1.2.1 (ite_n (by rw [lit, eqI (by omega) (by omega)]; omega) (ex_y hS.row ?_))⟩))))
        simp (disch := omega) only [show (68 : Int32) = nI 68 from rfl, show (2 : Int32) = nI 2 from rfl, nI_1, nI_add, pk_mul, clI]
        refine ⟨inrow hS (by omega), nm_e (ex_y hS.row ⟨inrow hS (by omega), nm_e (ex_y hS.row ⟨inrow (n := 1) hS (by omega), inrow (n := 1) hS (by omega), nm_e ?_⟩)⟩)⟩
        have f1 : (uI (uI (uI S2 87 0 0) 90 (68 + 2 * a 1) (nI j)) 90 (68 + 2 * a 1 + 1) (nI s)).1 90 ((1 : Int32).toNatClampNeg) = nI (a 1) := by
          show (uI (uI (uI S2 87 0 0) 90 (68 + 2 * a 1) (nI j)) 90 (68 + 2 * a 1 + 1) (nI s)).1 90 1 = _
          rw [uI_s, if_neg (by omega), uI_s, if_neg (by omega)]; exact hR2.1.2.1.2.1
        rw [f1, nI_1]
        have hR3 := ((hR2.set (i := 68 + 2 * a 1) (v := j) (x := 44 + a 1) (by unfold posR; exact .inr (.inr (.inl ⟨a 1, h1, rfl, rfl⟩))) (by omega)).set (i := 68 + 2 * a 1 + 1) (v := s) (x := 52 + a 1) (by unfold posR; exact .inr (.inr (.inr ⟨a 1, h1, by omega, rfl⟩))) (by omega)).set (i := 1) (v := a 1 + 1) (x := 1) (by unfold posR; omega) (by omega)
        refine M_tell_y hR3 (nn0 (by omega)) (fun S5 hR5 o5 => ⟨rfl, k S5 (inv ?_ (hC2.th.offC (((((OffC.refl _).uI (i := 90) (by omega) (by omega)).uI (i := 90) (by omega) (by omega)).uI (i := 90) (by omega) (by omega)).trans o5)) hR5)⟩)
        refine ⟨hV.1.saw h1 hj (by omega), hV.2.1, hV.2.2.1, fun q hq => ?_, hV.2.2.2.2⟩
        obtain ⟨x1, x2, x3, x4, x5, x6⟩ := hV.2.2.2.1 q hq
        refine ⟨x1, x2, ?_, ?_, ?_, ?_⟩ <;> rw [up_n _ (by omega), up_n _ (by omega), up_n _ (by omega)] <;> assumption
      · refine ite_n (by rw [lit, ltI (by omega) (by omega)]; exact h1) (C_refuse (n := 5) hC (by omega) (by omega) (fun S2 hC2 o2 => nm_e ?_))
        have hR2 := (hR.offR o2).th
        have hS := hR2.1.1
        refine m_sight_y hs (ite_n (by decide) (m_person_y hR2.1.1 hR2.1.2.1 hV.1 hj (ite_n (by decide) (ex_y hS.row ⟨inrow (n := 1) hS (by omega), nm_p (e' := nI (a 1)) hR2.1.2.1.2.1 (ite_y (by rw [lit, eqI (by omega) (by omega)]; omega) ?_)⟩))))
        exact M_tell_n (n := 5) hR2 (by omega) (by omega) (fun S3 hR3 o3 => ⟨rfl, k S3 (inv hV (hC2.th.offC o3) hR3)⟩)
    · refine c_has_n hC.2.1 hV.1 hv (ite_y rfl (C_refuse (n := 2) hC (by omega) (by omega) (fun S2 hC2 o2 => nm_e ?_)))
      have hR2 := (hR.offR o2).th
      refine m_sight_y hs (ite_n (by decide) (m_person_n hR2.1.1 hR2.1.2.1 hV.1 hv (ite_y rfl ?_)))
      exact M_tell_n (n := 2) hR2 (by omega) (by omega) (fun S3 hR3 o3 => ⟨rfl, k S3 (inv hV (hC2.th.offC o3) hR3)⟩)
  · refine c_rng_n (n := 256) hw (ite_y rfl (C_refuse (n := 1) hC (by omega) (by omega) (fun S2 hC2 o2 => nm_e (m_sight_n hw (ite_y rfl ?_)))))
    have hR2 := (hR.offR o2).th
    exact M_tell_n (n := 1) hR2 (by omega) (by omega) (fun S3 hR3 o3 => ⟨rfl, k S3 (inv hV (hC2.th.offC o3) hR3)⟩)
theorem R_24 (h : Inv G S) (k : ∀ S', Inv G S' → K G S') : f_X10_forget G 0 (fun r S1 => f_X11_forget G 87 (fun r2 S2 => r = r2 ∧ K G S2) S1) S := by
  obtain ⟨a, L, I, un, u, T, tn, fl, m, hV, hC, hR⟩ := h
  have hC1 := hC.set (q := 1) (i := 5) (v := 0) (x := 1) (by unfold pos; omega) (by omega)
  have hR1 := (hR.offR ((OffR.refl S).uI (i := 1) (j := 5) (v := nI 0) (by omega))).th
  have hS := hR1.1.1
  refine ex_y hC.1.r0_0 (nm_e (ex_y hC.1.r0_0 (nm_e (nm_e (ex_y hS.row ⟨inrow (n := 1) hS (by omega), nm_e (ex_y hS.row ⟨inrow (n := 1) hS (by omega), nm_e ⟨?_, ?_⟩⟩)⟩)))))
  · rw [hC.2.1.2.1]; exact hR1.1.2.1.2.1.symm
  · refine k _ (inv ?_ (hC1.th.offC ((OffC.refl _).uI (i := 90) (by omega) (by omega))) (hR1.set (i := 1) (v := 0) (x := 1) (by unfold posR; omega) (by omega)))
    have v1 : Va (up a 1 0) := by
      obtain ⟨h0, h1, h2, h3, h4, h5, h6, h7, h8, h9, h10, h11, h12, h13⟩ := hV.1
      have z : ∀ i, i ≠ 1 → up a 1 0 i = a i := fun i hi => up_n a hi
      refine ⟨?_, by rw [up_s]; omega, ?_, ?_, ?_, ?_, ?_, ?_, fun k hk => ?_, fun k hk => ?_, fun k hk => ?_, fun k hk => ?_, fun k hk => ?_, fun k hk => ?_⟩
      · rw [z _ (by omega)]; exact h0
      · rw [z _ (by omega)]; exact h2
      · rw [z _ (by omega), z _ (by omega)]; exact h3
      · rw [z _ (by omega)]; exact h4
      · rw [z _ (by omega)]; exact h5
      · rw [z _ (by omega)]; exact h6
      · rw [z _ (by omega)]; exact h7
      · rw [z _ (by omega)]; exact h8 k hk
      · rw [z _ (by omega)]; exact h9 k hk
      · rw [z _ (by omega)]; exact h10 k hk
      · rw [z _ (by omega)]; exact h11 k hk
      · rw [z _ (by omega)]; exact h12 k hk
      · rw [up_s] at hk; omega
    exact hV.set v1 (by omega)
end
