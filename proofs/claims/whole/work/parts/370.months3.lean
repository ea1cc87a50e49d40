-- needs: 369
section
variable {G : Gm} {S S' : St} {a b m : Rw} {L : Nat → Lw} {I : Im} {un tn : Nat} {u : Un} {T : Nat → Nat} {fl : Nat → Int32} {Q : Int32 → St → Prop} {K : Gm → St → Prop}
theorem Cls.mon (h : Cls G S a L I un u T tn fl m) (hV : Va a) (hI : ∀ k b M, I k = some (b, M) → Va b) (hM : ∀ i, rlC i → ¬ (9 ≤ i ∧ i ≤ 15) → S'.1 i = S.1 i) (hR : ∀ i, i ≠ 16 → i ≠ 38 → S'.2.2 i = S.2.2 i) (hP : ParC S' 9 b) : Cls G S' a L I un u T tn fl b := by
  obtain ⟨g1, g2, g3, g4, g5, g6, g7, g8, g9⟩ := h
  unfold rlC at hM
  refine ⟨g1.fr (fun i j _ _ h2 _ h4 => by rw [hR i h2 h4]) (fun _ _ => rfl) (Nat.le_refl _), g2.ag (fun i _ _ => hM i (by omega) (by omega)), g3.cp hV.2.2.1 (fun i hi _ => hM i (by omega) (by omega)) (fun i hi _ => hR i (by omega) (by omega)) (hR 17 (by omega) (by omega)) (fun k _ => by rw [hR _ (by omega) (by omega)]) (fun k hk t ht => ?_), ⟨hP.1, hP.2.2.2.2.2.1, hP.2.2.2.2.2.2.1⟩, g5.agR (fun i hi => hM i (by omega) (by omega)) (fun i hi => hR i (by omega) (by omega)) (hR 17 (by omega) (by omega)) hI, g6.ag (hM _ (by omega) (by omega)) (hM _ (by omega) (by omega)), g7.ag (by rw [hM 75 (by omega) (by omega)]) (hM _ (by omega) (by omega)), g8.ag (hM _ (by omega) (by omega)) (by rw [hM 75 (by omega) (by omega)]) (hM _ (by omega) (by omega)), g9.ag (fun i _ _ => hM i (by omega) (by omega))⟩
  obtain ⟨t', w1, w2, _⟩ := g3.1 k hk
  rw [ht] at w1; cases w1; omega
theorem Ref.mon {m' : Rw} (h : Ref G S a L I un u T tn fl m) (hm : MonR S' m') (hM : ∀ i, i ≠ 87 → i ≠ 120 → S'.1 i = S.1 i) (h87 : ∀ k, k ≠ 59 → S'.1 87 k = S.1 87 k) (hJ : S'.2 = S.2) : Ref G S' a L I un u T tn fl m' := by
  obtain ⟨⟨h1, h2, h3, h4, h5⟩, h6, h7, h8, h9, h10, h11⟩ := h
  refine ⟨⟨by rw [hJ]; exact h1, by rw [hM 90 (by omega) (by omega)]; exact h2, by rw [hM 89 (by omega) (by omega)]; exact h3, by rw [hM 90 (by omega) (by omega)]; exact h4, by rw [h87 21 (by omega)]; exact h5⟩, ?_, ?_, ?_, ?_, hm, ?_⟩
  · unfold ImgR; rw [hM 92 (by omega) (by omega), hM 91 (by omega) (by omega)]; exact h6
  · unfold UnR; rw [h87 9 (by omega), hM 94 (by omega) (by omega), hM 93 (by omega) (by omega)]; exact h7
  · unfold TapR; rw [h87 14 (by omega), hM 97 (by omega) (by omega)]; exact h8
  · unfold FlR; rw [h87 1 (by omega), h87 12 (by omega), h87 55 (by omega), h87 19 (by omega), hM 88 (by omega) (by omega)]; exact h9
  · unfold CoR; rw [hJ]; exact h11
theorem M_monEnd {c : Nat} (hR : Ref G S b L I un u T tn fl m) (hc : c ≤ 60) (hk : kp a b) (h16 : SnR (fun i => S.1 93 (928 + i)) a) (z : ∀ S', Ref G S' a L I un u T tn (flA fl) b → OffC S S' → Q (nI c) S') : f_X11_months_197 G 87 (nI c) Q 0 S := by
  have hS := hR.1.1
  have st : ∀ (n v : Nat) (S1 : St), n + v = 58 → S1.2 = S.2 → (∀ i, i ≠ 120 → S1.1 i = S.1 i) → (∀ i, i < v → S1.1 120 i = S.1 90 (4 + i)) → f_X11_months_197_n G 87 (nI c) Q (n + 1) (nI v) S1 := by
    intro n
    induction n with
    | zero =>
      intro v S1 hv e1 e2 e3
      have hv : v = 58 := by omega
      subst hv
      rw [f_X11_months_197_n]
      have r0 : S1.1 90 ((0 : Int32).toNatClampNeg) = nI (b 0) := by rw [e2 90 (by omega)]; exact hR.1.2.1.1
      refine ite_y (by simp (disch := omega) only [lit, nI_add, pk_mul, leI, ltI, eqI]; omega) (ex_y (by rw [e1]; exact hS.row) ⟨inrow (n := 0) hS (by omega), nm_e ?_⟩)
      rw [r0]
      have hR2 : Ref G (uI S1 87 59 (nI (b 0))) b L I un u T tn fl b := by
        refine hR.mon (.inr ⟨by rw [uI_s, if_pos rfl], fun i hi => ?_, fun j hj => ?_⟩) (fun i h1 h2 => by rw [uI_n _ _ _ _ h1, e2 i h2]) (fun k hk => by rw [uI_s, if_neg hk, e2 87 (by omega)]) e1
        · rw [uI_n _ _ _ _ (by omega), e3 _ (by omega), show 4 + (4 + i) = 8 + i from by omega]; exact hR.1.2.1.2.2.2.2.2.1 i hi
        · rw [uI_n _ _ _ _ (by omega), e3 _ (by omega), show 4 + (28 + 5 * j) = 32 + 5 * j from by omega]; exact hR.1.2.1.2.2.2.2.2.2.1 j hj
      have c93 : (uI S1 87 59 (nI (b 0))).1 93 = S.1 93 := by rw [uI_n _ _ _ _ (by omega), e2 93 (by omega)]
      have oC : OffC S (uI S1 87 59 (nI (b 0))) := ⟨by show S1.2.2 = _; rw [e1], fun i hi => ⟨by rw [uI_n _ _ _ _ (by omega), e2 i (by omega)], by show S1.2.1 i = _; rw [e1]⟩⟩
      generalize uI S1 87 59 (nI (b 0)) = S2 at hR2 c93 oC ⊢
      refine m_putBack (r := 16) hR2.1.1 (by omega) (fun S3 f1 f2 f3 => ?_)
      have hR3 : Ref G S3 (bk b a) L I un u T tn fl b := by
        refine hR2.put (h16.ag (fun i hi => ?_)) (hk 5 (by omega)).symm (hk 6 (by omega)).symm (hk 7 (by omega)).symm f1 f2 (fun i hi => by rw [f3, if_neg hi])
        rw [f3, if_pos (by omega), show 4 + i - 4 = i from by omega, c93]
      have e60 : eq60 (bk b a) a := by
        intro i _
        by_cases e : i = 4 ∨ (8 ≤ i ∧ i < 38)
        · exact bk_y e
        · rw [bk_n e]; exact hk i (by omega)
      exact M_tell_y (hR3.eqa e60) (nn0 (by omega)) (fun S4 hR4 o4 => z S4 hR4 ((oC.trans (OffC.of1 f1 f2)).trans o4))
    | succ n ih =>
      intro v S1 hv e1 e2 e3
      rw [f_X11_months_197_n]
      refine ite_n (by simp (disch := omega) only [lit, nI_add, pk_mul, leI, ltI, eqI]; omega) (ex_y (by rw [e1]; exact hS.drawn) (ex_y (by rw [e1]; exact hS.row) ?_))
      simp (disch := omega) only [show (4 : Int32) = nI 4 from rfl, nI_1, nI_add, clI, in_iff]
      rw [hS.row_l, hS.drawn_l]
      refine ⟨by omega, by omega, nm_e (ih (v + 1) _ (by omega) e1 (fun i hi => by rw [uI_n _ _ _ _ hi]; exact e2 i hi) (fun i hi => ?_))⟩
      rw [uI_s, e2 90 (by omega)]
      by_cases e : i = v
      · rw [if_pos e, e]
      · rw [if_neg e]; exact e3 i (by omega)
  exact ⟨59, st 58 0 S (by omega) rfl (fun _ _ => rfl) (fun i hi => absurd hi (by omega))⟩
theorem R_35 {v w : Int32} (h : Inv G S) (k : ∀ S', Inv G S' → K G S') : f_X10_months G 0 v w (fun r S1 => f_X11_months G 87 v w (fun r2 S2 => r = r2 ∧ K G S2) S1) S := by
  obtain ⟨a, L, I, un, u, T, tn, fl, m, hV, hC, hR⟩ := h
  have h6 := hV.1.1
  have t0 : (0 : Int32).toInt = 0 := rfl
  have t1 : (1 : Int32).toInt = 1 := rfl
  have t60 : (60 : Int32).toInt = 60 := rfl
  have tm : (1000000 : Int32).toInt = 1000000 := rfl
  have l0 : (0 : Int64).toInt = 0 := rfl
  have l1' : (1 : Int64).toInt = 1 := rfl
  have l60 : (60 : Int64).toInt = 60 := rfl
  have lm : (1000000 : Int64).toInt = 1000000 := rfl
  have bad : ¬ ((0 ≤ v.toInt ∧ v.toInt ≤ 1000000) ∧ (1 ≤ w.toInt ∧ w.toInt ≤ 60)) → f_X10_months_22 G 0 (fun r S1 => f_X11_months G 87 v w (fun r2 S2 => r = r2 ∧ K G S2) S1) S := by
    intro hn
    refine C_refuse (n := 1) hC (by omega) (by omega) (fun S1 hC1 o1 => nm_e ?_)
    have hR1 := (hR.offR o1).th
    have no : f_X11_months_29 G 87 (fun r2 S2 => (-(nI 1)) = r2 ∧ K G S2) (uI S1 87 0 0) := M_tell_n (n := 1) hR1 (by omega) (by omega) (fun S3 hR3 o3 => ⟨rfl, k S3 (inv hV (hC1.th.offC o3) hR3)⟩)
    refine m_in (fun c1 c2 => ite_n (by decide) (m_in (fun c3 c4 => absurd ?_ hn) (fun _ => ite_y rfl no))) (fun _ => ite_y rfl no)
    rw [i32_64] at c1 c2 c3 c4; omega
  unfold f_X10_months
  by_cases hg : (0 ≤ v.toInt ∧ v.toInt ≤ 1000000) ∧ (1 ≤ w.toInt ∧ w.toInt ≤ 60)
  · obtain ⟨x, hx, rfl⟩ : ∃ x, x ≤ 1000000 ∧ v = nI x := ⟨v.toInt.toNat, by omega, i32n (by omega) (by omega)⟩
    obtain ⟨n, hn, rfl⟩ : ∃ n, (1 ≤ n ∧ n ≤ 60) ∧ w = nI n := ⟨w.toInt.toNat, by omega, i32n (by omega) (by omega)⟩
    refine ite_n (by simp (disch := omega) only [lit, nI_add, pk_mul, leI, ltI, eqI]; omega) (ite_n (by simp (disch := omega) only [lit, nI_add, pk_mul, leI, ltI, eqI]; omega) (ite_n (by simp (disch := omega) only [lit, nI_add, pk_mul, leI, ltI, eqI]; omega) (ite_y (by simp (disch := omega) only [lit, nI_add, pk_mul, leI, ltI, eqI]; omega) (ex_y hC.1.r0_0 ?_))))
    rw [show S.1 1 0 = nI (a 0) from hC.2.1.1]
    have my : ∀ {Q' : Int32 → St → Prop} {S' : St}, Q' 1 S' → f_X11_in G (nI x).toInt64 0 1000000 Q' S' := fun h => m_in_y (l := 0) (h := 1000000) (by omega) rfl rfl (by omega) hx h
    have mn' : ∀ {Q' : Int32 → St → Prop} {S' : St}, Q' 1 S' → f_X11_in G (nI n).toInt64 1 60 Q' S' := fun h => m_in_y (l := 1) (h := 60) (by omega) rfl rfl hn.1 hn.2 h
    by_cases h0 : a 0 = 0
    · refine ite_y (by rw [h0]; rfl) (C_refuse (n := 3) hC (by omega) (by omega) (fun S1 hC1 o1 => nm_e ?_))
      have hR1 := (hR.offR o1).th
      refine my (ite_n (by decide) (mn' (ite_n (by decide) (ex_y hR1.1.1.row ⟨inrow (n := 0) hR1.1.1 (by omega), ite_y ?_ ?_⟩))))
      · rw [show (uI S1 87 0 0).1 90 ((0 : Int32).toNatClampNeg) = nI (a 0) from hR1.1.2.1.1, h0]; rfl
      · exact M_tell_n (n := 3) hR1 (by omega) (by omega) (fun S3 hR3 o3 => ⟨rfl, k S3 (inv hV (hC1.th.offC o3) hR3)⟩)
    · refine ite_n (by rw [lit, eqI (by omega) (by omega)]; exact h0) (ex_y hC.1.r0_1 (ex_y hC.1.r0_0 ?_))
      refine c_copyFrom hC.1.p9 hC.1.p1 hC.2.1 (by omega) (fun S1 ⟨s1, s2, s3, s4, s5⟩ hP1 => ?_)
      have hL1 : LwD G S1 9 a L := hC.2.2.1.cp hV.1.2.2.1 (fun i h1 _ => s2 i (by omega)) (fun i h1 _ => s3 i (by omega)) (s3 17 (by omega)) s4 (fun j hj t ht => by
        obtain ⟨t', w1, w2, _⟩ := hC.2.2.1.1 j hj
        rw [ht] at w1; cases w1; omega)
      have hC1 := hC.mon (b := a) hV.1 hV.2.1 (fun i _ h1 => s2 i (by omega)) (fun i h1 _ => s3 i (by omega)) hP1
      have hD1 : Dd G S1 24 9 := ⟨hC1.1.p9, hC1.1.j25, hC1.1.r24_0, hC1.1.r24_1, hC1.1.l29, by omega, by omega⟩
      refine ex_y hC1.1.r0_5 (ex_y hC1.1.r0_1 (c_drawDays hD1 hP1 hV.1 hL1.1 (by omega) (by omega) (by omega) (fun S2 b c he f2 hP2 hVb hk hc => ?_)))
      have hC2 : Cls G S2 a L I un u T tn fl b := hC1.mon hV.1 hV.2.1 (fun i hi h1 => (f2.2 i (by unfold XD; unfold rlC at hi; omega)).1) (fun i _ _ => by rw [f2.1]) hP2
      refine C_accept hC2 (fun S3 hC3 o3 => nm_e ?_)
      have oR : OffR S S3 := (OffR.trans (fun i h1 h2 => ⟨s2 i (by omega), by rw [s1], s3 i (by omega)⟩) (Fr.offR f2 (by intro i hi; unfold XD at hi; omega))).trans o3
      have hR3 := (hR.offR oR).th
      refine my (ite_n (by decide) (mn' (ite_n (by decide) (ex_y hR3.1.1.row ⟨inrow (n := 0) hR3.1.1 (by omega), ite_n ?_ ?_⟩))))
      · rw [show (uI S3 87 0 0).1 90 ((0 : Int32).toNatClampNeg) = nI (a 0) from hR3.1.2.1.1, lit, eqI (by omega) (by omega)]; exact h0
      refine m_keepAll (r := 16) hR3.1.1 (by omega) (fun S4 f1 f3 f4 => nm_e ?_)
      have hR4 : Ref G S4 a L I un u T tn fl m := by
        refine hR3.unr ⟨by rw [f3 87 (by omega)]; exact hR3.2.2.1.1, fun q hq => ?_⟩ f1 (fun i _ h2 _ => f3 i h2) (fun q _ => by rw [f3 87 (by omega)])
        obtain ⟨w1, w2⟩ := hR3.2.2.1.2 q hq
        have hu := hV.2.2.1
        refine ⟨by rw [f3 94 (by omega)]; exact w1, w2.ag (fun i hi => ?_)⟩
        rw [f4, if_neg (by omega)]
      have s16 : SnR (fun i => S4.1 93 (928 + i)) a := hR3.1.2.1.sn.ag (fun i hi => by rw [f4, if_pos (by omega), show 928 + i - 58 * 16 = i from by omega])
      have o4 : OffC (uI S3 87 0 0) (uJ S4 87 57 (nI x).toInt64) := OffC.uJ ⟨by rw [f1], fun i hi => ⟨f3 i (by omega), by rw [f1]⟩⟩ (by omega) (by omega)
      refine M_drawDays (a := a) (x := x) hV.1 (by omega) (by omega) (by omega) (by rw [uJ_s, if_pos rfl, nI_l (by omega)]) hR4.u57 (fun S5 b' c' he' hR5 f5 hVb' hk' hc' => ?_)
      rw [← he] at he'
      cases he'
      refine M_monEnd hR5 hc hk (s16.ag (fun i hi => f5.2 (928 + i) (by omega))) (fun S6 hR6 o6 => ⟨rfl, k S6 (inv ⟨hV.1, hV.2.1, hV.2.2.1, hV.2.2.2.1, hV.2.2.2.2.1, hV.2.2.2.2.2.1, hVb.1, fun i hi => hVb.sin hi, fun i hi => hVb.gl hi⟩ (((hC3.th.offC o4).offC f5.1).offC o6) hR6)⟩)
  · have cl := bad hg
    refine ite_c (fun _ => cl) (fun c0 => ite_c (fun _ => cl) (fun c1 => ite_c (fun _ => cl) (fun c2 => ite_n (fun c3 => ?_) cl)))
    rw [i32_lt] at c0 c1 c2
    rw [i32_le] at c3
    exact hg ⟨⟨by omega, by omega⟩, by omega, by omega⟩
end
