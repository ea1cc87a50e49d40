-- needs: 364
/-! back. -/
section
variable {G : Gm} {S S' : St} {p r : Nat} {a b m : Rw} {L M : Nat → Lw} {I : Im} {un tn : Nat} {u : Un} {T : Nat → Nat} {fl : Nat → Int32} {Q : Int32 → St → Prop} {K : Gm → St → Prop}
theorem LwD.cp (h : LwD G S r a L) (h6 : a 2 ≤ 6) (hM : ∀ i, 121 ≤ i → (i < p ∨ p + 7 < i) → S'.1 i = S.1 i) (hR : ∀ i, 121 ≤ i → (i < p ∨ p + 7 < i) → S'.2.2 i = S.2.2 i) (h17 : S'.2.2 17 = S.2.2 17) (e : ∀ k, k < 6 → S'.2.2 (p + 7) k = S.2.2 (r + 7) k) (hd : ∀ k, k < a 2 → ∀ t, S.2.2 (r + 7) k = some t → t + 5 < p ∨ p + 7 < t) : LwD G S' p a L := by
  refine ⟨fun k hk => ?_, fun k hk t ht => ?_⟩
  · obtain ⟨t, t1, t2, t3⟩ := h.1 k hk
    have d := hd k hk t t1
    exact ⟨t, by rw [e k (by omega)]; exact t1, t2, t3.fr (fun i h1 h2 => hM i (by omega) (by omega)) (hR t t2 (by omega))⟩
  · rw [e k (by omega)] at ht
    have := h.2 k hk t ht
    unfold Dj at this ⊢
    rw [h17]; exact this
theorem ImgC.agR (h : ImgC G S I) (hM : ∀ i, 121 ≤ i → S'.1 i = S.1 i) (hR : ∀ i, 121 ≤ i → S'.2.2 i = S.2.2 i) (h17 : S'.2.2 17 = S.2.2 17) (hV : ∀ k b M, I k = some (b, M) → Va b) : ImgC G S' I := by
  obtain ⟨h1, h2, h3⟩ := h
  refine ⟨fun k hk => ?_, by rw [h17]; exact h2, by rw [h17]; exact h3⟩
  rcases h1 k hk with ⟨e1, e2⟩ | ⟨q, b, M, e1, e2, e3, e4, e5, e6, e7, e8⟩
  · exact .inl ⟨e1, by rw [h17]; exact e2⟩
  · refine .inr ⟨q, b, M, e1, by rw [h17]; exact e2, e3, e4, e5, ?_, e7.ag (fun i h _ => hM i (by omega)), e8.cp (hV k b M e1).2.2.1 (fun i h _ => hM i h) (fun i h _ => hR i h) h17 (fun j _ => by rw [hR _ (by omega)]) (fun j hj t ht => ?_)⟩
    · unfold PSh; rw [hR q e3]; exact e6
    · have := e8.2 j hj t ht k q e2; omega
/-- the class with another parish, its laws' row written -/
theorem Cls.put (h : Cls G S a L I un u T tn fl m) (hI : ∀ k b M, I k = some (b, M) → Va b) (hM : ∀ i, rlC i → ¬ (1 ≤ i ∧ i ≤ 7) → S'.1 i = S.1 i) (hR : ∀ i, i ≠ 8 → i ≠ 16 → i ≠ 38 → S'.2.2 i = S.2.2 i) (hP : ParC S' 1 b) (hL : LwD G S' 1 b M) : Cls G S' b M I un u T tn fl m := by
  obtain ⟨g1, g2, g3, g4, g5, g6, g7, g8, g9⟩ := h
  unfold rlC at hM
  exact ⟨g1.fr (fun i j _ h1 h2 _ h4 => by rw [hR i h1 h2 h4]) (fun _ _ => rfl) (Nat.le_refl _), hP, hL, g4.ag (hM _ (by omega) (by omega)) (hM _ (by omega) (by omega)) (hM _ (by omega) (by omega)), g5.agR (fun i hi => hM i (by omega) (by omega)) (fun i hi => hR i (by omega) (by omega) (by omega)) (hR 17 (by omega) (by omega) (by omega)) hI, g6.ag (hM _ (by omega) (by omega)) (hM _ (by omega) (by omega)), g7.ag (by rw [hM 75 (by omega) (by omega)]) (hM _ (by omega) (by omega)), g8.ag (hM _ (by omega) (by omega)) (by rw [hM 75 (by omega) (by omega)]) (hM _ (by omega) (by omega)), g9.ag (fun i _ _ => hM i (by omega) (by omega))⟩
theorem Ref.row90 (h : Ref G S a L I un u T tn fl m) (hr : RowR (S'.1 90) b) (hl : LwR (S'.1 90) b M) (hM : ∀ i, i ≠ 90 → S'.1 i = S.1 i) (hJ : S'.2 = S.2) : Ref G S' b M I un u T tn fl m := by
  obtain ⟨⟨h1, h2, h3, h4, h5⟩, h6, h7, h8, h9, h10, h11⟩ := h
  refine ⟨⟨by rw [hJ]; exact h1, hr, by rw [hM 89 (by omega)]; exact h3, hl, by rw [hM 87 (by omega)]; exact h5⟩, ?_, ?_, ?_, ?_, ?_, ?_⟩
  · unfold ImgR; rw [hM 92 (by omega), hM 91 (by omega)]; exact h6
  · unfold UnR; rw [hM 87 (by omega), hM 94 (by omega), hM 93 (by omega)]; exact h7
  · unfold TapR; rw [hM 87 (by omega), hM 97 (by omega)]; exact h8
  · unfold FlR; rw [hM 87 (by omega), hM 88 (by omega)]; exact h9
  · unfold MonR; rw [hM 87 (by omega), hM 120 (by omega)]; exact h10
  · unfold CoR; rw [hJ]; exact h11
theorem RowR.ag85 {f f' : Nat → Int32} (h : RowR f a) (e : ∀ i, i < 85 → f' i = f i) : RowR f' a := by
  obtain ⟨g0, g1, g2, g3, g4, g5, g6, g7, g8, g9, g10⟩ := h
  refine ⟨?_, ?_, ?_, ?_, fun k hk => ?_, fun k hk => ?_, fun k hk => ?_, fun j hj k hk => ?_, fun k hk => ?_, fun k hk => ?_, fun k hk => ?_⟩
  · rw [e _ (by omega)]; exact g0
  · rw [e _ (by omega)]; exact g1
  · rw [e _ (by omega)]; exact g2
  · rw [e _ (by omega)]; exact g3
  · rw [e _ (by omega)]; exact g4 k hk
  · rw [e _ (by omega)]; exact g5 k hk
  · rw [e _ (by omega)]; exact g6 k hk
  · rw [e _ (by omega)]; exact g7 j hj k hk
  · rw [e _ (by omega)]; exact g8 k hk
  · rw [e _ (by omega)]; exact g9 k hk
  · rw [e _ (by omega)]; exact g10 k hk
theorem LwR.ag54 {f f' : Nat → Int32} (h : LwR f a L) (h6 : a 2 ≤ 6) (e : ∀ i, i < 5485 → f' i = f i) : LwR f' a L := fun k hk => (h k hk).ag (fun i h1 h2 => e i (by omega))
theorem R_38 {v : Int32} (h : Inv G S) (k : ∀ S', Inv G S' → K G S') : f_X10_back G 0 v (fun r S1 => f_X11_back G 87 v (fun r2 S2 => r = r2 ∧ K G S2) S1) S := by
  obtain ⟨a, L, I, un, u, T, tn, fl, m, hV, hC, hR⟩ := h
  unfold f_X10_back
  rcases ar_c 2 (by omega) v with ⟨x, hx, rfl⟩ | hv
  · refine ite_n (by simp (disch := omega) only [lit, nI_add, pk_mul, leI, ltI, eqI]; omega) (ite_y (by simp (disch := omega) only [lit, nI_add, pk_mul, leI, ltI, eqI]; omega) (ex_y hC.1.r0_2 ⟨by rw [hC.1.l17, in_iff (by omega)]; exact hx, nm_e ?_⟩))
    rw [clI (by omega)]
    have ii := hC.2.2.2.2.1.1 x hx
    have jj := hR.2.1 x hx
    rcases ii with ⟨e1, e2⟩ | ⟨q, b, M, e1, e2, e3, e4, e5, e6, e7, e8⟩
    · rw [e2]
      refine ⟨fun a7 h => (by cases h), fun _ => C_refuse (n := 2) hC (by omega) (by omega) (fun S1 hC1 o1 => nm_e ?_)⟩
      have hR1 := (hR.offR o1).th
      refine m_in_y (l := 0) (h := 1) (by omega) rfl rfl (by omega) (by omega) (ite_n (by decide) (ex_y hR1.1.1.isKept ⟨by rw [hR1.1.1.isKept_l, in_iff (by omega)]; exact hx, ite_y ?_ ?_⟩))
      · rw [clI (by omega)]
        rcases hR1.2.1 x hx with ⟨_, w⟩ | ⟨b, M, w, _⟩
        · exact w
        · rw [e1] at w; cases w
      · exact M_tell_n (n := 2) hR1 (by omega) (by omega) (fun S3 hR3 o3 => ⟨rfl, k S3 (inv hV (hC1.th.offC o3) hR3)⟩)
    · rw [e2]
      refine ⟨fun a7 h => ?_, fun h => (by cases h)⟩
      cases h
      have vb := hV.2.1 x b M e1
      refine ex_y hC.1.r0_0 (c_copyFrom hC.1.p1 e6 e7 (by omega) (fun S1 ⟨s1, s2, s3, s4, s5⟩ hP1 => ?_))
      have hL1 : LwD G S1 1 b M := e8.cp vb.2.2.1 (fun i h1 _ => s2 i (by omega)) (fun i h1 _ => s3 i (by omega)) (s3 17 (by omega)) (fun j hj => s4 j hj) (fun j hj t ht => by
        obtain ⟨t', w1, w2, _⟩ := e8.1 j hj
        rw [ht] at w1; cases w1; omega)
      have hC1 : Cls G S1 b M I un u T tn fl m := hC.put hV.2.1 (fun i _ h1 => s2 i (by omega)) (fun i h1 _ _ => s3 i (by omega)) hP1 hL1
      have oR1 : OffR S S1 := fun i h1 h2 => ⟨s2 i (by omega), by rw [s1], s3 i (by omega)⟩
      refine ex_y hC1.1.r0_3 (C_empty hC1 (fun S2 hC2 o2 => C_accept hC2 (fun S3 hC3 o3 => nm_e ?_)))
      have hR1 := (hR.offR ((oR1.trans o2).trans o3)).th
      have hS := hR1.1.1
      rcases hR1.2.1 x hx with ⟨w, _⟩ | ⟨b', M', w, w1, w2, w3⟩
      · rw [e1] at w; cases w
      rw [e1] at w
      cases w
      refine m_in_y (l := 0) (h := 1) (by omega) rfl rfl (by omega) (by omega) (ite_n (by decide) (ex_y hS.isKept ⟨by rw [hS.isKept_l, in_iff (by omega)]; exact hx, ite_n ?_ ?_⟩))
      · rw [clI (by omega), w1]; decide
      have st : ∀ (n i : Nat) (S4 : St), n + i = 5485 → S4.2 = (uI S3 87 0 0).2 → (∀ i, i ≠ 90 → S4.1 i = (uI S3 87 0 0).1 i) → (∀ j, j < i → S4.1 90 j = (uI S3 87 0 0).1 91 (5485 * x + j)) → f_X11_back_39_n G 87 (nI x) (fun r2 S2 => (0 : Int32) = r2 ∧ K G S2) (n + 1) (nI i) S4 := by
        intro n
        induction n with
        | zero =>
          intro i S4 hi f1 f2 f3
          have hi : i = 5485 := by omega
          subst hi
          rw [f_X11_back_39_n]
          have hR4 : Ref G S4 b M I un u T tn fl m := hR1.row90 (w2.ag85 (fun j hj => f3 j (by omega))) (w3.ag54 vb.2.2.1 (fun j hj => f3 j (by omega))) f2 f1
          exact ite_y (by simp (disch := omega) only [lit, nI_add, pk_mul, leI, ltI, eqI]; omega) (M_settled_y hR4 (by decide) (fun S5 hR5 o5 => ⟨rfl, k S5 (inv (hV.set0 vb) (hC3.th.offC ((OffC.of1 f1 f2).trans o5)) hR5)⟩))
        | succ n ih =>
          intro i S4 hi f1 f2 f3
          rw [f_X11_back_39_n]
          refine ite_n (by simp (disch := omega) only [lit, nI_add, pk_mul, leI, ltI, eqI]; omega) (ex_y (by rw [f1]; exact hS.row) (ex_y (by rw [f1]; exact hS.images) ?_))
          simp (disch := omega) only [show (5485 : Int32) = nI 5485 from rfl, nI_1, nI_add, pk_mul, clI, in_iff]
          rw [hS.images_l, hS.row_l]
          refine ⟨by omega, by omega, nm_e (ih (i + 1) _ (by omega) f1 (fun j hj => by rw [uI_n _ _ _ _ hj]; exact f2 j hj) (fun j hj => ?_))⟩
          rw [uI_s, f2 91 (by omega)]
          by_cases e : j = i
          · rw [if_pos e, e]
          · rw [if_neg e]; exact f3 j (by omega)
      exact ⟨5486, st 5485 0 _ (by omega) rfl (fun _ _ => rfl) (fun j hj => absurd hj (by omega))⟩
  · have cl : f_X10_back_9 G 0 (fun r S1 => f_X11_back G 87 v (fun r2 S2 => r = r2 ∧ K G S2) S1) S := by
      refine C_refuse (n := 1) hC (by omega) (by omega) (fun S1 hC1 o1 => nm_e ?_)
      have hR1 := (hR.offR o1).th
      exact m_in_n (n := 2) (by omega) rfl rfl hv (ite_y rfl (M_tell_n (n := 1) hR1 (by omega) (by omega) (fun S3 hR3 o3 => ⟨rfl, k S3 (inv hV (hC1.th.offC o3) hR3)⟩)))
    refine ite_c (fun _ => cl) (fun h0 => ite_n (fun h1 => ?_) cl)
    rcases hv with hv | hv
    · exact h0 hv
    · rw [i32_le] at hv; rw [i32_lt] at h1
      rw [nI_toInt (by omega)] at hv
      have : (2 : Int32).toInt = 2 := rfl
      omega
end
