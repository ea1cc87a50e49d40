-- needs: 356
/-! sin, grind, swap, cloth, pass, undo. -/
section
variable {G : Gm} {S S' : St} {a m : Rw} {L : Nat → Lw} {I : Im} {un tn : Nat} {u : Un} {T : Nat → Nat} {fl : Nat → Int32} {Q : Int32 → St → Prop} {K : Gm → St → Prop}
theorem nn0 {n : Nat} (h : n < 2147483648) : (0 : Int32) ≤ nI n := by
  rw [lit, leI (by omega) h]; omega
theorem actA_n {lo : Option Lw} {v : Nat} {j k y : Int32} {n : Nat} (h : actA lo a v j k y = .inl n) : 1 ≤ n ∧ n ≤ 3 := by
  unfold actA at h
  repeat' split at h
  all_goals first | (cases h; omega) | (cases h)
theorem Cls.act {b : Rw} {un' : Nat} {u' : Un} (h : Cls G S a L I un u T tn fl m) (f : Fr (XA 24 1 18) S S') (hP : ParC S' 1 b) (hT : TrlC S' 18 un' u') (h2 : b 2 = a 2) : Cls G S' b L I un' u' T tn fl m := by
  obtain ⟨h1, h2', h3, h4, h5, h6, h7, h8, h9⟩ := h
  have e : ∀ i, i ≠ 2 → i ≠ 3 → i ≠ 5 → i ≠ 26 → i ≠ 28 → i ≠ 29 → i ≠ 18 → i ≠ 19 → S'.1 i = S.1 i := fun i _ _ _ _ _ _ _ _ => (f.2 i (by unfold XA XD; omega)).1
  refine ⟨by rw [f.1]; exact h1, hP, (h3.ag (fun i _ => e i (by omega) (by omega) (by omega) (by omega) (by omega) (by omega) (by omega) (by omega)) f.1).eqa h2, h4.ag (e _ (by omega) (by omega) (by omega) (by omega) (by omega) (by omega) (by omega) (by omega)) (e _ (by omega) (by omega) (by omega) (by omega) (by omega) (by omega) (by omega) (by omega)) (e _ (by omega) (by omega) (by omega) (by omega) (by omega) (by omega) (by omega) (by omega)), h5.ag (fun i _ => e i (by omega) (by omega) (by omega) (by omega) (by omega) (by omega) (by omega) (by omega)) f.1, hT, h7.ag (by rw [e 75 (by omega) (by omega) (by omega) (by omega) (by omega) (by omega) (by omega) (by omega)]) (e _ (by omega) (by omega) (by omega) (by omega) (by omega) (by omega) (by omega) (by omega)), h8.ag (e _ (by omega) (by omega) (by omega) (by omega) (by omega) (by omega) (by omega) (by omega)) (by rw [e 75 (by omega) (by omega) (by omega) (by omega) (by omega) (by omega) (by omega) (by omega)]) (e _ (by omega) (by omega) (by omega) (by omega) (by omega) (by omega) (by omega) (by omega)), h9.ag (fun i _ _ => e i (by omega) (by omega) (by omega) (by omega) (by omega) (by omega) (by omega) (by omega))⟩
theorem ShC.d24 (h : ShC G S.2.2) : Dd G S 24 1 := ⟨h.p1, h.j25, h.r24_0, h.r24_1, h.l29, by omega, by omega⟩
theorem C_act {v : Nat} {j k y : Int32} (hC : Cls G S a L I un u T tn fl m) (hV : Va a) (hu : un ≤ 16) (hv : v ≤ 4)
    (h1 : ∀ n, actA (frc a L) a v j k y = .inl n → ∀ S', Cls G S' a L I un u T tn (flN fl n) m → OffR S S' → Q (-(nI n)) S')
    (h2 : ∀ r b, actA (frc a L) a v j k y = .inr (r, b) → ∀ S', Cls G S' b L I (min 16 (un + 1)) (psh (v, a) u) T tn (flA fl) m → OffR S S' → Q (nI r) S') : f_X1_act G 24 1 18 (nI v) j k y (fun r5 S4 => f_X10_judged G 0 r5 (fun r7 S6 => Q r7 S6) S4) S := by
  refine c_act hC.1.d24 hC.2.1 hV hC.2.2.1.1 hC.2.2.2.2.2.1 hu hC.1.r18_0 hC.1.l19 (by omega) (by omega) hv (fun n hn S1 f1 => ?_) (fun r b hb S1 f1 hP hT => ?_)
  · have hn3 := actA_n hn
    have hC1 := hC.fr f1 (by intro i hi; unfold rlC; omega)
    refine ite_n (neg_n hn3.1 (by omega)).1 (C_refuse hC1 hn3.1 (by omega) (fun S2 hC2 o2 => h1 n hn S2 hC2 ((Fr.offR f1 (by intro i hi; omega)).trans o2)))
  · obtain ⟨_, hr, he⟩ := actA_ok hV hb
    have hC1 := hC.act f1 hP hT (he 2 (by omega))
    refine ite_y (nn0 (by omega)) (C_accept hC1 (fun S2 hC2 o2 => h2 r b hb S2 hC2 ((Fr.offR f1 (by intro i hi; unfold XA XD at hi; omega)).trans o2)))
theorem Vld.act {v : Nat} {j k y : Int32} {r : Nat} {b : Rw} {lo : Option Lw} (h : Vld a I un u T tn m) (hv : v ≤ 4) (hb : actA lo a v j k y = .inr (r, b)) : Vld b I (min 16 (un + 1)) (psh (v, a) u) T tn m := by
  obtain ⟨hVb, hr, he⟩ := actA_ok h.1 hb
  refine ⟨hVb, h.2.1, by omega, fun q hq => ?_, h.2.2.2.2⟩
  unfold VaU
  rw [he 0 (by omega), he 5 (by omega), he 6 (by omega), he 7 (by omega)]
  unfold psh
  by_cases h0 : q = 0
  · rw [if_pos h0]; exact ⟨h.1, hv, rfl, rfl, rfl, rfl⟩
  · rw [if_neg h0]; exact h.2.2.2.1 (q - 1) (by omega)
/-- both do a deed -/
theorem both {v : Nat} {j k y : Int32} (hv : v ≤ 4) (h : Inv G S) (kk : ∀ S', Inv G S' → K G S') (F : (Int32 → St → Prop) → St → Prop)
    (hF : ∀ {Q : Int32 → St → Prop} {S : St} {a m : Rw} {L : Nat → Lw} {I : Im} {un tn : Nat} {u : Un} {T : Nat → Nat} {fl : Nat → Int32}, Ref G S a L I un u T tn fl m → Va a → un ≤ 16 → (∀ n, actA (frc a L) a v j k y = .inl n → ∀ S', Ref G S' a L I un u T tn fl m → FrA S S' → Q (-(nI n)) S') → (∀ r b, actA (frc a L) a v j k y = .inr (r, b) → ∀ S', Ref G S' b L I (min 16 (un + 1)) (psh (v, a) u) T tn fl m → FrA S S' → Q (nI r) S') → F Q S) :
    (∃ a1, S.2.2 0 5 = some a1 ∧ (∃ a2, S.2.2 0 0 = some a2 ∧ (∃ a3, S.2.2 0 3 = some a3 ∧ f_X1_act G a1 a2 a3 (nI v) j k y (fun r5 S4 => f_X10_judged G 0 r5 (fun r7 S6 => (∀ S1, S1 = uI S6 87 0 0 → F (fun r3 S2 => f_X11_tell G 87 r3 (fun r2 S4 => r7 = r2 ∧ K G S4) S2) S1)) S4) S))) := by
  obtain ⟨a, L, I, un, u, T, tn, fl, m, hV, hC, hR⟩ := h
  refine ex_y hC.1.r0_5 (ex_y hC.1.r0_0 (ex_y hC.1.r0_3 (C_act hC hV.1 hV.2.2.1 hv (fun n hn S1 hC1 o1 => nm_e ?_) (fun r b hb S1 hC1 o1 => nm_e ?_))))
  · have hR1 := (hR.offR o1).th
    refine hF hR1 hV.1 hV.2.2.1 (fun n' hn' S2 hR2 o2 => ?_) (fun r b hb => by rw [hn] at hb; cases hb)
    rw [hn] at hn'
    cases hn'
    have hn3 := actA_n hn
    exact M_tell_n hR2 hn3.1 (by omega) (fun S3 hR3 o3 => ⟨rfl, kk S3 (inv hV ((hC1.th.offC o2.offC).offC o3) hR3)⟩)
  · have hR1 := (hR.offR o1).th
    refine hF hR1 hV.1 hV.2.2.1 (fun n' hn' => by rw [hb] at hn'; cases hn') (fun r' b' hb' S2 hR2 o2 => ?_)
    rw [hb] at hb'
    cases hb'
    have hok := actA_ok hV.1 hb
    exact M_tell_y hR2 (nn0 (by omega)) (fun S3 hR3 o3 => ⟨rfl, kk S3 (inv (hV.act hv hb) ((hC1.th.offC o2.offC).offC o3) hR3)⟩)
theorem R_16 {v w y : Int32} (h : Inv G S) (k : ∀ S', Inv G S' → K G S') : f_X10_sin G 0 v w y (fun r S1 => f_X11_sin G 87 v w y (fun r2 S2 => r = r2 ∧ K G S2) S1) S :=
  both (v := 0) (by omega) h k (fun Q S => f_X11_sinNow G 87 v w y Q S) (fun hR hV hu h1 h2 => m_sinNow hR hV hu (fun n hn => h1 n hn _ hR (FrA.refl _)) h2)
theorem R_17 {v : Int32} (h : Inv G S) (k : ∀ S', Inv G S' → K G S') : f_X10_grind G 0 v (fun r S1 => f_X11_grind G 87 v (fun r2 S2 => r = r2 ∧ K G S2) S1) S :=
  both (v := 1) (by omega) h k (fun Q S => f_X11_grindNow G 87 v Q S) (fun hR hV hu h1 h2 => m_grindNow hR hV hu h1 h2)
theorem R_18 {v w : Int32} (h : Inv G S) (k : ∀ S', Inv G S' → K G S') : f_X10_swap G 0 v w (fun r S1 => f_X11_swap G 87 v w (fun r2 S2 => r = r2 ∧ K G S2) S1) S :=
  both (v := 2) (by omega) h k (fun Q S => f_X11_swapNow G 87 v w Q S) (fun hR hV hu h1 h2 => m_swapNow hR hV hu (fun n hn => h1 n hn _ hR (FrA.refl _)) h2)
theorem R_19 {v : Int32} (h : Inv G S) (k : ∀ S', Inv G S' → K G S') : f_X10_cloth G 0 v (fun r S1 => f_X11_cloth G 87 v (fun r2 S2 => r = r2 ∧ K G S2) S1) S :=
  both (v := 3) (by omega) h k (fun Q S => f_X11_clothNow G 87 v Q S) (fun hR hV hu h1 h2 => m_clothNow hR hV hu (fun n hn => h1 n hn _ hR (FrA.refl _)) h2)
theorem R_20 (h : Inv G S) (k : ∀ S', Inv G S' → K G S') : f_X10_pass G 0 (fun r S1 => f_X11_pass G 87 (fun r2 S2 => r = r2 ∧ K G S2) S1) S :=
  both (v := 4) (by omega) h k (fun Q S => f_X11_passNow G 87 Q S) (fun hR hV hu h1 h2 => m_passNow hR hV hu (fun n hn => h1 n hn _ hR (FrA.refl _)) h2)
/-- undo -/
theorem Va.bk {x : Rw} (hV : Va a) (hx : Va x) : Va (bk a x) := by
  obtain ⟨h0, h1, h2, h3, h4, h5, h6, h7, h8, h9, h10, h11, h12, h13⟩ := hV
  refine ⟨?_, ?_, ?_, ?_, ?_, ?_, ?_, ?_, fun k hk => ?_, fun k hk => ?_, fun k hk => ?_, fun k hk => ?_, fun k hk => ?_, fun k hk => ?_⟩
  · rw [bk_n (by omega)]; exact h0
  · rw [bk_n (by omega)]; exact h1
  · rw [bk_n (by omega)]; exact h2
  · rw [bk_n (by omega), bk_n (by omega)]; exact h3
  · rw [bk_y (by omega)]; exact hx.2.2.2.2.1
  · rw [bk_n (by omega)]; exact h5
  · rw [bk_n (by omega)]; exact h6
  · rw [bk_n (by omega)]; exact h7
  · rw [bk_y (by omega)]; exact hx.sin hk
  · rw [bk_y (by omega)]; exact hx.gl hk
  · rw [bk_n (by omega)]; exact h10 k hk
  · rw [bk_n (by omega)]; exact h11 k hk
  · rw [bk_n (by omega)]; exact h12 k hk
  · rw [bk_n (by omega)] at hk; rw [bk_n (by omega), bk_n (by omega)]; exact h13 k hk
theorem Ref.put {x : Rw} (h : Ref G S a L I un u T tn fl m) (hx : SnR (fun i => S'.1 90 (4 + i)) x) (x5 : x 5 = a 5) (x6 : x 6 = a 6) (x7 : x 7 = a 7) (h1 : S'.2 = S.2) (h2 : ∀ i, i ≠ 90 → S'.1 i = S.1 i) (h3 : ∀ i, ¬ (4 ≤ i ∧ i < 62) → S'.1 90 i = S.1 90 i) : Ref G S' (bk a x) L I un u T tn fl m := by
  refine h.row1 ?_ (bk_n (by omega)) (fun i hi => h3 i (by omega)) h2 h1
  obtain ⟨g0, g1, g2, g3, g4, g5, g6, g7, g8, g9, g10⟩ := h.1.2.1
  obtain ⟨q1, q2, q3, q4⟩ := hx
  refine ⟨?_, ?_, ?_, ?_, fun k hk => ?_, fun k hk => ?_, fun k hk => ?_, fun j hj k hk => ?_, fun k hk => ?_, fun k hk => ?_, fun k hk => ?_⟩
  · rw [h3 _ (by omega), bk_n (by omega)]; exact g0
  · rw [h3 _ (by omega), bk_n (by omega)]; exact g1
  · rw [h3 _ (by omega), bk_n (by omega)]; exact g2
  · rw [h3 _ (by omega), bk_n (by omega)]; exact g3
  · rw [show S'.1 90 (4 + k) = nI (x (4 + k)) from q1 k hk]
    rcases lt4 hk with rfl | rfl | rfl | rfl
    · rw [bk_y (by omega)]
    · rw [bk_n (by omega), show x (4 + 1) = a 5 from x5]
    · rw [bk_n (by omega), show x (4 + 2) = a 6 from x6]
    · rw [bk_n (by omega), show x (4 + 3) = a 7 from x7]
  · rw [bk_y (by omega), show 8 + k = 4 + (4 + k) from by omega, show S'.1 90 (4 + (4 + k)) = nI (x (8 + k)) from q2 k hk, show 4 + (4 + k) = 8 + k from by omega]
  · rw [bk_y (by omega), show 32 + 5 * k = 4 + (28 + 5 * k) from by omega]; exact q3 k hk
  · rw [bk_y (by omega), show 33 + 5 * j + k = 4 + (29 + 5 * j + k) from by omega]; exact q4 j hj k hk
  · rw [h3 _ (by omega), bk_n (by omega)]; exact g8 k hk
  · rw [h3 _ (by omega), bk_n (by omega)]; exact g9 k hk
  · rw [h3 _ (by omega), bk_n (by omega)]; exact g10 k hk
theorem R_21 (h : Inv G S) (k : ∀ S', Inv G S' → K G S') : f_X10_undo G 0 (fun r S1 => f_X11_undo G 87 (fun r2 S2 => r = r2 ∧ K G S2) S1) S := by
  obtain ⟨a, L, I, un, u, T, tn, fl, m, hV, hC, hR⟩ := h
  have hu := hV.2.2.1
  have t2 : S.1 18 2 = nI un := hC.2.2.2.2.2.1.1
  refine ex_y hC.1.r0_3 ?_
  rw [t2]
  by_cases h0 : un = 0
  · refine ite_y (by rw [h0]; rfl) (C_refuse (n := 3) hC (by omega) (by omega) (fun S1 hC1 o1 => nm_e ?_))
    have hR1 := (hR.offR o1).th
    rw [hR1.2.2.1.1]
    exact ite_y (by rw [h0]; rfl) (M_tell_n (n := 3) hR1 (by omega) (by omega) (fun S3 hR3 o3 => ⟨rfl, k S3 (inv hV (hC1.th.offC o3) hR3)⟩))
  · refine ite_n (by rw [lit, eqI (by omega) (by omega)]; exact h0) (ex_y hC.1.r0_3 (ex_y hC.1.r0_0 ?_))
    obtain ⟨v1, v2, v3, v4, v5, v6⟩ := hV.2.2.2.1 0 (by omega)
    refine c_goBack hC.1.p1 hC.2.1 hC.2.2.2.2.2.1 hu h0 hC.1.r18_0 hC.1.l19 (by omega) (fun S1 f1 hP1 hT1 => ?_)
    have hC1 := hC.act (b := bk a (u 0).2) (f1.mono (fun i hi => by unfold XA XD; omega)) hP1 hT1 (bk_n (by omega))
    refine C_accept hC1 (fun S2 hC2 o2 => nm_e ?_)
    have o12 : OffR S S2 := (Fr.offR f1 (by intro i hi; omega)).trans o2
    have hR1 := (hR.offR o12).th
    obtain ⟨u1, u2⟩ := hR1.2.2.1
    rw [u1]
    refine ite_n (by rw [lit, eqI (by omega) (by omega)]; exact h0) (nm_e ?_)
    rw [show ((1 : Int32)) = nI 1 from rfl, sbI (by omega)]
    have hR2 : Ref G (uI (uI S2 87 0 0) 87 9 (nI (un - 1))) a L I (un - 1) (fun q => u (q + 1)) T tn fl m := by
      refine hR1.unr ⟨by rw [uI_s, if_pos rfl], fun q hq => ?_⟩ rfl (fun i e1 _ _ => uI_n _ _ _ _ e1) (fun q hq => by rw [uI_s, if_neg hq])
      obtain ⟨w1, w2⟩ := u2 (q + 1) (by omega)
      rw [show un - 1 - 1 - q = un - 1 - (q + 1) from by omega, uI_n _ _ _ _ (show (94 : Nat) ≠ 87 by omega), uI_n _ _ _ _ (show (93 : Nat) ≠ 87 by omega)]
      exact ⟨w1, w2⟩
    obtain ⟨w1, w2⟩ := u2 0 (by omega)
    have c9 : (uI (uI S2 87 0 0) 87 9 (nI (un - 1))).1 87 9 = nI (un - 1) := by rw [uI_s, if_pos rfl]
    have w1' : (uI (uI S2 87 0 0) 87 9 (nI (un - 1))).1 94 (un - 1) = nI (u 0).1 := by rw [uI_n _ _ _ _ (by omega)]; exact w1
    have w2' : SnR (fun i => (uI (uI S2 87 0 0) 87 9 (nI (un - 1))).1 93 (58 * (un - 1) + i)) (u 0).2 := by rw [uI_n _ _ _ _ (by omega)]; exact w2
    have oC : OffC (uI S2 87 0 0) (uI (uI S2 87 0 0) 87 9 (nI (un - 1))) := (OffC.refl _).uI (by omega) (by omega)
    generalize uI (uI S2 87 0 0) 87 9 (nI (un - 1)) = S3 at hR2 c9 w1' w2' oC ⊢
    rw [c9]
    refine m_putBack hR2.1.1 (by omega) (fun S4 e1 e2 e3 => ?_)
    have c9' : S4.1 87 9 = nI (un - 1) := by rw [e2 87 (by omega)]; exact c9
    have hS := hR2.1.1
    refine ex_y (by rw [e1]; exact hS.sorts) ?_
    rw [c9', clI (by omega), hS.sorts_l, in_iff (by omega), e2 94 (by omega), w1']
    refine ⟨by omega, ?_⟩
    have hR4 : Ref G S4 (bk a (u 0).2) L I (un - 1) (fun q => u (q + 1)) T tn fl m := by
      refine hR2.put (w2'.ag (fun i hi => ?_)) v4 v5 v6 e1 e2 (fun i hi => by rw [e3, if_neg hi])
      rw [e3, if_pos (by omega), show 4 + i - 4 = i from by omega]
    refine M_tell_y hR4 (nn0 (by omega)) (fun S5 hR5 o5 => ⟨rfl, k S5 (inv ⟨hV.1.bk v1, hV.2.1, by omega, fun q hq => ?_, hV.2.2.2.2⟩ ((hC2.th.offC oC).offC ((OffC.of1 e1 e2).trans o5)) hR5)⟩)
    obtain ⟨x1, x2, x3, x4, x5, x6⟩ := hV.2.2.2.1 (q + 1) (by omega)
    exact ⟨x1, x2, by rw [bk_n (by omega)]; exact x3, by rw [bk_n (by omega)]; exact x4, by rw [bk_n (by omega)]; exact x5, by rw [bk_n (by omega)]; exact x6⟩
end
