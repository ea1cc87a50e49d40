-- needs: 359
/-! end, feed, glass. -/
section
variable {G : Gm} {S S' : St} {a m : Rw} {L : Nat → Lw} {I : Im} {un tn tn' : Nat} {u : Un} {T T' : Nat → Nat} {fl : Nat → Int32} {Q : Int32 → St → Prop} {K : Gm → St → Prop} {Z : St → Prop}
theorem Cls.tap (h : Cls G S a L I un u T tn fl m) (hT : TapC S' T' tn') (h2 : S'.2 = S.2) (e : ∀ i, i ≠ 75 → i ≠ 76 → S'.1 i = S.1 i) (e9 : S'.1 75 9 = S.1 75 9) : Cls G S' a L I un u T' tn' fl m := by
  obtain ⟨g1, g2, g3, g4, g5, g6, g7, g8, g9⟩ := h
  exact ⟨by rw [h2]; exact g1, g2.ag (fun i _ _ => e i (by omega) (by omega)), g3.ag (fun i _ => e i (by omega) (by omega)) (by rw [h2]), g4.ag (e _ (by omega) (by omega)) (e _ (by omega) (by omega)) (e _ (by omega) (by omega)), g5.ag (fun i _ => e i (by omega) (by omega)) (by rw [h2]), g6.ag (e _ (by omega) (by omega)) (e _ (by omega) (by omega)), hT, g8.ag (e _ (by omega) (by omega)) e9 (e _ (by omega) (by omega)), g9.ag (fun i _ _ => e i (by omega) (by omega))⟩
theorem Ref.tap (h : Ref G S a L I un u T tn fl m) (hT : TapR S' T' tn') (h2 : S'.2 = S.2) (e : ∀ i, i ≠ 87 → i ≠ 97 → S'.1 i = S.1 i) (p : ∀ k, k ≠ 14 → S'.1 87 k = S.1 87 k) : Ref G S' a L I un u T' tn' fl m := by
  obtain ⟨⟨h1, h2', h3, h4, h5⟩, h6, h7, h8, h9, h10, h11⟩ := h
  refine ⟨⟨by rw [h2]; exact h1, by rw [e 90 (by omega) (by omega)]; exact h2', by rw [e 89 (by omega) (by omega)]; exact h3, by rw [e 90 (by omega) (by omega)]; exact h4, by rw [p 21 (by omega)]; exact h5⟩, ?_, ?_, hT, ?_, ?_, ?_⟩
  · unfold ImgR; rw [e 92 (by omega) (by omega), e 91 (by omega) (by omega)]; exact h6
  · unfold UnR; rw [p 9 (by omega), e 94 (by omega) (by omega), e 93 (by omega) (by omega)]; exact h7
  · unfold FlR; rw [p 1 (by omega), p 12 (by omega), p 55 (by omega), p 19 (by omega), e 88 (by omega) (by omega)]; exact h9
  · unfold MonR; rw [p 59 (by omega), e 120 (by omega) (by omega)]; exact h10
  · unfold CoR; rw [h2]; exact h11
theorem Vld.tap (h : Vld a I un u T tn m) (h1 : tn' ≤ 400) (h2 : ∀ i, i < tn' → T' i ≤ 255) : Vld a I un u T' tn' m := ⟨h.1, h.2.1, h.2.2.1, h.2.2.2.1, h1, h2, h.2.2.2.2.2.2⟩
theorem R_8 {v : Int32} (h : Inv G S) (k : ∀ S', Inv G S' → K G S') : f_X10_end G 0 v (fun r S1 => f_X11_end G 87 v (fun r2 S2 => r = r2 ∧ K G S2) S1) S := by
  obtain ⟨a, L, I, un, u, T, tn, fl, m, hV, hC, hR⟩ := h
  have ht := hV.2.2.2.2.1
  have eC : S.1 75 1 = nI tn := hC.2.2.2.2.2.2.1.1
  have no : (v < 0 ∨ ¬ v ≤ nI tn) → ((-1 : Int32) = -1 ∧ K G (uI S 87 0 0)) ∧ f_X11_end G 87 v (fun r2 S2 => (-1 : Int32) = r2 ∧ K G S2) S := by
    intro hv
    have fin := k _ (inv hV hC.th hR.th)
    refine ⟨⟨rfl, fin⟩, nm_e ?_⟩
    refine ite_c (fun _ => ⟨rfl, fin⟩) (fun h0 => ite_n ?_ ⟨rfl, fin⟩)
    rw [hR.th.2.2.2.1.1]
    exact hv.resolve_left h0
  unfold f_X10_end
  by_cases h0 : v < 0
  · exact ite_y h0 (no (.inl h0)).2
  refine ite_n h0 (ex_y hC.1.r0_8 ?_)
  rw [eC]
  by_cases h1 : v ≤ nI tn
  · refine ite_y h1 (ex_y hC.1.r0_8 (nm_e ?_))
    obtain ⟨x, hx, rfl⟩ := (ar_c (tn + 1) (by omega) v).resolve_right (fun h => by
      rcases h with h | h
      · exact h0 h
      · rw [i32_le, nI_toInt (by omega)] at h h1; omega)
    have hC1 : Cls G (uI S 75 1 (nI x)) a L I un u T x fl m := hC.tap ⟨by rw [uI_s, if_pos rfl], fun i hi => by rw [uI_n _ _ _ _ (by omega)]; exact hC.2.2.2.2.2.2.1.2 i (by omega)⟩ rfl (fun i h1 _ => uI_n _ _ _ _ h1) (by rw [uI_s, if_neg (by omega)])
    have hR1 := (hR.offR ((OffR.refl S).uI (i := 75) (j := 1) (v := nI x) (by omega))).th
    refine nm_e (ite_n h0 ?_)
    rw [hR1.2.2.2.1.1]
    refine ite_y h1 (nm_e ⟨rfl, k _ (inv (hV.tap (tn' := x) (T' := T) (by omega) (fun i hi => hV.2.2.2.2.2.1 i (by omega))) (hC1.th.offC ((OffC.refl _).uI (by omega) (by omega))) (hR1.tap ⟨by rw [uI_s, if_pos rfl], fun i hi => by rw [uI_n _ _ _ _ (by omega)]; exact hR1.2.2.2.1.2 i (by omega)⟩ rfl (fun i h1 _ => uI_n _ _ _ _ h1) (fun q hq => by rw [uI_s, if_neg hq])))⟩)
  · exact ite_n h1 (no (.inr h1)).2
/-- bytes -/
def bt (x s : Int32) : Nat := ((x >>> (s &&& 31)) &&& 255).toNatClampNeg
theorem and255 (x : Int32) : ∃ k, k ≤ 255 ∧ x &&& 255 = nI k := by
  refine ⟨(x.toBitVec &&& 255#32).toNat, ?_, ?_⟩
  · rw [BitVec.toNat_and]; exact Nat.and_le_right
  · apply Int32.toBitVec_inj.mp
    show x.toBitVec &&& 255#32 = _
    show _ = BitVec.ofNat 32 (x.toBitVec &&& 255#32).toNat
    rw [BitVec.ofNat_toNat, BitVec.setWidth_eq]
theorem bt_e (x s : Int32) : (x >>> (s &&& 31)) &&& 255 = nI (bt x s) ∧ bt x s ≤ 255 := by
  obtain ⟨k, hk, e⟩ := and255 (x >>> (s &&& 31))
  unfold bt
  rw [e, clI (by omega)]
  exact ⟨rfl, hk⟩
def apT (T : Nat → Nat) (n k : Nat) : Nat → Nat := fun i => if i = n then k else T i
def four (T : Nat → Nat) (n : Nat) (x : Int32) : Nat → Nat := apT (apT (apT (apT T n (bt x 24)) (n + 1) (bt x 16)) (n + 2) (bt x 8)) (n + 3) (bt x 0)
theorem C_four {x : Int32} (hC : Cls G S a L I un u T tn fl m) (ht : tn + 4 ≤ 400) (z : ∀ S', Cls G S' a L I un u (four T tn x) (tn + 4) fl m → OffR S S' → Z S') : f_X6_addFour G 75 x Z S := by
  have st : ∀ {n : Nat} {T : Nat → Nat} {tn : Nat} {S1 : St} {s : Int32}, ¬ s < 0 → tn < 400 → Cls G S1 a L I un u T tn fl m → OffR S S1 → (∀ S2, Cls G S2 a L I un u (apT T tn (bt x s)) (tn + 1) fl m → OffR S S2 → f_X6_addFour_3_n G 75 x Z n (s + (-8)) S2) → f_X6_addFour_3_n G 75 x Z (n + 1) s S1 := by
    intro n T tn S1 s hs h4 hC1 o1 w
    have e1 : S1.1 75 1 = nI tn := hC1.2.2.2.2.2.2.1.1
    rw [f_X6_addFour_3_n, e1]
    refine ite_n hs (ite_n (by simp (disch := omega) only [lit, nI_add, pk_mul, leI, ltI, eqI]; omega) (ite_n (by simp (disch := omega) only [lit, nI_add, pk_mul, leI, ltI, eqI]; omega) (ex_y hC1.1.r75_0 ⟨by rw [hC1.1.l76, in_iff (by omega)]; exact h4, nm_e (nm_e ?_)⟩)))
    rw [clI (by omega), uI_n _ _ _ _ (by omega), e1, nI_1, (bt_e x s).1]
    refine w _ (hC1.tap ⟨by rw [uI_s, if_pos rfl], fun i hi => ?_⟩ rfl (fun i h1 h2 => by rw [uI_n _ _ _ _ h1, uI_n _ _ _ _ h2]) (by rw [uI_s, if_neg (by omega), uI_n _ _ _ _ (by omega)])) ((o1.uI (by omega)).uI (by omega))
    rw [uI_n _ _ _ _ (by omega), uI_s]
    unfold apT
    by_cases e : i = tn
    · rw [if_pos e, if_pos e]
    · rw [if_neg e, if_neg e]; exact hC1.2.2.2.2.2.2.1.2 i (by omega)
  refine ⟨5, st (s := 24) (by decide) (by omega) hC (OffR.refl S) (fun S1 h1 o1 => st (s := 16) (by decide) (by omega) h1 o1 (fun S2 h2 o2 => st (s := 8) (by decide) (by omega) h2 o2 (fun S3 h3 o3 => st (s := 0) (by decide) (by omega) h3 o3 (fun S4 h4 o4 => ?_))))⟩
  exact ite_y (by decide) (z S4 h4 o4)
theorem M_four {x : Int32} (hR : Ref G S a L I un u T tn fl m) (ht : tn + 4 ≤ 400) (z : ∀ S', Ref G S' a L I un u (four T tn x) (tn + 4) fl m → OffC S S' → Z S') : f_X11_four G 87 x Z S := by
  have st : ∀ {n : Nat} {T : Nat → Nat} {tn : Nat} {S1 : St} {s : Int32}, ¬ s < 0 → tn < 400 → Ref G S1 a L I un u T tn fl m → OffC S S1 → (∀ S2, Ref G S2 a L I un u (apT T tn (bt x s)) (tn + 1) fl m → OffC S S2 → f_X11_four_3_n G 87 x Z n (s + (-8)) S2) → f_X11_four_3_n G 87 x Z (n + 1) s S1 := by
    intro n T tn S1 s hs h4 hC1 o1 w
    have e1 : S1.1 87 14 = nI tn := hC1.2.2.2.1.1
    rw [f_X11_four_3_n, e1]
    refine ite_n hs (ex_y hC1.1.1.tape ⟨by rw [hC1.1.1.tape_l, in_iff (by omega)]; exact h4, nm_e (nm_e ?_)⟩)
    rw [clI (by omega), uI_n _ _ _ _ (by omega), e1, nI_1, (bt_e x s).1]
    refine w _ (hC1.tap ⟨by rw [uI_s, if_pos rfl], fun i hi => ?_⟩ rfl (fun i h1 h2 => by rw [uI_n _ _ _ _ h1, uI_n _ _ _ _ h2]) (fun q hq => by rw [uI_s, if_neg hq, uI_n _ _ _ _ (by omega)])) ((o1.uI (by omega) (by omega)).uI (by omega) (by omega))
    rw [uI_n _ _ _ _ (by omega), uI_s]
    unfold apT
    by_cases e : i = tn
    · rw [if_pos e, if_pos e]
    · rw [if_neg e, if_neg e]; exact hC1.2.2.2.1.2 i (by omega)
  refine ⟨5, st (s := 24) (by decide) (by omega) hR (OffC.refl S) (fun S1 h1 o1 => st (s := 16) (by decide) (by omega) h1 o1 (fun S2 h2 o2 => st (s := 8) (by decide) (by omega) h2 o2 (fun S3 h3 o3 => st (s := 0) (by decide) (by omega) h3 o3 (fun S4 h4 o4 => ?_))))⟩
  exact ite_y (by decide) (z S4 h4 o4)
theorem four_le {x : Int32} (h : ∀ i, i < tn → T i ≤ 255) : ∀ i, i < tn + 4 → four T tn x i ≤ 255 := by
  intro i hi
  unfold four apT
  have b1 := (bt_e x 24).2
  have b2 := (bt_e x 16).2
  have b3 := (bt_e x 8).2
  have b4 := (bt_e x 0).2
  split; · exact b4
  split; · exact b3
  split; · exact b2
  split; · exact b1
  exact h i (by omega)
theorem R_7 {v1 v2 v3 v4 v5 : Int32} (h : Inv G S) (k : ∀ S', Inv G S' → K G S') : f_X10_feed G 0 v1 v2 v3 v4 v5 (fun r S1 => f_X11_feed G 87 v1 v2 v3 v4 v5 (fun r2 S2 => r = r2 ∧ K G S2) S1) S := by
  obtain ⟨a, L, I, un, u, T, tn, fl, m, hV, hC, hR⟩ := h
  have ht := hV.2.2.2.2.1
  have eC : S.1 75 1 = nI tn := hC.2.2.2.2.2.2.1.1
  refine ex_y hC.1.r0_8 ?_
  unfold f_X6_hasRoomFor
  rw [eC, show (20 : Int32) = nI 20 from rfl, nI_add]
  by_cases h0 : tn + 20 ≤ 400
  · refine ite_n (by simp (disch := omega) only [lit, nI_add, pk_mul, leI, ltI, eqI]; omega) (ite_n (by decide) (ex_y hC.1.r0_8 (C_four hC (by omega) (fun S1 h1 o1 => ex_y h1.1.r0_8 (C_four h1 (by omega) (fun S2 h2 o2 => ex_y h2.1.r0_8 (C_four h2 (by omega) (fun S3 h3 o3 => ex_y h3.1.r0_8 (C_four h3 (by omega) (fun S4 h4 o4 => ex_y h4.1.r0_8 (C_four h4 (by omega) (fun S5 h5 o5 => ex_y h5.1.r0_8 (nm_e ?_))))))))))))) 
    have hR1 := (hR.offR ((((o1.trans o2).trans o3).trans o4).trans o5)).th
    have e14 : (uI S5 87 0 0).1 87 14 = nI tn := hR1.2.2.2.1.1
    rw [e14, show (20 : Int32) = nI 20 from rfl, nI_add]
    refine ite_y (by simp (disch := omega) only [lit, nI_add, pk_mul, leI, ltI, eqI]; omega) (M_four hR1 (by omega) (fun S6 h6 o6 => M_four h6 (by omega) (fun S7 h7 o7 => M_four h7 (by omega) (fun S8 h8 o8 => M_four h8 (by omega) (fun S9 h9 o9 => M_four h9 (by omega) (fun Sa ha oa => ?_))))))
    have oo := (((o6.trans o7).trans o8).trans o9).trans oa
    refine ⟨?_, k Sa (inv (hV.tap (by omega) (four_le (four_le (four_le (four_le (four_le hV.2.2.2.2.2.1)))))) (h5.th.offC oo) ha)⟩
    rw [h5.2.2.2.2.2.2.1.1, ha.2.2.2.1.1]
  · refine ite_y (by simp (disch := omega) only [lit, nI_add, pk_mul, leI, ltI, eqI]; omega) (ite_y rfl (nm_e ?_))
    rw [hR.th.2.2.2.1.1, show (20 : Int32) = nI 20 from rfl, nI_add]
    exact ite_n (by simp (disch := omega) only [lit, nI_add, pk_mul, leI, ltI, eqI]; omega) ⟨rfl, k _ (inv hV hC.th hR.th)⟩
theorem nI_m1 {n : Nat} (h : n < 2147483648) : ¬ nI n = -1 := by
  intro e
  have := congrArg Int32.toInt e
  rw [nI_toInt h] at this
  have e1 : (-1 : Int32).toInt = -1 := rfl
  omega
/-- glass -/
theorem m_isGlass {v : Int32} (h1 : ∀ g, vG g → v = nI g → Q 1 S) (h2 : (∀ g, vG g → v ≠ nI g) → Q 0 S) : f_X11_isGlass G v Q S := by
  have z0 : ∀ (n x : Nat), x < 10 ^ n → n ≤ 4 → Q 0 S → f_X11_isGlass_20_n G Q (n + 1) 0 (nI x) S := by
    intro n
    induction n with
    | zero =>
      intro x hx hn q
      have hx : x = 0 := by rw [Nat.pow_zero] at hx; omega
      subst hx
      exact ite_y (by decide) ⟨.inl rfl, q⟩
    | succ n ih =>
      intro x hx hn q
      have h9 := fin_pow9 hx (by omega)
      rw [f_X11_isGlass_20_n]
      by_cases e : x = 0
      · subst e; exact ite_y (by decide) ⟨.inl rfl, q⟩
      · refine ite_n (by rw [lit, leI (by omega) (by omega)]; omega) (ite_y rfl ?_)
        refine nm_p (e' := nI (x / 10)) (by rw [show (10 : Int32) = nI 10 from rfl, dvI (by omega) (by omega) (by omega)]) (ih _ ?_ (by omega) q)
        rw [Nat.pow_succ] at hx; exact Nat.div_lt_of_lt_mul (by omega)
  have z1 : ∀ (n x : Nat), x < 10 ^ n → n ≤ 4 → (dgs n x → Q 1 S) → (¬ dgs n x → Q 0 S) → f_X11_isGlass_20_n G Q (n + 1) 1 (nI x) S := by
    intro n
    induction n with
    | zero =>
      intro x hx hn q1 q0
      have hx : x = 0 := by rw [Nat.pow_zero] at hx; omega
      subst hx
      exact ite_y (by decide) ⟨.inr rfl, q1 rfl⟩
    | succ n ih =>
      intro x hx hn q1 q0
      have h9 := fin_pow9 hx (by omega)
      have hx' : x / 10 < 10 ^ n := by rw [Nat.pow_succ] at hx; exact Nat.div_lt_of_lt_mul (by omega)
      rw [f_X11_isGlass_20_n]
      by_cases e : x = 0
      · subst e; exact ite_y (by decide) ⟨.inr rfl, q1 (.inl rfl)⟩
      · refine ite_n (by rw [lit, leI (by omega) (by omega)]; omega) (ite_n (by decide) ?_)
        have ed : nI x / 10 = nI (x / 10) := by rw [show (10 : Int32) = nI 10 from rfl, dvI (by omega) (by omega) (by omega)]
        rw [show (10 : Int32) = nI 10 from rfl, rmI (by omega) (by omega) (by omega)]
        by_cases hd : 1 ≤ x % 10 ∧ x % 10 ≤ 8
        · refine m_in_y (l := 1) (h := 8) (by omega) rfl rfl hd.1 hd.2 (ite_n (by decide) (nm_p (e' := nI (x / 10)) ed (ih _ hx' (by omega) (fun d => q1 (.inr ⟨hd.1, hd.2, d⟩)) (fun d => q0 (fun d' => ?_)))))
          rcases d' with d' | ⟨_, _, d'⟩
          · exact e d'
          · exact d d'
        · refine m_in (fun c1 c2 => ?_) (fun _ => ite_y rfl (nm_p (e' := nI (x / 10)) ed (z0 n _ hx' (by omega) (q0 (fun d' => ?_)))))
          · exfalso
            rw [i32_64, nI_toInt (by omega)] at c1 c2
            have : (1 : Int64).toInt = 1 := rfl
            have : (8 : Int64).toInt = 8 := rfl
            omega
          · rcases d' with d' | ⟨d1, d2, _⟩
            · exact e d'
            · exact hd ⟨d1, d2⟩
  unfold f_X11_isGlass
  rcases ar_c 8889 (by omega) v with ⟨g, hg, rfl⟩ | hv
  · refine m_in_y (l := 0) (h := 8888) (by omega) rfl rfl (by omega) (by omega) (ite_n (by decide) ⟨5, z1 4 g (by omega) (by omega) (fun d => h1 g d rfl) (fun d => h2 (fun g' hg' e => ?_))⟩)
    have := vG_88 hg'
    rw [eqI (by omega) (by omega)] at e
    subst e; exact d hg'
  · refine m_in_n (n := 8889) (by omega) rfl rfl hv (ite_y rfl ⟨1, ite_y (by decide) ⟨.inl rfl, h2 (fun g' hg' e => ?_)⟩⟩)
    have := vG_88 hg'
    exact ar_no (n := 8889) (by omega) hv ⟨g', by omega, e⟩
theorem R_3 {v w : Int32} (h : Inv G S) (k : ∀ S', Inv G S' → K G S') : f_X10_glass G 0 v w (fun r S1 => f_X11_glass G 87 v w (fun r2 S2 => r = r2 ∧ K G S2) S1) S := by
  obtain ⟨a, L, I, un, u, T, tn, fl, m, hV, hC, hR⟩ := h
  have h6 := hV.1.1
  refine c_lensesIn_any (fun g hg hw => ?_) (fun hw => ?_)
  · subst hw
    have gl := gn_le g
    refine ite_n (nI_m1 (by omega)) (ex_y hC.1.r0_0 ?_)
    rcases ar_c (a 0) (by omega) v with ⟨j, hj, rfl⟩ | hv
    · refine c_has_y hC.2.1 hV.1 hj (ite_n (by decide) (ex_y hC.1.r0_3 (C_empty hC (fun S1 hC1 o1 => ex_y hC1.1.r0_0 (c_setGlass hC1.1.p1 hC1.2.1 hV.1 hj ?_)))))
      have hC2 := hC1.set (q := 1 + 2) (i := j) (v := g) (x := 32 + j) (by unfold pos; omega) (by omega)
      refine C_accept hC2 (fun S3 hC3 o3 => nm_e ?_)
      have hR3 := (hR.offR ((o1.uI (i := 1 + 2) (j := j) (v := nI g) (by omega)).trans o3)).th
      refine m_isGlass (fun g' hg' e => ite_n (by decide) (m_person_y hR3.1.1 hR3.1.2.1 hV.1 hj (ite_n (by decide) (m_putGlass hR3 (by omega) hg (fun S4 hR4 o4 => m_lensesOf hR4.1.1 hR4.1.2.1 (by omega) ?_))))) (fun n => absurd rfl (n g hg))
      rw [up_s]
      exact M_settled_y hR4 (nn0 (by omega)) (fun S5 hR5 o5 => ⟨rfl, k S5 (inv (hV.set0 (hV.1.ug (by omega) hg)) (hC3.th.offC (o4.offC.trans o5)) hR5)⟩)
    · refine c_has_n hC.2.1 hV.1 hv (ite_y rfl (C_refuse (n := 2) hC (by omega) (by omega) (fun S2 hC2 o2 => nm_e ?_)))
      have hR2 := (hR.offR o2).th
      refine m_isGlass (fun g' hg' e => ite_n (by decide) (m_person_n hR2.1.1 hR2.1.2.1 hV.1 hv (ite_y rfl ?_))) (fun n => absurd rfl (n g hg))
      exact M_tell_n (n := 2) hR2 (by omega) (by omega) (fun S3 hR3 o3 => ⟨rfl, k S3 (inv hV (hC2.th.offC o3) hR3)⟩)
  · refine ite_y rfl (C_refuse (n := 1) hC (by omega) (by omega) (fun S2 hC2 o2 => nm_e ?_))
    have hR2 := (hR.offR o2).th
    refine m_isGlass (fun g' hg' e => absurd e (hw g' hg')) (fun n => ite_y rfl ?_)
    exact M_tell_n (n := 1) hR2 (by omega) (by omega) (fun S3 hR3 o3 => ⟨rfl, k S3 (inv hV (hC2.th.offC o3) hR3)⟩)
end
