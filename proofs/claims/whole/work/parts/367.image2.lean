-- needs: 366
section
variable {G : Gm} {S S' : St} {p r q : Nat} {a b m : Rw} {L M : Nat → Lw} {I : Im} {un tn : Nat} {u : Un} {T : Nat → Nat} {fl : Nat → Int32} {Q : Int32 → St → Prop} {K : Gm → St → Prop}
theorem Ref.img (h : Ref G S a L I un u T tn fl m) {I' : Im} (hI : ImgR S' I') (hM : ∀ i, i ≠ 91 → i ≠ 92 → S'.1 i = S.1 i) (hJ : S'.2 = S.2) : Ref G S' a L I' un u T tn fl m := by
  obtain ⟨⟨h1, h2, h3, h4, h5⟩, h6, h7, h8, h9, h10, h11⟩ := h
  refine ⟨⟨by rw [hJ]; exact h1, by rw [hM 90 (by omega) (by omega)]; exact h2, by rw [hM 89 (by omega) (by omega)]; exact h3, by rw [hM 90 (by omega) (by omega)]; exact h4, by rw [hM 87 (by omega) (by omega)]; exact h5⟩, hI, ?_, ?_, ?_, ?_, ?_⟩
  · unfold UnR; rw [hM 87 (by omega) (by omega), hM 94 (by omega) (by omega), hM 93 (by omega) (by omega)]; exact h7
  · unfold TapR; rw [hM 87 (by omega) (by omega), hM 97 (by omega) (by omega)]; exact h8
  · unfold FlR; rw [hM 87 (by omega) (by omega), hM 88 (by omega) (by omega)]; exact h9
  · unfold MonR; rw [hM 87 (by omega) (by omega), hM 120 (by omega) (by omega)]; exact h10
  · unfold CoR; rw [hJ]; exact h11
theorem M_image {x : Nat} (hR : Ref G S a L I un u T tn fl m) (hV : Va a) (hI : ∀ k b M, I k = some (b, M) → Va b) (hx : x < 2) (z : ∀ S', Ref G S' a L (upI I x (a, L)) un u T tn (flA fl) m → OffC S S' → Q 0 S') : f_X11_image_23 G 87 (nI x) Q 0 S := by
  have hS := hR.1.1
  have st : ∀ (n i : Nat) (S4 : St), n + i = 5485 → S4.2 = S.2 → (∀ i, i ≠ 91 → S4.1 i = S.1 i) → (∀ j, S4.1 91 j = if 5485 * x ≤ j ∧ j < 5485 * x + i then S.1 90 (j - 5485 * x) else S.1 91 j) → f_X11_image_23_n G 87 (nI x) Q (n + 1) (nI i) S4 := by
    intro n
    induction n with
    | zero =>
      intro i S4 hi f1 f2 f3
      have hi : i = 5485 := by omega
      subst hi
      rw [f_X11_image_23_n]
      refine ite_y (by simp (disch := omega) only [lit, nI_add, pk_mul, leI, ltI, eqI]; omega) (ex_y (by rw [f1]; exact hS.isKept) ⟨by rw [hS.isKept_l, in_iff (by omega)]; exact hx, nm_e ?_⟩)
      rw [clI (by omega)]
      have hR4 : Ref G (uI S4 92 x 1) a L (upI I x (a, L)) un u T tn fl m := by
        refine hR.img (fun k hk => ?_) (fun i h1 h2 => by rw [uI_n _ _ _ _ h2, f2 i h1]) f1
        rw [uI_s, uI_n _ _ _ _ (show (91 : Nat) ≠ 92 by omega), f2 92 (by omega)]
        unfold upI
        by_cases e : k = x
        · subst e
          rw [if_pos rfl, if_pos rfl]
          exact .inr ⟨a, L, rfl, rfl, hR.1.2.1.ag85 (fun j hj => by rw [f3, if_pos (by omega), show 5485 * k + j - 5485 * k = j from by omega]), hR.1.2.2.2.1.ag54 hV.2.2.1 (fun j hj => by rw [f3, if_pos (by omega), show 5485 * k + j - 5485 * k = j from by omega])⟩
        · rw [if_neg e, if_neg e]
          rcases hR.2.1 k hk with ⟨y1, y2⟩ | ⟨b, M, y1, y2, y3, y4⟩
          · exact .inl ⟨y1, y2⟩
          · exact .inr ⟨b, M, y1, y2, y3.ag85 (fun j hj => by rw [f3, if_neg (by omega)]), y4.ag54 (hI k b M y1).2.2.1 (fun j hj => by rw [f3, if_neg (by omega)])⟩
      refine M_tell_y hR4 (by decide) (fun S5 hR5 o5 => z S5 hR5 (OffC.trans ?_ o5))
      exact ⟨by show S4.2.2 = _; rw [f1], fun i hi => ⟨by rw [uI_n _ _ _ _ (by omega), f2 i (by omega)], by show S4.2.1 i = _; rw [f1]⟩⟩
    | succ n ih =>
      intro i S4 hi f1 f2 f3
      rw [f_X11_image_23_n]
      refine ite_n (by simp (disch := omega) only [lit, nI_add, pk_mul, leI, ltI, eqI]; omega) (ex_y (by rw [f1]; exact hS.images) (ex_y (by rw [f1]; exact hS.row) ?_))
      simp (disch := omega) only [show (5485 : Int32) = nI 5485 from rfl, nI_1, nI_add, pk_mul, clI, in_iff]
      rw [hS.images_l, hS.row_l]
      refine ⟨by omega, by omega, nm_e (ih (i + 1) _ (by omega) f1 (fun j hj => by rw [uI_n _ _ _ _ hj]; exact f2 j hj) (fun j => ?_))⟩
      rw [uI_s, f2 90 (by omega), f3]
      by_cases e : j = 5485 * x + i
      · rw [if_pos e, if_pos (by omega), e, show 5485 * x + i - 5485 * x = i from by omega]
      · rw [if_neg e]
        by_cases e2 : 5485 * x ≤ j ∧ j < 5485 * x + i
        · rw [if_pos e2, if_pos (by omega)]
        · rw [if_neg e2, if_neg (by omega)]
  exact ⟨5486, st 5485 0 S (by omega) rfl (fun _ _ => rfl) (fun j => by rw [if_neg (by omega)])⟩
theorem LwD.nw {G' : Gm} {S1 S2 : St} {x : Nat} (h0 : LwD G S p a L) (h : LwD G' S1 p a L) (hp : p + 7 ≠ 17) (e7 : S1.2.2 (p + 7) = S.2.2 (p + 7)) (h1 : S2.1 = S1.1) (h2 : ∀ i, i ≠ 17 → S2.2.2 i = S1.2.2 i) (h3 : ∀ k, S2.2.2 17 k = if k = x then some G.2.2 else S1.2.2 17 k) : LwD G' S2 p a L := by
  refine ⟨fun k hk => ?_, fun k hk t ht => ?_⟩
  · obtain ⟨t, t1, t2, t3⟩ := h.1 k hk
    exact ⟨t, by rw [h2 _ hp]; exact t1, t2, t3.fr (fun i _ _ => by rw [h1]) (h2 t (by omega))⟩
  · rw [h2 _ hp] at ht
    have d := h.2 k hk t ht
    obtain ⟨t', t1, t2, t3⟩ := h0.1 k hk
    rw [e7, t1] at ht
    cases ht
    have tb := t3.2.2.2.2.2.2.2.2.2.1
    intro k' q' hq'
    rw [h3] at hq'
    by_cases e : k' = x
    · rw [if_pos e] at hq'; cases hq'; omega
    · rw [if_neg e] at hq'; exact d k' q' hq'
theorem R_37 {v : Int32} (h : Inv G S) (k : ∀ G' S', Inv G' S' → K G' S') : f_X10_image G 0 v (fun r G1 S1 => f_X11_image G1 87 v (fun r2 S2 => r = r2 ∧ K G1 S2) S1) S := by
  obtain ⟨a, L, I, un, u, T, tn, fl, m, hV, hC, hR⟩ := h
  unfold f_X10_image
  rcases ar_c 2 (by omega) v with ⟨x, hx, rfl⟩ | hv
  · refine ite_n (by simp (disch := omega) only [lit, nI_add, pk_mul, leI, ltI, eqI]; omega) (ite_y (by simp (disch := omega) only [lit, nI_add, pk_mul, leI, ltI, eqI]; omega) (ex_y hC.1.r0_2 ⟨by rw [hC.1.l17, in_iff (by omega)]; exact hx, nm_e ?_⟩))
    rw [clI (by omega)]
    -- what follows the copy
    have aft : ∀ {G1 : Gm} {S0 S1 : St} {I0 : Im}, Ref G1 S0 a L I0 un u T tn fl m → (∀ k, k ≠ x → I0 k = I k) → (∀ k b M, I0 k = some (b, M) → Va b) → Cls G1 S1 a L (upI I0 x (a, L)) un u T tn (flA fl) m → OffR S0 S1 → f_X11_image G1 87 (nI x) (fun r2 S2 => (0 : Int32) = r2 ∧ K G1 S2) S1 := by
      intro G1 S0 S1 I0 hR0 hI0 hIv hC1 o1
      have hR1 := (hR0.offR o1).th
      refine nm_e (m_in_y (l := 0) (h := 1) (by omega) rfl rfl (by omega) (by omega) (ite_n (by decide) (M_image hR1 hV.1 hIv hx (fun S2 hR2 o2 => ⟨rfl, k _ S2 (inv ⟨hV.1, fun j b M hj => ?_, hV.2.2⟩ (hC1.th.offC o2) hR2)⟩))))
      unfold upI at hj
      by_cases e : j = x
      · rw [if_pos e] at hj; cases hj; exact hV.1
      · rw [if_neg e] at hj; exact hIv j b M hj
    rcases hC.2.2.2.2.1.1 x hx with ⟨e1, e2⟩ | ⟨q, b, M, e1, e2, _⟩
    · rw [e2]
      refine ⟨fun a7 h => (by cases h), fun _ => nm_e (nm_e (nm_e (c_parInit (fun G1 S1 n1 n2 n3 n4 n5 => ?_))))⟩
      have g121 := hC.1.2.2
      have gw : Grw G G1 := ⟨by omega, fun i hi => ⟨(n2 i hi).1, (n2 i hi).2.1⟩⟩
      have hC1 := hC.gr gw (fun i hi => (n2 i hi).2.2.1) (fun i hi => (n2 i hi).2.2.2.2)
      refine ex_y hC1.1.r0_2 ⟨by rw [hC1.1.l17, in_iff (by omega)]; exact hx, nm_e ?_⟩
      have r17 : ∀ j, (uR S1 17 x (some G.2.2)).2.2 17 j = if j = x then some G.2.2 else S1.2.2 17 j := fun j => uR_s
      have rn : ∀ i, i ≠ 17 → (uR S1 17 x (some G.2.2)).2.2 i = S1.2.2 i := fun i hi => uR_n hi
      have r1 : (uR S1 17 x (some G.2.2)).1 = S1.1 := rfl
      have rJ : (uR S1 17 x (some G.2.2)).2.1 = S1.2.1 := rfl
      generalize uR S1 17 x (some G.2.2) = S2 at r17 rn r1 rJ ⊢
      obtain ⟨g1, g2, g3, g4, g5, g6, g7, g8, g9⟩ := hC1
      obtain ⟨i1, i2, i3⟩ := g5
      obtain ⟨j1, j2, j3⟩ := hC.2.2.2.2.1
      have s17 : S1.2.2 17 = S.2.2 17 := (n2 17 (by omega)).2.2.2.2
      have lowq : ∀ k' q', k' < 2 → S1.2.2 17 k' = some q' → q' + 7 < G.2.2 := by
        intro k' q' hk' hq'
        rw [s17] at hq'
        rcases j1 k' hk' with ⟨_, y⟩ | ⟨q2, b2, M2, y1, y2, y3, y4, _⟩
        · rw [y] at hq'; cases hq'
        · rw [y2] at hq'; cases hq'; exact y4
      have hC2 : Cls G1 S2 a L (upI I x (b0P, L)) un u T tn fl m := by
        refine ⟨g1.fr (fun i j _ _ _ h3 _ => by rw [rn i h3]) (fun _ _ => rfl) (Nat.le_refl _), g2.ag (fun i _ _ => by rw [r1]), LwD.nw (x := x) hC.2.2.1 g3 (by omega) (n2 8 (by omega)).2.2.2.2 r1 rn r17, g4.ag (by rw [r1]) (by rw [r1]) (by rw [r1]), ⟨fun k' hk' => ?_, fun q0 q1 h0 h1 => ?_, fun k' hk' => ?_⟩, g6.ag (by rw [r1]) (by rw [r1]), g7.ag (by rw [r1]) (by rw [r1]), g8.ag (by rw [r1]) (by rw [r1]) (by rw [r1]), g9.ag (fun i _ _ => by rw [r1])⟩
        · unfold upI
          by_cases e : k' = x
          · rw [if_pos e]
            refine .inr ⟨G.2.2, b0P, L, rfl, by rw [r17, if_pos e], g121, by omega, n3, ?_, n5.ag (fun i _ _ => by rw [r1]), ⟨fun j hj => absurd hj (by show ¬ j < 0; omega), fun j hj => absurd hj (by show ¬ j < 0; omega)⟩⟩
            unfold PSh; rw [rn G.2.2 (by omega)]; exact n4
          · rw [if_neg e]
            rcases i1 k' hk' with ⟨y1, y2⟩ | ⟨q2, b2, M2, y1, y2, y3, y4, y5, y6, y7, y8⟩
            · exact .inl ⟨y1, by rw [r17, if_neg e]; exact y2⟩
            · have lq := lowq k' q2 hk' y2
              rcases j1 k' hk' with ⟨_, y⟩ | ⟨q3, b3, M3, z1, z2, z3, z4, z5, z6, z7, z8⟩
              · rw [s17, y] at y2; cases y2
              rw [s17, z2] at y2; cases y2
              rw [y1] at z1; cases z1
              refine .inr ⟨q2, b2, M2, y1, by rw [r17, if_neg e, s17]; exact z2, y3, y4, y5, ?_, y7.ag (fun i _ _ => by rw [r1]), LwD.nw (x := x) z8 y8 (by omega) (n2 (q2 + 7) (by omega)).2.2.2.2 r1 rn r17⟩
              unfold PSh; rw [rn q2 (by omega)]; exact y6
        · rw [r17] at h0 h1
          by_cases ex : x = 0
          · rw [if_pos ex.symm] at h0; rw [if_neg (by omega)] at h1
            cases h0
            right; exact lowq 1 q1 (by omega) h1
          · rw [if_neg (by omega)] at h0; rw [if_pos (by omega)] at h1
            cases h1
            left; exact lowq 0 q0 (by omega) h0
        · rw [r17, if_neg (by omega)]; exact i3 k' hk'
      have hI2 : ∀ k b M, upI I x (b0P, L) k = some (b, M) → Va b := fun j b M hj => by
        unfold upI at hj
        by_cases e : j = x
        · rw [if_pos e] at hj; cases hj; exact b0P_v
        · rw [if_neg e] at hj; exact hV.2.1 j b M hj
      have uu : ∀ {w : Rw × (Nat → Lw)}, upI (upI I x (b0P, L)) x w = upI I x w := by
        intro w; funext j; unfold upI; split <;> rfl
      refine C_image hC2 hV.1 hI2 hx (by unfold upI; rw [if_pos rfl]) (by rw [r17, if_pos rfl]) (fun S3 hC3 o3 => ?_)
      rw [uu] at hC3
      refine aft (I0 := I) (S0 := S2) ((hR.gm (fun i _ h => (n2 i (by omega)).2.1)).offR (fun i h1 h2 => ⟨by rw [r1]; exact (n2 i (by omega)).2.2.1, by rw [rJ]; exact (n2 i (by omega)).2.2.2.1, by rw [rn i (by omega)]; exact (n2 i (by omega)).2.2.2.2⟩)) (fun _ _ => rfl) hV.2.1 hC3 o3
    · rw [e2]
      refine ⟨fun a7 h => ?_, fun h => (by cases h)⟩
      cases h
      exact C_image hC hV.1 hV.2.1 hx e1 e2 (fun S3 hC3 o3 => aft (I0 := I) hR (fun _ _ => rfl) hV.2.1 hC3 o3)
  · have cl : f_X10_image_9 G 0 (fun r G1 S1 => f_X11_image G1 87 v (fun r2 S2 => r = r2 ∧ K G1 S2) S1) S := by
      refine C_refuse (n := 1) hC (by omega) (by omega) (fun S1 hC1 o1 => nm_e ?_)
      have hR1 := (hR.offR o1).th
      exact m_in_n (n := 2) (by omega) rfl rfl hv (ite_y rfl (M_tell_n (n := 1) hR1 (by omega) (by omega) (fun S3 hR3 o3 => ⟨rfl, k _ S3 (inv hV (hC1.th.offC o3) hR3)⟩)))
    refine ite_c (fun _ => cl) (fun h0 => ite_n (fun h1 => ?_) cl)
    rcases hv with hv | hv
    · exact h0 hv
    · rw [i32_le] at hv; rw [i32_lt] at h1
      rw [nI_toInt (by omega)] at hv
      have : (2 : Int32).toInt = 2 := rfl
      omega
end
