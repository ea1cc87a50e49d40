-- needs: 368
section
variable {G : Gm} {S S' : St} {a b m : Rw} {L : Nat → Lw} {I : Im} {un tn : Nat} {u : Un} {T : Nat → Nat} {fl : Nat → Int32} {Q : Int32 → St → Prop} {K : Gm → St → Prop}
theorem Ref.u57 {v : Int64} (h : Ref G S a L I un u T tn fl m) : Ref G (uJ S 87 57 v) a L I un u T tn fl m :=
  h.ag (fun _ _ => rfl) (fun _ _ => rfl) (fun i hi => uJ_n _ _ _ _ (by omega)) rfl
theorem m_draw {x n : Nat} (hx : x < 1000003) (h0 : 0 < n) (hn : n < 2147483648) (e : S.2.1 87 57 = lN x) (k : Q (nI (drB x % n)) (uJ S 87 57 (lN (drB x)))) : f_X11_draw G 87 (nI n) Q S := by
  have y1 := drB_lt x
  unfold f_X11_draw
  rw [e, dr_l hx]
  refine nm_e ⟨?_, ?_⟩
  · rw [nI_l (by omega), show (0 : Int64) = lN 0 from rfl, lN_eq (by omega) (by omega)]; omega
  · rw [uJ_s, if_pos rfl, nI_l (by omega), lN_rm (by omega) h0 hn, lN_i]; exact k
/-- what the drawing leaves -/
def FrB (S S' : St) : Prop := OffC S S' ∧ ∀ k, 928 ≤ k → S'.1 93 k = S.1 93 k
theorem FrB.refl (S : St) : FrB S S := ⟨OffC.refl S, fun _ _ => rfl⟩
theorem FrB.trans {S S' S'' : St} (h : FrB S S') (h' : FrB S' S'') : FrB S S'' := ⟨h.1.trans h'.1, fun k hk => (h'.2 k hk).trans (h.2 k hk)⟩
theorem FrA.toB {S S' : St} (h : FrA S S') : FrB S S' := ⟨h.offC, h.2.2.2.1⟩
theorem FrB.u57 {S S' : St} {v : Int64} (h : FrB S S') : FrB S (uJ S' 87 57 v) := ⟨h.1.uJ (by omega) (by omega), h.2⟩
theorem M_drawDays {n x : Nat} (hV : Va a) (h0 : 0 < a 0) (hn : n ≤ 60) (hx : x < 1000003) (e57 : S.2.1 87 57 = lN x) (hR : Ref G S a L I un u T tn fl m) (z : ∀ S' b c, (b, c) = monS L n a x 0 → Ref G S' b L I un u T tn fl m → FrB S S' → Va b → kp a b → c ≤ 60 → f_X11_months_197 G 87 (nI c) Q 0 S') : f_X11_months_68 G 87 (nI n) Q 0 0 S := by
  have h6 := hV.1
  have st : ∀ (f d c y : Nat) (b : Rw) (S1 : St), f + d = n → c ≤ d → y < 1000003 → monS L f b y c = monS L n a x 0 → FrB S S1 → S1.2.1 87 57 = lN y → Ref G S1 b L I un u T tn fl m → Va b → kp a b → f_X11_months_68_n G 87 (nI n) Q (f + 1) (nI c) (nI d) S1 := by
    intro f
    induction f with
    | zero =>
      intro d c y b S1 hf hc hy he f1 e1 hR1 hVb hk
      rw [f_X11_months_68_n]
      exact ite_y (by simp (disch := omega) only [lit, nI_add, pk_mul, leI, ltI, eqI]; omega) (z S1 b c he hR1 f1 hVb hk (by omega))
    | succ f ih =>
      intro d c y b S1 hf hc hy he f1 e1 hR1 hVb hk
      rw [f_X11_months_68_n]
      have b4 := hVb.2.2.2.2.1
      have b0 : b 0 = a 0 := hk 0 (by omega)
      have r4 : S1.1 90 ((4 : Int32).toNatClampNeg) = nI (b 4) := hR1.1.2.1.2.2.2.2.1 0 (by omega)
      have r0 : S1.1 90 ((0 : Int32).toNatClampNeg) = nI (b 0) := hR1.1.2.1.1
      have y1 := drB_lt y
      have y2 := drB_lt (drB y)
      have y3 := drB_lt (drB (drB y))
      refine ite_n (by simp (disch := omega) only [lit, nI_add, pk_mul, leI, ltI, eqI]; omega) (ex_y hR1.1.1.row ⟨inrow (n := 4) hR1.1.1 (by omega), ?_⟩)
      rw [r4]
      rw [monS] at he
      by_cases h9 : 999 ≤ b 4
      · rw [if_pos h9] at he
        exact ite_y (by simp (disch := omega) only [lit, nI_add, pk_mul, leI, ltI, eqI]; omega) (z S1 b c he hR1 f1 hVb hk (by omega))
      rw [if_neg h9] at he
      have b00 : 0 < b 0 := by omega
      have hj : mj b y < b 0 := Nat.mod_lt _ b00
      have hk4 : mk4 y < 4 := Nat.mod_lt _ (by omega)
      have ht : mt3 y < 3 := Nat.mod_lt _ (by omega)
      have ok := mb_ok (a := a) (b := b) (L := L) (x := y) hVb b00 hk
      have M1 : mt3 y = 1 → barA (frc b L) b (mj b y) = true → mb L b y = b ∧ mc L b y = 0 := fun h1 hb => ⟨by unfold mb; rw [if_pos h1, if_pos hb], by unfold mc; rw [if_neg (fun h => h.2 hb)]⟩
      have M2 : mt3 y = 1 → ¬ barA (frc b L) b (mj b y) = true → mb L b y = up b (32 + mj b y) (glsA (frc b L) b (mj b y)) ∧ mc L b y = 1 := fun h1 hb => ⟨by unfold mb; rw [if_pos h1, if_neg hb], by unfold mc; rw [if_pos ⟨h1, hb⟩]⟩
      have M3 : ¬ mt3 y = 1 → mb L b y = up b (8 + (4 * mj b y + mk4 y)) (max 0 (min 8 ((b (8 + (4 * mj b y + mk4 y)) : Int) + (1 - (mt3 y : Int))))).toNat ∧ mc L b y = 0 := fun h1 => ⟨by unfold mb; rw [if_neg h1], by unfold mc; rw [if_neg (fun h => h1 h.1)]⟩
      have d1 : ∀ {Q' : Int32 → St → Prop} {S' : St}, S'.2.1 87 57 = lN y → Q' (nI (mj b y)) (uJ S' 87 57 (lN (drB y))) → f_X11_draw G 87 (nI (b 0)) Q' S' := fun e h => m_draw hy b00 (by omega) e h
      have d2 : ∀ {Q' : Int32 → St → Prop} {S' : St}, S'.2.1 87 57 = lN (drB y) → Q' (nI (mk4 y)) (uJ S' 87 57 (lN (drB (drB y)))) → f_X11_draw G 87 4 Q' S' := fun e h => m_draw (n := 4) y1 (by omega) (by omega) e h
      have d3 : ∀ {Q' : Int32 → St → Prop} {S' : St}, S'.2.1 87 57 = lN (drB (drB y)) → Q' (nI (mt3 y)) (uJ S' 87 57 (lN (drB (drB (drB y))))) → f_X11_draw G 87 3 Q' S' := fun e h => m_draw (n := 3) y2 (by omega) (by omega) e h
      generalize drB (drB (drB y)) = z3 at he y3 d3
      generalize drB (drB y) = z2 at y2 d3 d2
      generalize drB y = z1 at y1 d2 d1
      generalize mb L b y = B at he ok M1 M2 M3
      generalize mc L b y = C at he M1 M2 M3
      generalize mj b y = J at hj M1 M2 M3 d1
      generalize mk4 y = Kk at hk4 M3 d2
      generalize mt3 y = Tt at ht M1 M2 M3 d3
      obtain ⟨o1, o2, o3, o4⟩ := ok
      refine ite_n (by simp (disch := omega) only [lit, nI_add, pk_mul, leI, ltI, eqI]; omega) (ex_y hR1.1.1.row ⟨inrow (n := 0) hR1.1.1 (by omega), ?_⟩)
      rw [r0]
      refine d1 e1 (d2 (by rw [uJ_s, if_pos rfl]) (d3 (by rw [uJ_s, if_pos rfl]) ?_))
      have hR2 := ((hR1.u57 (v := lN z1)).u57 (v := lN z2)).u57 (v := lN z3)
      have f2 : FrB S (uJ (uJ (uJ S1 87 57 (lN z1)) 87 57 (lN z2)) 87 57 (lN z3)) := f1.u57.u57.u57
      have e2 : (uJ (uJ (uJ S1 87 57 (lN z1)) 87 57 (lN z2)) 87 57 (lN z3)).2.1 87 57 = lN z3 := by rw [uJ_s, if_pos rfl]
      generalize uJ (uJ (uJ S1 87 57 (lN z1)) 87 57 (lN z2)) 87 57 (lN z3) = S2 at hR2 f2 e2 ⊢
      -- the day after
      have day : ∀ (S3 : St) (e : Nat), FrB S S3 → S3.2.1 87 57 = lN z3 → Ref G S3 B L I un u T tn fl m → e = c + C → e ≤ d + 1 → f_X11_months_184 G (f_X11_months_68_n G 87 (nI n) Q (f + 1)) 87 (nI n) (nI e) (nI d) Q S3 := by
        intro S3 e f3 e3 hR3 he2 hed
        refine m_passIt hR3 o1 (by omega) (fun S4 hR4 f4 => ?_)
        rw [nI_1]
        rw [← he2] at he
        exact ih (d + 1) e _ _ S4 (by omega) hed y3 he (f3.trans f4.toB) (by rw [f4.2.2.2.2.2 57 (by omega) (by omega)]; exact e3) hR4 (o1.day (by omega)) (o2.day (by have := o1.1; omega))
      refine nm_p (e' := nI (8 + (4 * J + Kk))) (by simp (disch := omega) only [show (8 : Int32) = nI 8 from rfl, show (4 : Int32) = nI 4 from rfl, nI_add, pk_mul]; congr 1; omega) ?_
      by_cases h1 : Tt = 1
      · refine ite_y (by rw [h1]; rfl) (m_isBarred (hR2.rfp hVb) (by omega) (fun S3 f3 => ?_))
        have hR3 := hR2.frR f3
        have e3 : S3.2.1 87 57 = lN z3 := by rw [f3.2.2.2.2 57 (by omega) (by omega)]; exact e2
        by_cases hb : barA (frc b L) b J = true
        · rw [if_pos hb]
          obtain ⟨em, ec⟩ := M1 h1 hb
          exact ite_n (by decide) (day S3 c (f2.trans f3.toA.toB) e3 (by rw [em]; exact hR3) (by omega) (by omega))
        · rw [if_neg hb]
          obtain ⟨em, ec⟩ := M2 h1 hb
          refine ite_y rfl (m_grindIt hR3 hVb (by omega) (fun S4 hR4 f4 => ?_))
          rw [nI_1]
          exact day S4 (c + 1) ((f2.trans f3.toA.toB).trans f4.toB) (by rw [f4.2.2.2.2.2 57 (by omega) (by omega)]; exact e3) (by rw [em]; exact hR4) (by omega) (by omega)
      · obtain ⟨em, ec⟩ := M3 h1
        have s8 := hVb.sin (i := 4 * J + Kk) (by omega)
        have rr : S2.1 90 (8 + (4 * J + Kk)) = nI (b (8 + (4 * J + Kk))) := hR2.1.2.1.2.2.2.2.2.1 _ (by omega)
        refine ite_n (by rw [lit, eqI (by omega) (by omega)]; exact h1) (ex_y hR2.1.1.row (ex_y hR2.1.1.row ⟨inrow hR2.1.1 (by omega), ?_⟩))
        rw [clI (by omega), rr]
        have w : ∀ (g : Int32), g.toInt = 1 - (Tt : Int) → f_X11_months_153 G (f_X11_months_68_n G 87 (nI n) Q (f + 1)) 87 (nI n) (nI c) (nI d) g (nI (b (8 + (4 * J + Kk)))) (nI (8 + (4 * J + Kk))) 90 Q S2 := by
          intro g hg
          refine m_within (fun r hr => ⟨inrow hR2.1.1 (by omega), nm_e ?_⟩) (by decide)
          have er : r = nI (max 0 (min 8 ((b (8 + (4 * J + Kk)) : Int) + (1 - (Tt : Int))))).toNat := by
            refine i32n (by omega) ?_
            rw [hr, i32_64, add_i, nI_toInt (by omega), hg]
            · have e8 : (8 : Int32).toInt = 8 := rfl
              have e00 : (0 : Int32).toInt = 0 := rfl
              rw [e8, e00]; omega
            all_goals rw [nI_toInt (by omega), hg]; omega
          rw [er, clI (by omega)]
          exact day _ c ⟨f2.1.uI (by omega) (by omega), fun k hk => by rw [uI_n _ _ _ _ (by omega)]; exact f2.2 k hk⟩ e2 (by rw [em]; exact hR2.set (by unfold posR; omega) (by omega)) (by omega) (by omega)
        have w1 : Tt = 0 → (1 : Int32).toInt = 1 - (Tt : Int) := fun h => by rw [h]; rfl
        have w2 : Tt = 2 → (-1 : Int32).toInt = 1 - (Tt : Int) := fun h => by rw [h]; rfl
        generalize f_X11_months_153 G (f_X11_months_68_n G 87 (nI n) Q (f + 1)) 87 (nI n) (nI c) (nI d) = W at w ⊢
        refine ite_c (fun h => ?_) (fun h => ?_)
        · rw [lit, eqI (by omega) (by omega)] at h
          exact w _ (w1 h)
        · rw [lit, eqI (by omega) (by omega)] at h
          exact w _ (w2 (by omega))
  exact ⟨n + 1, st n 0 0 x a S (by omega) (by omega) hx rfl (FrB.refl S) e57 hR hV (fun _ _ => rfl)⟩
end
