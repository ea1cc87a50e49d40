-- needs: 370
/-! come. -/
def cmI (L : Nat → Lw) (a : Rw) (j k l : Nat) : Nat → Nat → Int32 → Int32
  | 0, _, r => r
  | n + 1, v, r => cmI L a j k l n (v + 1) (if lenA (frc (up a (8 + (4 * j + k)) v) L) (up a (8 + (4 * j + k)) v) j k = l then r ||| (1 <<< (nI v &&& 31)) else r)
section
variable {G : Gm} {S S' : St} {a b m : Rw} {L : Nat → Lw} {I : Im} {un tn : Nat} {u : Un} {T : Nat → Nat} {fl : Nat → Int32} {Q : Int32 → St → Prop} {K : Gm → St → Prop}
theorem up_up {k v w : Nat} : up (up a k v) k w = up a k w := by
  funext i; unfold up; split <;> rfl
theorem up_id {k : Nat} : up a k (a k) = a := by
  funext i; unfold up; split
  · rename_i h; rw [h]
  · rfl
theorem C_come {j k l : Nat} (hC : Cls G S a L I un u T tn fl m) (hV : Va a) (hj : j < a 0) (hk : k < 4) (hl : l < 8) (z : ∀ S', Cls G S' a L I un u T tn fl m → OffR S S' → Q (cmI L a j k l 9 0 0) S') : f_X4_sinsBehind G 54 1 (nI j) (nI k) (nI l) Q S := by
  have h6 := hV.1
  have s8 := hV.sin (i := 4 * j + k) (by omega)
  refine c_sinOf hC.1.p1 hC.2.1 hV hj hk ?_
  have st : ∀ (n v w : Nat) (r : Int32) (S1 : St), n + v = 9 → w ≤ 8 → cmI L a j k l n v r = cmI L a j k l 9 0 0 → Cls G S1 (up a (8 + (4 * j + k)) w) L I un u T tn fl m → OffR S S1 → f_X4_sinsBehind_14_n G 54 1 (nI j) (nI k) (nI l) (nI (a (8 + (4 * j + k)))) Q (n + 1) r (nI v) S1 := by
    intro n
    induction n with
    | zero =>
      intro v w r S1 hv hw he hC1 o1
      have hVw : Va (up a (8 + (4 * j + k)) w) := hV.ups (by omega)
      rw [f_X4_sinsBehind_14_n]
      refine ite_y (by simp (disch := omega) only [lit, nI_add, pk_mul, leI, ltI, eqI]; omega) (c_setSin hC1.1.p1 hC1.2.1 hVw (by rw [up_n _ (by omega)]; exact hj) hk ?_)
      rw [mxn8 s8]
      have hC2 := hC1.set (q := 1 + 1) (i := 4 * j + k) (v := a (8 + (4 * j + k))) (x := 8 + (4 * j + k)) (by unfold pos; omega) (by omega)
      rw [up_up, up_id] at hC2
      have he : r = cmI L a j k l 9 0 0 := he
      rw [he]
      exact z _ hC2 (o1.uI (by omega))
    | succ n ih =>
      intro v w r S1 hv hw he hC1 o1
      have hVw : Va (up a (8 + (4 * j + k)) w) := hV.ups (by omega)
      have hVv : Va (up a (8 + (4 * j + k)) v) := hV.ups (by omega)
      rw [f_X4_sinsBehind_14_n]
      refine ite_n (by simp (disch := omega) only [lit, nI_add, pk_mul, leI, ltI, eqI]; omega) (c_setSin hC1.1.p1 hC1.2.1 hVw (by rw [up_n _ (by omega)]; exact hj) hk ?_)
      rw [mxn8 (show v ≤ 8 by omega)]
      have hC2 := hC1.set (q := 1 + 1) (i := 4 * j + k) (v := v) (x := 8 + (4 * j + k)) (by unfold pos; omega) (by omega)
      rw [up_up] at hC2
      have o2 : OffR S (uI S1 (1 + 1) (4 * j + k) (nI v)) := o1.uI (by omega)
      generalize uI S1 (1 + 1) (4 * j + k) (nI v) = S2 at hC2 o2 ⊢
      refine ex_y hC2.1.r54_0 (c_lawInForce hC2.1.p1 hC2.2.1 hVv hC2.2.2.1.1 (fun o ho => ⟨ho.ok, ?_⟩))
      have l7 := lenA_le (lo := frc (up a (8 + (4 * j + k)) v) L) (a := up a (8 + (4 * j + k)) v) (j := j) hk
      refine c_lensFor hC2.1.j55 hC2.1.p1 hC2.2.1 hVv (by omega) (by omega) ho (by rw [up_n _ (by omega)]; exact hj) hk (fun S3 f3 => ?_)
      have hC3 := hC2.frJ f3 (by omega)
      have o3 := o2.trans (f3.offR (by omega))
      rw [cmI] at he
      rw [nI_1]
      refine ite_c (fun h => ?_) (fun h => ?_)
      · rw [eqI (by omega) (by omega)] at h
        rw [if_pos h] at he
        exact nm_e (ih (v + 1) v _ S3 (by omega) (by omega) he hC3 o3)
      · rw [eqI (by omega) (by omega)] at h
        rw [if_neg h] at he
        exact ih (v + 1) v _ S3 (by omega) (by omega) he hC3 o3
  refine ⟨10, st 9 0 (a (8 + (4 * j + k))) 0 S (by omega) s8 rfl ?_ (OffR.refl S)⟩
  rw [up_id]; exact hC
theorem M_come {j k l : Nat} (hR : Ref G S a L I un u T tn fl m) (hV : Va a) (hj : j < a 0) (hk : k < 4) (hl : l < 8) (z : ∀ S', Ref G S' a L I un u T tn fl m → OffC S S' → Q (cmI L a j k l 9 0 0) S') : f_X11_come_59 G 87 (nI j) (nI k) (nI l) (nI (8 + (4 * j + k))) (nI (a (8 + (4 * j + k)))) Q 0 0 S := by
  have h6 := hV.1
  have s8 := hV.sin (i := 4 * j + k) (by omega)
  have st : ∀ (n v w : Nat) (r : Int32) (S1 : St), n + v = 9 → w ≤ 8 → cmI L a j k l n v r = cmI L a j k l 9 0 0 → Ref G S1 (up a (8 + (4 * j + k)) w) L I un u T tn fl m → OffC S S1 → f_X11_come_59_n G 87 (nI j) (nI k) (nI l) (nI (8 + (4 * j + k))) (nI (a (8 + (4 * j + k)))) Q (n + 1) r (nI v) S1 := by
    intro n
    induction n with
    | zero =>
      intro v w r S1 hv hw he hR1 o1
      rw [f_X11_come_59_n]
      refine ite_y (by simp (disch := omega) only [lit, nI_add, pk_mul, leI, ltI, eqI]; omega) (ex_y hR1.1.1.row ⟨inrow hR1.1.1 (by omega), nm_e ?_⟩)
      rw [clI (by omega)]
      have hR2 := hR1.set (i := 8 + (4 * j + k)) (v := a (8 + (4 * j + k))) (x := 8 + (4 * j + k)) (by unfold posR; omega) (by omega)
      rw [up_up, up_id] at hR2
      have he : r = cmI L a j k l 9 0 0 := he
      rw [he]
      exact z _ hR2 (o1.uI (by omega) (by omega))
    | succ n ih =>
      intro v w r S1 hv hw he hR1 o1
      have hVv : Va (up a (8 + (4 * j + k)) v) := hV.ups (by omega)
      rw [f_X11_come_59_n]
      refine ite_n (by simp (disch := omega) only [lit, nI_add, pk_mul, leI, ltI, eqI]; omega) (ex_y hR1.1.1.row ⟨inrow hR1.1.1 (by omega), nm_e ?_⟩)
      rw [clI (by omega)]
      have hR2 := hR1.set (i := 8 + (4 * j + k)) (v := v) (x := 8 + (4 * j + k)) (by unfold posR; omega) (by omega)
      rw [up_up] at hR2
      have o2 : OffC S (uI S1 90 (8 + (4 * j + k)) (nI v)) := o1.uI (by omega) (by omega)
      generalize uI S1 90 (8 + (4 * j + k)) (nI v) = S2 at hR2 o2 ⊢
      have l7 := lenA_le (lo := frc (up a (8 + (4 * j + k)) v) L) (a := up a (8 + (4 * j + k)) v) (j := j) hk
      refine m_grindsOf (hR2.rfp hVv) (by omega) hk (fun S3 f3 => ?_)
      have hR3 := hR2.frR f3
      have o3 := o2.trans f3.offC
      rw [cmI] at he
      rw [nI_1]
      refine ite_c (fun h => ?_) (fun h => ?_)
      · rw [eqI (by omega) (by omega)] at h
        rw [if_pos h] at he
        exact nm_e (ih (v + 1) v _ S3 (by omega) (by omega) he hR3 o3)
      · rw [eqI (by omega) (by omega)] at h
        rw [if_neg h] at he
        exact nm_p (e' := r) (Int32.or_zero) (ih (v + 1) v _ S3 (by omega) (by omega) he hR3 o3)
  refine ⟨10, st 9 0 (a (8 + (4 * j + k))) 0 S (by omega) s8 rfl ?_ (OffC.refl S)⟩
  rw [up_id]; exact hR
theorem R_29 {v w y : Int32} (h : Inv G S) (k : ∀ S', Inv G S' → K G S') : f_X10_come G 0 v w y (fun r S1 => f_X11_come G 87 v w y (fun r2 S2 => r = r2 ∧ K G S2) S1) S := by
  obtain ⟨a, L, I, un, u, T, tn, fl, m, hV, hC, hR⟩ := h
  have h6 := hV.1.1
  have fin := k _ (inv hV hC.th hR.th)
  have hr := hR.th
  refine ex_y hC.1.r0_0 ?_
  rcases ar_c (a 0) (by omega) v with ⟨j, hj, rfl⟩ | hv
  · refine c_has_y hC.2.1 hV.1 hj (ite_n (by decide) ?_)
    have py : ∀ {S1 : St} {Q' : Int32 → St → Prop}, Ref G S1 a L I un u T tn fl m → Q' 1 S1 → f_X11_isPerson G 87 (nI j) Q' S1 := fun hr hq => m_person_y hr.1.1 hr.1.2.1 hV.1 hj hq
    rcases ar_c 4 (by omega) w with ⟨x, hx, rfl⟩ | hw
    · refine c_kind_y hx (ite_n (by decide) ?_)
      rcases ar_c 8 (by omega) y with ⟨l, hl, rfl⟩ | hy
      · refine c_lens8_y hl (ite_n (by decide) (ex_y hC.1.r0_7 (ex_y hC.1.r0_0 (C_come hC hV.1 hj hx hl (fun S1 hC1 o1 => nm_e ?_)))))
        have hR1 := (hR.offR o1).th
        refine py hR1 (ite_n (by decide) (m_kind_y hx (ite_n (by decide) (m_in_y (l := 0) (h := 7) (by omega) rfl rfl (by omega) (by omega) (ite_n (by decide) (nm_p (e' := nI (8 + (4 * j + x))) ?_ (ex_y hR1.1.1.row ⟨inrow hR1.1.1 (by omega), nm_p (e' := nI (a (8 + (4 * j + x)))) ?_ ?_⟩)))))))
        · simp (disch := omega) only [show (8 : Int32) = nI 8 from rfl, show (4 : Int32) = nI 4 from rfl, nI_add, pk_mul]; congr 1; omega
        · rw [clI (by omega)]; exact hR1.1.2.1.2.2.2.2.2.1 _ (by omega)
        · exact M_come hR1 hV.1 hj hx hl (fun S2 hR2 o2 => ⟨rfl, k S2 (inv hV (hC1.th.offC o2) hR2)⟩)
      · refine c_rng_n (n := 8) hy (ite_y rfl (nm_e (py hr (ite_n (by decide) (m_kind_y hx (ite_n (by decide) (m_in_n (n := 8) (by omega) rfl rfl hy (ite_y rfl ⟨rfl, fin⟩))))))))
    · exact c_kind_n hw (ite_y rfl (nm_e (py hr (ite_n (by decide) (m_kind_n hw (ite_y rfl ⟨rfl, fin⟩))))))
  · exact c_has_n hC.2.1 hV.1 hv (ite_y rfl (nm_e (m_person_n hr.1.1 hr.1.2.1 hV.1 hv (ite_y rfl ⟨rfl, fin⟩))))
end
