-- needs: 200 201 202 203 204 210 211 220 221 222 223 224 225 226 227 228 230 231 232 240 241 242
/-! asks, alike, ground, drawn, count, forget, saw, end. -/
section
variable {G : Gm} {S S' : St} {a m : Rw} {L : Nat → Lw} {I : Im} {un tn : Nat} {u : Un} {T : Nat → Nat} {fl : Nat → Int32} {Q : Int32 → St → Prop} {K : Gm → St → Prop}
theorem R_2 {v w x : Int32} (h : Inv G S) (k : ∀ S', Inv G S' → K G S') : f_X10_asks G 0 v w x (fun r S1 => f_X11_asks G 87 v w x (fun r2 S2 => r = r2 ∧ K G S2) S1) S := by
  obtain ⟨a, L, I, un, u, T, tn, fl, m, hV, hC, hR⟩ := h
  have h6 := hV.1.1
  have hA := hC.1
  have fin : ∀ {r r2 : Int32}, r = r2 → r = r2 ∧ K G (uI S 87 0 0) := fun e => ⟨e, k _ (inv hV hC.th hR.th)⟩
  refine ex_y hA.r0_0 ?_
  rcases ar_c (a 0) (by omega) v with ⟨j, hj, rfl⟩ | hv
  · refine c_has_y hC.2.1 hV.1 hj (ite_n (by decide) ?_)
    rcases ar_c 4 (by omega) w with ⟨d, hd, rfl⟩ | hw
    · refine c_kind_y hd (ite_n (by decide) (ite_c (fun x0 => ?_) (fun x0 => ite_c (fun x1 => ?_) (fun x1 => ?_))))
      · subst x0
        refine ex_y hA.r0_4 (ex_y hA.r0_0 (ex_y hA.r0_0 ?_))
        refine c_lawInForce hA.p1 hC.2.1 hV.1 hC.2.2.1.1 (fun o ho => ⟨ho.ok, ?_⟩)
        refine c_lensFor hA.j20 hA.p1 hC.2.1 hV.1 (by omega) (by omega) ho hj hd (fun S1 f1 => ?_)
        have hC1 := hC.frJ f1 (by omega)
        have hR1 := hR.offR (f1.offR (by omega))
        refine nm_e (m_person_y hR1.th.1.1 hR1.th.1.2.1 hV.1 hj (ite_n (by decide) (m_kind_y hd (ite_n (by decide) (m_in_y (j := 0) (l := 0) (h := 1) (by omega) rfl rfl (by omega) (by omega) (ite_n (by decide) (ite_y rfl ?_)))))))
        exact m_grindsOf (hR1.th.rfp hV.1) (by omega) hd (fun S2 f2 => ⟨rfl, k _ (inv hV (hC1.th.offC f2.offC) (hR1.th.frR f2))⟩)
      · subst x1
        refine ex_y hA.r0_4 (ex_y hA.r0_0 ?_)
        refine c_growth hA.j20 hA.p1 hC.2.1 hV.1 hC.2.2.1.1 (by omega) (by omega) hj hd (fun S1 r hr f1 => ?_)
        have hC1 := hC.frJ f1 (by omega)
        have hR1 := hR.offR (f1.offR (by omega))
        refine nm_e (m_person_y hR1.th.1.1 hR1.th.1.2.1 hV.1 hj (ite_n (by decide) (m_kind_y hd (ite_n (by decide) (m_in_y (j := 1) (l := 0) (h := 1) (by omega) rfl rfl (by omega) (by omega) (ite_n (by decide) (ite_n (by decide) ?_)))))))
        exact m_growsOf (hR1.th.rfp hV.1) (by omega) hd (fun S2 r2 hr2 f2 => ⟨Int32.toInt_inj.mp (hr.trans hr2.symm), k _ (inv hV (hC1.th.offC f2.offC) (hR1.th.frR f2))⟩)
      · refine nm_e (m_person_y hR.th.1.1 hR.th.1.2.1 hV.1 hj (ite_n (by decide) (m_kind_y hd (ite_n (by decide) (m_in (fun h1 h2 => ?_) (fun _ => ite_y rfl (fin rfl)))))))
        exfalso
        rw [i32_64] at h1 h2
        have e0 : (0 : Int64).toInt = 0 := rfl
        have e1 : (1 : Int64).toInt = 1 := rfl
        have : x.toInt = 0 ∨ x.toInt = 1 := by omega
        rcases this with h | h
        · exact x0 (Int32.toInt_inj.mp h)
        · exact x1 (Int32.toInt_inj.mp h)
    · refine c_kind_n hw (ite_y rfl ?_)
      exact nm_e (m_person_y hR.th.1.1 hR.th.1.2.1 hV.1 hj (ite_n (by decide) (m_kind_n hw (ite_y rfl (fin rfl)))))
  · refine c_has_n hC.2.1 hV.1 hv (ite_y rfl ?_)
    exact nm_e (m_person_n hR.th.1.1 hR.th.1.2.1 hV.1 hv (ite_y rfl (fin rfl)))
/-- how many of the first n see the same -/
def alk (a : Rw) (s : Nat) : Nat → Nat
  | 0 => 0
  | n + 1 => alk a s n + (if sgt a n = s then 1 else 0)
theorem alk_le {s : Nat} : ∀ n, alk a s n ≤ n := by
  intro n
  induction n with
  | zero => exact Nat.le_refl _
  | succ n ih => unfold alk; split <;> omega
theorem C_alike {j : Nat} (hC : Cls G S a L I un u T tn fl m) (hV : Va a) (hj : j < a 0) (h : Q (nI (alk a (sgt a j) (a 0))) S) : f_X10_alike G 0 (nI j) Q S := by
  have h6 := hV.1
  have s8 := sgt_lt hV (j := j) (by omega)
  refine ex_y hC.1.r0_0 (c_has_y hC.2.1 hV hj (ite_n (by decide) (ex_y hC.1.r0_0 (c_sightOf hC.1.p1 hC.2.1 hV hj ?_))))
  have main : ∀ x i, i + x = a 0 → f_X10_alike_27_n G 0 (nI (sgt a j)) Q (x + 1) (nI (alk a (sgt a j) i)) (nI i) S := by
    intro x
    induction x with
    | zero =>
      intro i hi
      rw [f_X10_alike_27_n]
      refine ex_y hC.1.r0_0 (ite_y (by rw [hC.2.1.1, leI (by omega) (by omega)]; omega) ?_)
      rw [show i = a 0 from by omega]; exact h
    | succ x ih =>
      intro i hi
      have z := ih (i + 1) (by omega)
      rw [f_X10_alike_27_n]
      generalize f_X10_alike_27_n G 0 (nI (sgt a j)) Q (x + 1) = W at z ⊢
      have s9 := sgt_lt hV (j := i) (by omega)
      refine ex_y hC.1.r0_0 (ite_n (by rw [hC.2.1.1, leI (by omega) (by omega)]; omega) (ex_y hC.1.r0_0 (c_sightOf hC.1.p1 hC.2.1 hV (by omega) ?_)))
      unfold alk at z
      refine ite_c (fun d => ?_) (fun d => ?_)
      · rw [eqI (by omega) (by omega)] at d
        rw [if_pos d] at z
        rw [nI_1, nI_1]; exact z
      · rw [eqI (by omega) (by omega)] at d
        rw [if_neg d] at z
        rw [nI_1]; exact z
  exact ⟨_, main (a 0) 0 (by omega)⟩
theorem M_alike {j : Nat} (hR : Ref G S a L I un u T tn fl m) (hV : Va a) (hj : j < a 0) (h : Q (nI (alk a (sgt a j) (a 0))) (uI S 87 0 0)) : f_X11_alike G 87 (nI j) Q S := by
  have h6 := hV.1
  have s8 := sgt_lt hV (j := j) (by omega)
  have hr := hR.th
  refine nm_e (m_person_y hr.1.1 hr.1.2.1 hV hj (ite_n (by decide) ?_))
  generalize uI S 87 0 0 = S0 at hr h ⊢
  have main : ∀ x i, i + x = a 0 → f_X11_alike_19_n G 87 (nI j) Q (x + 1) (nI (alk a (sgt a j) i)) (nI i) S0 := by
    intro x
    induction x with
    | zero =>
      intro i hi
      rw [f_X11_alike_19_n]
      refine ex_y hr.1.1.row ⟨inrow (n := 0) hr.1.1 (by omega), ite_y ?_ ?_⟩
      · show S0.1 90 0 ≤ _
        rw [hr.1.2.1.1, leI (by omega) (by omega)]; omega
      · rw [show i = a 0 from by omega]; exact h
    | succ x ih =>
      intro i hi
      have z := ih (i + 1) (by omega)
      rw [f_X11_alike_19_n]
      generalize f_X11_alike_19_n G 87 (nI j) Q (x + 1) = W at z ⊢
      have s9 := sgt_lt hV (j := i) (by omega)
      refine ex_y hr.1.1.row ⟨inrow (n := 0) hr.1.1 (by omega), ite_n ?_ ?_⟩
      · show ¬ S0.1 90 0 ≤ _
        rw [hr.1.2.1.1, leI (by omega) (by omega)]; omega
      refine m_sightOf hr.1.1 hr.1.2.1 hr.1.2.2.1 hV (by omega) (m_sightOf hr.1.1 hr.1.2.1 hr.1.2.2.1 hV (by omega) ?_)
      unfold alk at z
      refine ite_c (fun d => ?_) (fun d => ?_)
      · rw [eqI (by omega) (by omega)] at d
        rw [if_pos d] at z
        refine nm_p (nI_1 _) ?_
        rw [nI_1]; exact z
      · rw [eqI (by omega) (by omega)] at d
        rw [if_neg d] at z
        refine nm_p (e' := nI (alk a (sgt a j) i + 0)) (by rw [lit, nI_add]) ?_
        rw [nI_1]; exact z
  exact ⟨_, main (a 0) 0 (by omega)⟩
theorem R_31 {v : Int32} (h : Inv G S) (k : ∀ S', Inv G S' → K G S') : f_X10_alike G 0 v (fun r S1 => f_X11_alike G 87 v (fun r2 S2 => r = r2 ∧ K G S2) S1) S := by
  obtain ⟨a, L, I, un, u, T, tn, fl, m, hV, hC, hR⟩ := h
  have h6 := hV.1.1
  have fin := k _ (inv hV hC.th hR.th)
  rcases ar_c (a 0) (by omega) v with ⟨j, hj, rfl⟩ | hv
  · exact C_alike hC hV.1 hj (M_alike hR hV.1 hj ⟨rfl, fin⟩)
  · refine ex_y hC.1.r0_0 (c_has_n hC.2.1 hV.1 hv (ite_y rfl ?_))
    exact nm_e (m_person_n hR.th.1.1 hR.th.1.2.1 hV.1 hv (ite_y rfl ⟨rfl, fin⟩))
/-- ground -/
theorem frc_up {f : Nat} : frc (up a 3 f) L = if f = 0 then none else some (L (f - 1)) := by
  unfold frc; rw [up_s]
theorem lenA_up3 {lo : Option Lw} {f j k : Nat} : lenA lo (up a 3 f) j k = lenA lo a j k := by
  have e : eS (up a 3 f) j k = eS a j k := by
    unfold eS sn4
    rw [up_n a (by omega), up_n a (by omega), up_n a (by omega), up_n a (by omega), up_n a (by omega), up_n a (by omega), up_n a (by omega)]
  unfold lenA
  rw [e, up_n a (by omega)]
theorem glsA_up3 {lo : Option Lw} {f j : Nat} : glsA lo (up a 3 f) j = glsA lo a j := by
  unfold glsA; rw [lenA_up3, lenA_up3, lenA_up3, lenA_up3]
theorem uI_back {S1 : St} {i j : Nat} {v : Int32} (h : S1.1 i j = v) : uI S1 i j v = S1 := by
  unfold uI
  refine Prod.ext ?_ rfl
  funext x y
  show (if x = i ∧ y = j then v else S1.1 x y) = S1.1 x y
  split
  · rename_i hh; rw [hh.1, hh.2, h]
  · rfl
theorem R_32 {v w : Int32} (h : Inv G S) (k : ∀ S', Inv G S' → K G S') : f_X10_ground G 0 v w (fun r S1 => f_X11_ground G 87 v w (fun r2 S2 => r = r2 ∧ K G S2) S1) S := by
  obtain ⟨a, L, I, un, u, T, tn, fl, m, hV, hC, hR⟩ := h
  have h6 := hV.1.1
  have h2 := hV.1.2.2.1
  have hA := hC.1
  have fin := k _ (inv hV hC.th hR.th)
  refine ex_y hA.r0_0 ?_
  rcases ar_c (a 0) (by omega) w with ⟨j, hj, rfl⟩ | hw
  · refine c_has_y hC.2.1 hV.1 hj (ite_n (by decide) ?_)
    have good : ∀ f, f ≤ a 2 → v = nI f - 1 → (∀ (Q' : Option Nat → St → Prop), (∀ o, OptT G S o (if f = 0 then none else some (L (f - 1))) → Q' o S) → f_X5_lawAt G 1 v Q' S) → (∀ (Q' : Int32 → St → Prop) (S' : St), Ref G S' a L I un u T tn fl m → Q' 1 S' → f_X11_isLaw G 87 v Q' S') → f_X10_ground_29 G 0 v (nI j) (fun r S1 => f_X11_ground G 87 v (nI j) (fun r2 S2 => r = r2 ∧ K G S2) S1) S := by
      intro f hf hv hla hl
      refine ex_y hA.r0_4 (ex_y hA.r0_0 (ex_y hA.r0_0 (hla _ (fun o ho => ⟨ho.ok, ?_⟩))))
      refine c_glassBy hA.j20 hA.p1 hC.2.1 hV.1 (by omega) (by omega) ho hj (fun S1 f1 => c_lensesIn glsA_v ?_)
      have hC1 := hC.frJ f1 (by omega)
      have hR1 := hR.offR (f1.offR (by omega))
      have hr := hR1.th
      refine nm_e (hl _ _ hr (ite_n (by decide) (m_person_y hr.1.1 hr.1.2.1 hV.1 hj (ite_n (by decide) ?_))))
      refine ex_y hr.1.1.row ⟨inrow (n := 3) hr.1.1 (by omega), nm_e (ex_y hr.1.1.row ⟨inrow (n := 3) hr.1.1 (by omega), nm_e ?_⟩)⟩
      have hr3 := hr.setF (v := f)
      rw [hv]
      refine m_layGround (hr3.rfp (hV.1.force hf)) (by omega) (fun S2 f2 _ => ?_)
      have e3 : ShR G S2.2.2 := by rw [f2.1]; exact hr.1.1
      refine ex_y e3.row ⟨inrow (n := 3) e3 (by omega), nm_e ⟨?_, ?_⟩⟩
      · rw [frc_up, glsA_up3]
      · have o2 : (uI S1 87 0 0).1 90 ((3 : Int32).toNatClampNeg) = nI (a 3) - 1 := hr.1.2.1.2.2.2.1
        rw [o2]
        have hr4 := (hr3.frX f2 (by intro i hi; omega)).setF (v := a 3)
        have e60 : eq60 (up (up a 3 f) 3 (a 3)) a := by
          intro i _
          unfold up
          by_cases e : i = 3
          · rw [if_pos e, e]
          · rw [if_neg e, if_neg e]
        refine k _ (inv hV ?_ (hr4.eqa e60))
        exact ((hC1.th.offC ((OffC.refl _).uI (i := 90) (by omega) (by omega))).offC (f2.offC (by intro i hi; omega))).offC ((OffC.refl _).uI (i := 90) (by omega) (by omega))
    refine ite_c (fun h1 => ?_) (fun h1 => ex_y hA.r0_0 ?_)
    · refine good 0 (by omega) h1 (fun Q' hq => ?_) (fun Q' S' _ hq => ite_y h1 hq)
      rw [h1]
      exact c_lawAt_n hC.2.1 (.inl (by decide)) (hq none (.inl ⟨rfl, rfl⟩))
    · rcases ar_c (a 2) (by omega) v with ⟨l, hl, rfl⟩ | hv
      · refine c_hasLaw_y hC.2.1 hV.1 hl (ite_n (by decide) ?_)
        exact good (l + 1) (by omega) (nI_pred l).symm (fun Q' hq => c_lawAt_y hA.p1 hC.2.1 hV.1 hC.2.2.1.1 hl (fun o ho => hq o ho)) (fun Q' S' hr hq => m_isLaw_y hr hV.1 hl hq)
      · refine c_hasLaw_n hC.2.1 hv (ite_y rfl ?_)
        exact nm_e (m_isLaw_n hR.th hV.1 h1 hv (ite_y rfl ⟨rfl, fin⟩))
  · refine c_has_n hC.2.1 hV.1 hw (ite_y rfl ?_)
    have np := fun (Q' : Int32 → St → Prop) (h : Q' 0 (uI S 87 0 0)) => m_person_n (Q := Q') hR.th.1.1 hR.th.1.2.1 hV.1 hw h
    by_cases h1 : v = -1
    · exact nm_e (ite_y h1 (ite_n (by decide) (np _ (ite_y rfl ⟨rfl, fin⟩))))
    · rcases ar_c (a 2) (by omega) v with ⟨l, hl, rfl⟩ | hv
      · exact nm_e (m_isLaw_y hR.th hV.1 hl (ite_n (by decide) (np _ (ite_y rfl ⟨rfl, fin⟩))))
      · exact nm_e (m_isLaw_n hR.th hV.1 h1 hv (ite_y rfl ⟨rfl, fin⟩))
end
