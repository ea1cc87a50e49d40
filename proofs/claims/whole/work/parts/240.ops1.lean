-- needs: 200 201 202 203 204 210 211 220 221 222 223 224 225 226 227 228 230 231 232
/-! Small calls: the same answer on both sides, the same state behind it. -/
section
variable {G : Gm} {S S' : St} {a m : Rw} {L : Nat → Lw} {I : Im} {un tn : Nat} {u : Un} {T : Nat → Nat} {fl : Nat → Int32} {Q : Int32 → St → Prop} {K : Gm → St → Prop}
theorem inv (hV : Vld a I un u T tn m) (hC : Cls G S a L I un u T tn fl m) (hR : Ref G S a L I un u T tn fl m) : Inv G S := ⟨a, L, I, un, u, T, tn, fl, m, hV, hC, hR⟩
theorem Cls.th (h : Cls G S a L I un u T tn fl m) : Cls G (uI S 87 0 0) a L I un u T tn fl m := h.offC ((OffC.refl S).uI (by omega) (by omega))
theorem Ref.th (h : Ref G S a L I un u T tn fl m) : Ref G (uI S 87 0 0) a L I un u T tn fl m := h.u87 (by omega)
theorem offth : OffC S (uI S 87 0 0) := (OffC.refl S).uI (by omega) (by omega)
theorem R_10 (h : Inv G S) (k : ∀ S', Inv G S' → K G S') : f_X10_smears G 0 (fun r S1 => f_X11_smears G 87 (fun r2 S2 => r = r2 ∧ K G S2) S1) S := by
  obtain ⟨a, L, I, un, u, T, tn, fl, m, hV, hC, hR⟩ := h
  refine nm_e ⟨?_, k _ (inv hV hC.th hR.th)⟩
  show S.1 0 11 = S.1 87 12
  rw [hC.2.2.2.2.2.2.2.1.2.1, hR.2.2.2.2.1.2.1]
theorem R_13 (h : Inv G S) (k : ∀ S', Inv G S' → K G S') : f_X10_fault G 0 (fun r S1 => f_X11_fault G 87 (fun r2 S2 => r = r2 ∧ K G S2) S1) S := by
  obtain ⟨a, L, I, un, u, T, tn, fl, m, hV, hC, hR⟩ := h
  refine ex_y hC.1.r0_8 (nm_e ⟨?_, k _ (inv hV hC.th hR.th)⟩)
  show S.1 75 9 = S.1 87 19
  rw [hC.2.2.2.2.2.2.2.1.2.2.2.1, hR.2.2.2.2.1.2.2.2.1]
theorem R_14 (h : Inv G S) (k : ∀ S', Inv G S' → K G S') : f_X10_stopped G 0 (fun r S1 => f_X11_stopped G 87 (fun r2 S2 => r = r2 ∧ K G S2) S1) S := by
  obtain ⟨a, L, I, un, u, T, tn, fl, m, hV, hC, hR⟩ := h
  refine nm_e ⟨?_, k _ (inv hV hC.th hR.th)⟩
  show S.1 0 12 = S.1 87 55
  rw [hC.2.2.2.2.2.2.2.1.2.2.1, hR.2.2.2.2.1.2.2.1]
theorem R_40 (h : Inv G S) (k : ∀ S', Inv G S' → K G S') : f_X10_status G 0 (fun r S1 => f_X11_status G 87 (fun r2 S2 => r = r2 ∧ K G S2) S1) S := by
  obtain ⟨a, L, I, un, u, T, tn, fl, m, hV, hC, hR⟩ := h
  refine nm_e ⟨?_, k _ (inv hV hC.th hR.th)⟩
  show S.1 0 10 = S.1 87 1
  rw [hC.2.2.2.2.2.2.2.1.1, hR.2.2.2.2.1.1]
/-- wanted -/
theorem M_change {i x v : Nat} (h : Ref G S a L I un u T tn fl m) (hp : posR i x) (hx : x ≠ 2) (k : ∀ S', Ref G S' (up a x v) L I un u T tn (flA fl) m → OffC S S' → Q (S.1 90 i) S') : f_X11_change G 87 (nI i) (nI v) Q S := by
  have hS := h.1.1
  have hi : i < 85 := by
    unfold posR at hp
    rcases hp with hp | hp | ⟨k, hp⟩ | ⟨k, hp⟩ <;> omega
  refine ex_y hS.row ?_
  rw [clI (by omega)]
  refine ⟨inrow hS (by omega), nm_e (ex_y hS.row ?_)⟩
  refine ⟨inrow hS (by omega), nm_e (nm_e (k _ ((h.set hp hx).flag (k := 0) (j := 1) (by omega)) (((OffC.refl S).uI (by omega) (by omega)).uI (by omega) (by omega))))⟩
theorem R_4 {v w : Int32} (h : Inv G S) (k : ∀ S', Inv G S' → K G S') : f_X10_wanted G 0 v w (fun r S1 => f_X11_wanted G 87 v w (fun r2 S2 => r = r2 ∧ K G S2) S1) S := by
  obtain ⟨a, L, I, un, u, T, tn, fl, m, hV, hC, hR⟩ := h
  have h6 := hV.1.1
  unfold f_X10_wanted
  rcases ar_c 4 (by omega) w with ⟨d, hd, rfl⟩ | hw
  · refine ite_n (by simp (disch := omega) only [lit, nI_add, pk_mul, leI, ltI, eqI]; omega) (ite_y (by simp (disch := omega) only [lit, nI_add, pk_mul, leI, ltI, eqI]; omega) (ex_y hC.1.r0_0 ?_))
    rcases ar_c (a 0) (by omega) v with ⟨j, hj, rfl⟩ | hv
    · have w3 := hV.1.wa (i := j) (by omega)
      refine c_has_y hC.2.1 hV.1 hj (ite_n (by decide) (ex_y hC.1.r0_0 ?_))
      refine c_wantedOf hC.1.p1 hC.2.1 hV.1 hj (ex_y hC.1.r0_0 ?_)
      refine c_setWanted hC.1.p1 hC.2.1 hV.1 hj ?_
      have hC1 := hC.set (q := 1 + 3) (i := j) (v := d) (x := 38 + j) (by unfold pos; omega) (by omega)
      refine C_accept hC1 (fun S2 hC2 o2 => ?_)
      have hR2 := hR.offR (((OffR.refl S).uI (i := 1 + 3) (j := j) (v := nI d) (by omega)).trans o2)
      refine nm_e (m_in_y (l := 0) (h := 3) (by omega) rfl rfl (by omega) (by omega) (ite_n (by decide) ?_))
      refine m_person_y hR2.th.1.1 hR2.th.1.2.1 hV.1 hj (ite_n (by decide) ?_)
      rw [show (62 : Int32) + nI j = nI (62 + j) from by rw [lit, nI_add]]
      refine M_change (x := 38 + j) hR2.th (by unfold posR; omega) (by omega) (fun S3 hR3 o3 => ⟨?_, k S3 (inv (hV.set (hV.1.ups (by omega)) (by omega)) ((hC2.th).offC o3) hR3)⟩)
      exact (hR2.th.1.2.1.2.2.2.2.2.2.2.2.1 j (by omega)).symm
    · refine c_has_n hC.2.1 hV.1 hv (ite_y rfl ?_)
      refine C_refuse (n := 2) hC (by omega) (by omega) (fun S2 hC2 o2 => ?_)
      have hR2 := hR.offR o2
      refine nm_e (m_in_y (l := 0) (h := 3) (by omega) rfl rfl (by omega) (by omega) (ite_n (by decide) ?_))
      refine m_person_n hR2.th.1.1 hR2.th.1.2.1 hV.1 hv (ite_y rfl ?_)
      exact M_tell_n (n := 2) hR2.th (by omega) (by omega) (fun S3 hR3 o3 => ⟨rfl, k S3 (inv hV (hC2.th.offC o3) hR3)⟩)
  · have cl : f_X10_wanted_9 G 0 (fun r S1 => f_X11_wanted G 87 v w (fun r2 S2 => r = r2 ∧ K G S2) S1) S := by
      refine C_refuse (n := 1) hC (by omega) (by omega) (fun S2 hC2 o2 => ?_)
      have hR2 := hR.offR o2
      refine nm_e (m_in_n (n := 4) (by omega) rfl rfl hw (ite_y rfl ?_))
      exact M_tell_n (n := 1) hR2.th (by omega) (by omega) (fun S3 hR3 o3 => ⟨rfl, k S3 (inv hV (hC2.th.offC o3) hR3)⟩)
    refine ite_c (fun _ => cl) (fun h0 => ite_n ?_ cl)
    rcases hw with hw | hw
    · exact absurd hw h0
    · rw [i32_le] at hw ⊢
      rw [nI_toInt (by omega)] at hw
      have : (3 : Int32).toInt = 3 := rfl
      omega
/-- lens -/
theorem c_lens8_y {l : Nat} (hl : l < 8) (h : Q 1 S) : f_X10_isLens G (nI l) Q S := ite_n (by simp (disch := omega) only [lit, nI_add, pk_mul, leI, ltI, eqI]; omega) (ite_n (by simp (disch := omega) only [lit, nI_add, pk_mul, leI, ltI, eqI]; omega) h)
theorem c_rng_n {n : Nat} {v : Int32} {A B : Prop} (hv : v < 0 ∨ nI n ≤ v) (h : A) : if v < 0 then A else (if nI n ≤ v then A else B) := by
  refine ite_c (fun _ => h) (fun h0 => ?_)
  rcases hv with hv | hv
  · exact absurd hv h0
  · exact ite_y hv h
theorem c_num_y {x : Nat} (hx : x < 256) (h : Q 1 S) : f_X10_isNumber G (nI x) Q S := ite_n (by simp (disch := omega) only [lit, nI_add, pk_mul, leI, ltI, eqI]; omega) (ite_n (by simp (disch := omega) only [lit, nI_add, pk_mul, leI, ltI, eqI]; omega) h)
theorem R_5 {v w : Int32} (h : Inv G S) (k : ∀ S', Inv G S' → K G S') : f_X10_lens G 0 v w (fun r S1 => f_X11_lens G 87 v w (fun r2 S2 => r = r2 ∧ K G S2) S1) S := by
  obtain ⟨a, L, I, un, u, T, tn, fl, m, hV, hC, hR⟩ := h
  have fin := k _ (inv hV hC.th hR.th)
  rcases ar_c 8 (by omega) v with ⟨l, hl, rfl⟩ | hv
  · refine c_lens8_y hl (ite_n (by decide) ?_)
    rcases ar_c 256 (by omega) w with ⟨x, hx, rfl⟩ | hw
    · refine c_num_y hx (ite_n (by decide) (c_bend hl hx ?_))
      refine nm_e (m_in_y (l := 0) (h := 7) (by omega) rfl rfl (by omega) (by omega) (ite_n (by decide) (m_sight_y hx (ite_n (by decide) (ex_y hR.1.1.made ?_)))))
      simp (disch := omega) only [lit, nI_add, pk_mul, clI, in_iff]
      rw [hR.1.1.made_l]
      refine ⟨by omega, ?_, fin⟩
      exact (hR.1.2.2.1 l hl x hx).symm
    · refine c_rng_n (n := 256) hw (ite_y rfl ?_)
      exact nm_e (m_in_y (l := 0) (h := 7) (by omega) rfl rfl (by omega) (by omega) (ite_n (by decide) (m_sight_n hw (ite_y rfl ⟨rfl, fin⟩))))
  · refine c_rng_n (n := 8) hv (ite_y rfl ?_)
    exact nm_e (m_in_n (n := 8) (by omega) rfl rfl hv (ite_y rfl ⟨rfl, fin⟩))
/-- terms -/
def mst (k : Nat) : Nat := if k = 0 then 999 else if k = 1 then 10 else if k = 2 then 9 else 255
theorem lt4 {k : Nat} (h : k < 4) : k = 0 ∨ k = 1 ∨ k = 2 ∨ k = 3 := by omega
theorem mo_e {k : Nat} (h : k < 4) : mo (nI k) = nI (mst k) := by rcases lt4 h with rfl | rfl | rfl | rfl <;> rfl
theorem mst_le {k : Nat} : mst k ≤ 999 := by
  unfold mst
  repeat' split
  all_goals omega
theorem m_term_y {j x : Nat} (hj : j < 4) (hx : x ≤ mst j) (h : Q 1 S) : f_X11_isTerm G (nI j) (nI x) Q S := by
  unfold f_X11_isTerm
  rcases lt4 hj with rfl | rfl | rfl | rfl
  · exact ite_y rfl (m_in_y (l := 0) (h := 999) (by have := mst_le (k := 0); omega) rfl rfl (by omega) hx ⟨.inr rfl, h⟩)
  · exact ite_n (by decide) (ite_y rfl (m_in_y (l := 0) (h := 10) (by have := mst_le (k := 1); omega) rfl rfl (by omega) hx ⟨.inr rfl, h⟩))
  · exact ite_n (by decide) (ite_n (by decide) (ite_y rfl (m_in_y (l := 0) (h := 9) (by have := mst_le (k := 2); omega) rfl rfl (by omega) hx ⟨.inr rfl, h⟩)))
  · exact ite_n (by decide) (ite_n (by decide) (ite_n (by decide) (ite_y rfl (m_sight_y (by have : x ≤ 255 := hx; omega) ⟨.inr rfl, h⟩))))
theorem m_term_n {j : Nat} {x : Int32} (hj : j < 4) (hx : x < 0 ∨ nI (mst j + 1) ≤ x) (h : Q 0 S) : f_X11_isTerm G (nI j) x Q S := by
  unfold f_X11_isTerm
  rcases lt4 hj with rfl | rfl | rfl | rfl
  · exact ite_y rfl (m_in_n (n := 1000) (by omega) rfl rfl hx ⟨.inl rfl, h⟩)
  · exact ite_n (by decide) (ite_y rfl (m_in_n (n := 11) (by omega) rfl rfl hx ⟨.inl rfl, h⟩))
  · exact ite_n (by decide) (ite_n (by decide) (ite_y rfl (m_in_n (n := 10) (by omega) rfl rfl hx ⟨.inl rfl, h⟩)))
  · exact ite_n (by decide) (ite_n (by decide) (ite_n (by decide) (ite_y rfl (m_sight_n hx ⟨.inl rfl, h⟩))))
theorem ne_of_rng {n i : Nat} {v : Int32} (hi : i < n) (hn : n < 2147483648) (hv : v < 0 ∨ nI n ≤ v) : ¬ v = nI i := by
  rintro rfl
  rcases hv with hv | hv
  · exact nI_pos (n := i) (by omega) hv
  · rw [leI (by omega) (by omega)] at hv; omega
theorem m_term_k {v x : Int32} (hv : v < 0 ∨ nI 4 ≤ v) (h : Q 0 S) : f_X11_isTerm G v x Q S :=
  ite_n (ne_of_rng (n := 4) (i := 0) (by omega) (by omega) hv) (ite_n (ne_of_rng (n := 4) (i := 1) (by omega) (by omega) hv) (ite_n (ne_of_rng (n := 4) (i := 2) (by omega) (by omega) hv) (ite_n (ne_of_rng (n := 4) (i := 3) (by omega) (by omega) hv) h)))
theorem R_6 {v w : Int32} (h : Inv G S) (k : ∀ S', Inv G S' → K G S') : f_X10_terms G 0 v w (fun r S1 => f_X11_terms G 87 v w (fun r2 S2 => r = r2 ∧ K G S2) S1) S := by
  obtain ⟨a, L, I, un, u, T, tn, fl, m, hV, hC, hR⟩ := h
  have bad : (∀ S1, f_X11_isTerm G v w (fun r3 S2 => (if r3 = 0 then f_X11_tell G 87 (-1) (fun r9 S8 => (-(nI 1)) = r9 ∧ K G S8) S2 else (∀ S5, S5 = uI S2 87 9 0 → f_X11_change G 87 (4 + v) w (fun r7 S6 => (-(nI 1)) = r7 ∧ K G S6) S5))) S1 = f_X11_isTerm G v w (fun r3 S2 => (if r3 = 0 then f_X11_tell G 87 (-1) (fun r9 S8 => (-(nI 1)) = r9 ∧ K G S8) S2 else (∀ S5, S5 = uI S2 87 9 0 → f_X11_change G 87 (4 + v) w (fun r7 S6 => (-(nI 1)) = r7 ∧ K G S6) S5))) S1) := fun _ => rfl
  have no : (∀ (Q' : Int32 → St → Prop) (S' : St), Q' 0 S' → f_X11_isTerm G v w Q' S') → f_X10_terms_22 G 0 (fun r S1 => f_X11_terms G 87 v w (fun r2 S2 => r = r2 ∧ K G S2) S1) S := by
    intro ht
    refine C_refuse (n := 1) hC (by omega) (by omega) (fun S2 hC2 o2 => ?_)
    have hR2 := hR.offR o2
    refine nm_e (ht _ _ (ite_y rfl ?_))
    exact M_tell_n (n := 1) hR2.th (by omega) (by omega) (fun S3 hR3 o3 => ⟨rfl, k S3 (inv hV (hC2.th.offC o3) hR3)⟩)
  unfold f_X10_terms
  rcases ar_c 4 (by omega) v with ⟨j, hj, rfl⟩ | hv
  · refine ite_n (by simp (disch := omega) only [lit, nI_add, pk_mul, leI, ltI, eqI]; omega) (ite_n (by simp (disch := omega) only [lit, nI_add, pk_mul, leI, ltI, eqI]; omega) ?_)
    have ml := mst_le (k := j)
    rcases ar_c (mst j + 1) (by omega) w with ⟨x, hx, rfl⟩ | hw
    · refine ite_n (by simp (disch := omega) only [lit, nI_add, pk_mul, leI, ltI, eqI]; omega) ⟨by rw [in_iff (by omega)]; exact hj, ite_y (by rw [mo_e hj, leI (by omega) (by omega)]; omega) (ex_y hC.1.r0_3 ?_)⟩
      refine C_empty hC (fun S1 hC1 o1 => ex_y hC1.1.r0_0 ?_)
      refine c_termOf hC1.1.p1 hC1.2.1 hj (ex_y hC1.1.r0_0 ?_)
      refine c_setTerm hC1.1.p1 hj ?_
      have hC2 := hC1.set (q := 1 + 4) (i := j) (v := x) (x := 4 + j) (by unfold pos; omega) (by omega)
      refine C_accept hC2 (fun S3 hC3 o3 => ?_)
      have hR3 := hR.offR ((o1.uI (i := 1 + 4) (j := j) (v := nI x) (by omega)).trans o3)
      refine nm_e (m_term_y hj (by omega) (ite_n (by decide) (nm_e ?_)))
      rw [show (4 : Int32) + nI j = nI (4 + j) from by rw [lit, nI_add]]
      have vx : Va (up a (4 + j) x) := by
        refine hV.1.ups ?_
        unfold mst at hx
        rcases lt4 hj with rfl | rfl | rfl | rfl
        · left; simp at hx; omega
        · right; left; simp at hx; omega
        · right; right; left; simp at hx; omega
        · right; right; right; left; simp at hx; omega
      refine M_change (x := 4 + j) hR3.th.un0 (by unfold posR; omega) (by omega) (fun S4 hR4 o4 => ⟨?_, k S4 (inv (hV.set0 vx) ((hC3.th.offC ((OffC.refl _).uI (by omega) (by omega))).offC o4) hR4)⟩)
      exact (hR3.th.un0.1.2.1.2.2.2.2.1 j hj).symm
    · have cl := no (fun Q' S' hq => m_term_n hj hw hq)
      refine ite_c (fun _ => cl) (fun h0 => ⟨by rw [in_iff (by omega)]; exact hj, ite_n ?_ cl⟩)
      rw [mo_e hj]
      rcases hw with hw | hw
      · exact absurd hw h0
      · rw [i32_le] at hw ⊢
        rw [nI_toInt (by omega)] at hw ⊢
        omega
  · exact c_rng_n (n := 4) hv (no (fun Q' S' hq => m_term_k hv hq))
/-- force -/
theorem m_isLaw_y {j : Nat} (hR : Ref G S a L I un u T tn fl m) (hV : Va a) (hj : j < a 2) (h : Q 1 S) : f_X11_isLaw G 87 (nI j) Q S := by
  have h6 := hV.2.2.1
  unfold f_X11_isLaw
  refine ite_c (fun _ => h) (fun _ => ex_y hR.1.1.row ⟨inrow (n := 2) hR.1.1 (by omega), ?_⟩)
  show f_X11_in _ _ _ (((S.1 90 2).toInt64) - 1) _ _
  rw [hR.1.2.1.2.2.1]
  refine m_in (fun _ _ => ite_n (by decide) h) (fun n => ?_)
  exfalso; apply n
  rw [i32_64, nI_toInt (by omega), l1 (by omega)]
  have : (0 : Int64).toInt = 0 := rfl
  omega
theorem m_isLaw_n {v : Int32} (hR : Ref G S a L I un u T tn fl m) (hV : Va a) (h1 : ¬ v = -1) (hv : v < 0 ∨ nI (a 2) ≤ v) (h : Q 0 S) : f_X11_isLaw G 87 v Q S := by
  have h6 := hV.2.2.1
  refine ite_n h1 (ex_y hR.1.1.row ⟨inrow (n := 2) hR.1.1 (by omega), ?_⟩)
  show f_X11_in _ _ _ (((S.1 90 2).toInt64) - 1) _ _
  rw [hR.1.2.1.2.2.1]
  exact m_in_n (n := a 2) (by omega) rfl (l1 (by omega)) hv (ite_y rfl h)
theorem c_hasLaw_y {j : Nat} (hP : ParC S 1 a) (hV : Va a) (hj : j < a 2) (h : Q 1 S) : f_X5_hasLaw G 1 (nI j) Q S := by
  have h6 := hV.2.2.1
  show ite _ _ _
  rw [hP.2.2.1]
  exact ite_n (by simp (disch := omega) only [lit, nI_add, pk_mul, leI, ltI, eqI]; omega) (ite_n (by simp (disch := omega) only [lit, nI_add, pk_mul, leI, ltI, eqI]; omega) (ite_n (by simp (disch := omega) only [lit, nI_add, pk_mul, leI, ltI, eqI]; omega) h))
theorem c_hasLaw_n {v : Int32} (hP : ParC S 1 a) (hv : v < 0 ∨ nI (a 2) ≤ v) (h : Q 0 S) : f_X5_hasLaw G 1 v Q S := by
  show ite _ _ _
  rw [hP.2.2.1]
  exact c_rng_n hv h
theorem Va.force {f : Nat} (hV : Va a) (hf : f ≤ a 2) : Va (up a 3 f) := by
  have z : ∀ i, i ≠ 3 → up a 3 f i = a i := fun i hi => up_n a hi
  obtain ⟨h0, h1, h2, h3, h4, h5, h6, h7, h8, h9, h10, h11, h12, h13⟩ := hV
  refine ⟨?_, ?_, ?_, ?_, ?_, ?_, ?_, ?_, fun k hk => ?_, fun k hk => ?_, fun k hk => ?_, fun k hk => ?_, fun k hk => ?_, fun k hk => ?_⟩
  · rw [z _ (by omega)]; exact h0
  · rw [z _ (by omega)]; exact h1
  · rw [z _ (by omega)]; exact h2
  · rw [up_s, z _ (by omega)]; exact hf
  · rw [z _ (by omega)]; exact h4
  · rw [z _ (by omega)]; exact h5
  · rw [z _ (by omega)]; exact h6
  · rw [z _ (by omega)]; exact h7
  · rw [z _ (by omega)]; exact h8 k hk
  · rw [z _ (by omega)]; exact h9 k hk
  · rw [z _ (by omega)]; exact h10 k hk
  · rw [z _ (by omega)]; exact h11 k hk
  · rw [z _ (by omega)]; exact h12 k hk
  · rw [z _ (by omega)] at hk
    rw [z _ (by omega), z _ (by omega)]; exact h13 k hk
theorem R_15 {v : Int32} (h : Inv G S) (k : ∀ S', Inv G S' → K G S') : f_X10_force G 0 v (fun r S1 => f_X11_force G 87 v (fun r2 S2 => r = r2 ∧ K G S2) S1) S := by
  obtain ⟨a, L, I, un, u, T, tn, fl, m, hV, hC, hR⟩ := h
  have h6 := hV.1.2.2.1
  have good : ∀ f, f ≤ a 2 → v = nI f - 1 → (∀ (Q' : Int32 → St → Prop) (S' : St), Ref G S' a L I un u T tn fl m → Q' 1 S' → f_X11_isLaw G 87 v Q' S') → f_X10_force_23 G 0 v (fun r S1 => f_X11_force G 87 v (fun r2 S2 => r = r2 ∧ K G S2) S1) S := by
    intro f hf hv hl
    refine ex_y hC.1.r0_0 (nm_e (ex_y hC.1.r0_0 (nm_e ?_)))
    rw [hv]
    refine C_accept hC.setF (fun S2 hC2 o2 => ?_)
    have hR2 := hR.offR (((OffR.refl S).uI (i := 1) (j := 10) (v := nI f - 1) (by omega)).trans o2)
    refine nm_e ?_
    rw [← hv]
    refine hl _ _ hR2.th (ite_n (by decide) ?_)
    refine ex_y hR2.1.1.row ⟨inrow (n := 3) hR2.1.1 (by omega), nm_e (ex_y hR2.1.1.row ⟨inrow (n := 3) hR2.1.1 (by omega), nm_e (nm_e ⟨?_, ?_⟩)⟩)⟩
    · rw [hC.2.1.2.2.2.1]; exact hR2.1.2.1.2.2.2.1.symm
    · rw [hv]
      refine k _ (inv (hV.set (hV.1.force hf) (by omega)) ?_ ((hR2.th.setF (v := f)).flag (k := 0) (j := 1) (by omega)))
      exact hC2.th.offC (((OffC.refl _).uI (by omega) (by omega)).uI (by omega) (by omega))
  unfold f_X10_force
  refine ite_c (fun h1 => good 0 (by omega) h1 (fun Q' S' _ hq => ite_y h1 hq)) (fun h1 => ex_y hC.1.r0_0 ?_)
  rcases ar_c (a 2) (by omega) v with ⟨j, hj, rfl⟩ | hv
  · refine c_hasLaw_y hC.2.1 hV.1 hj (ite_n (by decide) ?_)
    exact good (j + 1) (by omega) (nI_pred j).symm (fun Q' S' hr hq => m_isLaw_y hr hV.1 hj hq)
  · refine c_hasLaw_n hC.2.1 hv (ite_y rfl ?_)
    refine C_refuse (n := 2) hC (by omega) (by omega) (fun S2 hC2 o2 => ?_)
    have hR2 := hR.offR o2
    refine nm_e (m_isLaw_n hR2.th hV.1 h1 hv (ite_y rfl ?_))
    exact M_tell_n (n := 2) hR2.th (by omega) (by omega) (fun S3 hR3 o3 => ⟨rfl, k S3 (inv hV (hC2.th.offC o3) hR3)⟩)
end
