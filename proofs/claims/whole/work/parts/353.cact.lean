-- needs: 352
section
variable {G : Gm} {S S' : St} {d p t : Nat} {a : Rw} {L : Nat → Lw} {un : Nat} {u : Un} {Q : Int32 → St → Prop} {K : St → Prop}
def XA (d p t i : Nat) : Prop := XD d p i ∨ i = t ∨ i = t + 1
theorem k_rng {k : Int32} {n : Nat} (hn : n < 2147483648) (h : ¬ (0 ≤ k.toInt ∧ k.toInt < n)) : k < 0 ∨ nI n ≤ k := by
  rw [i32_lt, i32_le, nI_toInt (by omega)]
  have : (0 : Int32).toInt = 0 := rfl
  omega
theorem c_act {v : Nat} {j k y : Int32} (hD : Dd G S d p) (hP : ParC S p a) (hV : Va a) (hL : LwC G S p a L) (hT : TrlC S t un u) (hu : un ≤ 16) (rt : S.2.2 t 0 = some (t + 1)) (lt : G.2.1 (t + 1) = 512) (hpt : p + 7 < t) (htd : t + 1 < d) (hv : v ≤ 4)
    (h1 : ∀ n, actA (frc a L) a v j k y = .inl n → ∀ S', Fr (fun i => i = d + 2 ∨ i = d + 4) S S' → Q (-(nI n)) S')
    (h2 : ∀ r b, actA (frc a L) a v j k y = .inr (r, b) → ∀ S', Fr (XA d p t) S S' → ParC S' p b → TrlC S' t (min 16 (un + 1)) (psh (v, a) u) → Q (nI r) S') : f_X1_act G d p t (nI v) j k y Q S := by
  have h6 := hV.1
  have hD' := hD
  obtain ⟨hH, hJ, d0, d1, d5, hp, hd⟩ := hD'
  have rem : ∀ {v : Nat} {K' : St → Prop} (S1 : St), Fr (fun i => i = d + 2 ∨ i = d + 4) S S1 → (∀ S', Fr (fun i => i = d + 2 ∨ i = d + 4 ∨ i = t ∨ i = t + 1) S S' → Dd G S' d p → ParC S' p a → LwC G S' p a L → TrlC S' t (min 16 (un + 1)) (psh (v, a) u) → K' S') → f_X9_remember G t p (nI v) K' S1 := by
    intro v K' S1 f1 z
    refine c_remember (by rw [f1.1]; exact hH) (hP.fr f1 (fun i _ _ => by omega)) (hT.ag (f1.2 t (by omega)).1 (f1.2 (t + 1) (by omega)).1) hu (by rw [f1.1]; exact rt) lt hpt (fun S2 f2 hT2 => ?_)
    have f3 : Fr (fun i => i = d + 2 ∨ i = d + 4 ∨ i = t ∨ i = t + 1) S S2 := (f1.mono (fun i hi => by omega)).trans (f2.mono (fun i hi => by omega))
    exact z S2 f3 (hD.ag f3.1) (hP.fr f3 (fun i _ _ => by omega)) (hL.fr (fun i hi => (f3.2 i (by omega)).1) f3.1) hT2
  have hv5 : v = 0 ∨ v = 1 ∨ v = 2 ∨ v = 3 ∨ v = 4 := by omega
  unfold f_X1_act f_X1_refusalOf
  rcases hv5 with rfl | rfl | rfl | rfl | rfl
  · refine ite_y rfl ?_
    by_cases hk : ¬ (0 ≤ k.toInt ∧ k.toInt < 4)
    · exact c_kind_n (k_rng (n := 4) (by omega) hk) (ite_y rfl (ite_n (by decide) (h1 1 (by unfold actA; rw [if_pos rfl, if_pos hk]) S (Fr.refl S))))
    obtain ⟨kk, hkk, rfl⟩ := (ar_c 4 (by omega) k).resolve_right (fun h => hk (rg_no (n := 4) (by omega) h))
    refine c_kind_y hkk (ite_n (by decide) ?_)
    have y8 : (8 : Int32).toInt = 8 := rfl
    have ym8 : (-8 : Int32).toInt = -8 := rfl
    by_cases hy : ¬ (-8 ≤ y.toInt ∧ y.toInt ≤ 8)
    · have cl : ∀ {A : Prop}, if y < -8 then Q (-1) S else (if y ≤ 8 then A else Q (-1) S) := by
        intro A
        have z := h1 1 (by unfold actA; rw [if_pos rfl, if_neg hk, if_pos hy]) S (Fr.refl S)
        refine ite_c (fun _ => z) (fun h => ite_n (fun h' => hy ?_) z)
        rw [i32_lt] at h; rw [i32_le] at h'; omega
      have z := h1 1 (by unfold actA; rw [if_pos rfl, if_neg hk, if_pos hy]) S (Fr.refl S)
      refine ite_c (fun _ => ite_n (by decide) z) (fun h => ite_n (fun h' => hy ?_) (ite_n (by decide) z))
      rw [i32_lt] at h; rw [i32_le] at h'; omega
    have hy' : -8 ≤ y.toInt ∧ y.toInt ≤ 8 := Decidable.not_not.mp hy
    refine ite_n (by rw [i32_lt]; omega) (ite_y (by rw [i32_le]; omega) ?_)
    rcases ar_c (a 0) (by omega) j with ⟨jj, hjj, rfl⟩ | hj
    · refine c_has_y hP hV hjj (ite_n (by decide) (c_sinOf hH hP hV hjj hkk (nm_e ?_)))
      have s8 := hV.sin (i := 4 * jj + kk) (by omega)
      have ej : ix (nI jj) = jj := ix_n (by omega)
      have ek : ix (nI kk) = kk := ix_n (by omega)
      have ex : (nI (a (8 + (4 * jj + kk))) + y).toInt = (a (8 + (4 * jj + kk)) : Int) + y.toInt := by rw [add_i, nI_toInt (by omega)] <;> rw [nI_toInt (by omega)] <;> omega
      have e0 : (0 : Int32).toInt = 0 := rfl
      have no : ¬ (0 ≤ (a (8 + (4 * jj + kk)) : Int) + y.toInt ∧ (a (8 + (4 * jj + kk)) : Int) + y.toInt ≤ 8) → Q (-(nI 3)) S := fun h => h1 3 (by unfold actA; rw [if_pos rfl, if_neg hk, if_neg hy, if_neg (fun h => h (pr_y hV hjj)), ej, ek, if_neg h]) S (Fr.refl S)
      refine ite_c (fun h => ite_n (by decide) (no (by rw [i32_lt, ex, e0] at h; omega))) (fun h => ?_)
      refine ite_c (fun h' => ?_) (fun h' => ite_n (by decide) (no (by rw [i32_le, ex, y8] at h'; omega)))
      rw [i32_lt, ex, e0] at h
      rw [i32_le, ex, y8] at h'
      refine ite_y rfl (rem S (Fr.refl S) (fun S1 f1 hD1 hP1 hL1 hT1 => ite_y rfl (c_sinOf hD1.1 hP1 hV hjj hkk (c_setSin hD1.1 hP1 hV hjj hkk ?_))))
      rw [cl_id (n := ((a (8 + (4 * jj + kk)) : Int) + y.toInt).toNat) (by rw [ex]; omega) (by omega)]
      have hP2 := hP1.set (q := p + 1) (i := 4 * jj + kk) (v := ((a (8 + (4 * jj + kk)) : Int) + y.toInt).toNat) (x := 8 + (4 * jj + kk)) (by unfold pos; omega)
      have hV2 : Va (up a (8 + (4 * jj + kk)) ((a (8 + (4 * jj + kk)) : Int) + y.toInt).toNat) := hV.ups (by omega)
      refine c_sinOf (by exact hD1.1) hP2 hV2 (by rw [up_n a (by omega)]; exact hjj) hkk ?_
      rw [up_s]
      refine h2 _ _ (by unfold actA; rw [if_pos rfl, if_neg hk, if_neg hy, if_neg (fun h => h (pr_y hV hjj)), ej, ek, if_pos (by omega)]) _ ?_ hP2 (hT1.ag (uI_n _ _ _ _ (by omega)) (uI_n _ _ _ _ (by omega)))
      exact Fr.uI (f1.mono (fun i hi => by unfold XA XD; omega)) (by unfold XA XD; omega)
    · exact c_has_n hP hV hj (ite_y rfl (ite_n (by decide) (h1 2 (by unfold actA; rw [if_pos rfl, if_neg hk, if_neg hy, if_pos (pr_n hV hj)]) S (Fr.refl S))))
  · refine ite_n (by decide) (ite_y rfl ?_)
    rcases ar_c (a 0) (by omega) j with ⟨jj, hjj, rfl⟩ | hj
    · have ej : ix (nI jj) = jj := ix_n (by omega)
      refine c_has_y hP hV hjj (ite_n (by decide) (ex_y d0 (c_bars hJ hH hP hV hL (by omega) (by omega) hjj (fun S1 f1 => ?_))))
      by_cases hb : barA (frc a L) a jj = true
      · rw [if_pos hb]
        exact ite_n (by decide) (ite_n (by decide) (h1 3 (by unfold actA; rw [if_neg (by omega), if_pos rfl, if_neg (fun h => h (pr_y hV hjj)), ej, if_pos hb]) S1 f1))
      · rw [if_neg hb]
        refine ite_y rfl (ite_y rfl (rem S1 f1 (fun S2 f2 hD2 hP2 hL2 hT2 => ite_n (by decide) (ite_y rfl (ex_y hD2.2.2.1 (c_lawInForce hD2.1 hP2 hV hL2 (fun o ho => ⟨ho.ok, ?_⟩)))))))
        refine c_glassBy hD2.2.1 hD2.1 hP2 hV (by omega) (by omega) ho hjj (fun S3 f3 => ?_)
        have hP3 : ParC S3 p a := hP2.fr f3 (fun i _ _ => by omega)
        have hH3 : PSh G S3.2.2 p := by rw [f3.1]; exact hD2.1
        refine c_setGlass hH3 hP3 hV hjj ?_
        have hP4 := hP3.set (q := p + 2) (i := jj) (v := glsA (frc a L) a jj) (x := 32 + jj) (by unfold pos; omega)
        have hV4 : Va (up a (32 + jj) (glsA (frc a L) a jj)) := hV.ups (.inr (.inr (.inr (.inr (.inr (.inl ⟨by omega, by omega, glsA_v⟩))))))
        refine c_glassOf (by exact hH3) hP4 hV4 (by rw [up_n a (by omega)]; exact hjj) ?_
        rw [up_s]
        refine c_lensesIn glsA_v (h2 _ _ (by unfold actA; rw [if_neg (by omega), if_pos rfl, if_neg (fun h => h (pr_y hV hjj)), ej, if_neg hb]) _ ?_ hP4 (hT2.ag ?_ ?_))
        · exact Fr.uI ((f2.mono (fun i hi => by unfold XA XD; omega)).trans (f3.mono (fun i hi => by unfold XA XD; omega))) (by unfold XA XD; omega)
        · rw [uI_n _ _ _ _ (by omega), (f3.2 t (by omega)).1]
        · rw [uI_n _ _ _ _ (by omega), (f3.2 (t + 1) (by omega)).1]
    · exact c_has_n hP hV hj (ite_y rfl (ite_n (by decide) (h1 2 (by unfold actA; rw [if_neg (by omega), if_pos rfl, if_pos (pr_n hV hj)]) S (Fr.refl S))))
  · refine ite_n (by decide) (ite_n (by decide) (ite_y rfl ?_))
    by_cases hjk : j = k
    · exact ite_y hjk (ite_n (by decide) (h1 1 (by unfold actA; rw [if_neg (by omega), if_neg (by omega), if_pos rfl, if_pos hjk]) S (Fr.refl S)))
    refine ite_n hjk ?_
    rcases ar_c (a 0) (by omega) j with ⟨jj, hjj, rfl⟩ | hj
    · refine c_has_y hP hV hjj (ite_n (by decide) ?_)
      rcases ar_c (a 0) (by omega) k with ⟨kk, hkk, rfl⟩ | hk
      · have ne : jj ≠ kk := fun e => hjk (by rw [e])
        have ej : ix (nI jj) = jj := ix_n (by omega)
        have ek : ix (nI kk) = kk := ix_n (by omega)
        refine c_has_y hP hV hkk (ite_n (by decide) (ite_y rfl (rem S (Fr.refl S) (fun S2 f2 hD2 hP2 hL2 hT2 => ite_n (by decide) (ite_n (by decide) (ite_y rfl ?_))))))
        refine c_glassOf hD2.1 hP2 hV hjj (c_glassOf hD2.1 hP2 hV hkk (c_setGlass hD2.1 hP2 hV hjj ?_))
        have hP3 := hP2.set (q := p + 2) (i := jj) (v := a (32 + kk)) (x := 32 + jj) (by unfold pos; omega)
        have hV3 : Va (up a (32 + jj) (a (32 + kk))) := hV.ups (.inr (.inr (.inr (.inr (.inr (.inl ⟨by omega, by omega, hV.gl (by omega)⟩))))))
        refine c_setGlass (by exact hD2.1) hP3 hV3 (by rw [up_n a (by omega)]; exact hkk) ?_
        have hP4 := hP3.set (q := p + 2) (i := kk) (v := a (32 + jj)) (x := 32 + kk) (by unfold pos; omega)
        have hV4 : Va (up (up a (32 + jj) (a (32 + kk))) (32 + kk) (a (32 + jj))) := hV3.ups (.inr (.inr (.inr (.inr (.inr (.inl ⟨by omega, by omega, hV.gl (by omega)⟩))))))
        refine c_lensesIn (hV.gl (by omega)) (c_glassOf (by exact hD2.1) hP4 hV4 (by rw [up_n _ (by omega), up_n a (by omega)]; exact hjj) ?_)
        rw [up_n _ (by omega), up_s]
        refine c_lensesIn (hV.gl (by omega)) ?_
        rw [nI_add]
        refine h2 _ _ (by unfold actA; rw [if_neg (by omega), if_neg (by omega), if_pos rfl, if_neg hjk, if_neg (fun h => h (pr_y hV hjj)), if_neg (fun h => h (pr_y hV hkk)), ej, ek]) _ ?_ hP4 (hT2.ag ?_ ?_)
        · exact Fr.uI (Fr.uI (f2.mono (fun i hi => by unfold XA XD; omega)) (by unfold XA XD; omega)) (by unfold XA XD; omega)
        · rw [uI_n _ _ _ _ (by omega), uI_n _ _ _ _ (by omega)]
        · rw [uI_n _ _ _ _ (by omega), uI_n _ _ _ _ (by omega)]
      · exact c_has_n hP hV hk (ite_y rfl (ite_n (by decide) (h1 2 (by unfold actA; rw [if_neg (by omega), if_neg (by omega), if_pos rfl, if_neg hjk, if_neg (fun h => h (pr_y hV hjj)), if_pos (pr_n hV hk)]) S (Fr.refl S))))
    · exact c_has_n hP hV hj (ite_y rfl (ite_n (by decide) (h1 2 (by unfold actA; rw [if_neg (by omega), if_neg (by omega), if_pos rfl, if_neg hjk, if_pos (pr_n hV hj)]) S (Fr.refl S))))
  · refine ite_n (by decide) (ite_n (by decide) (ite_n (by decide) (ite_y rfl ?_)))
    rcases ar_c (a 0) (by omega) j with ⟨jj, hjj, rfl⟩ | hj
    · have ej : ix (nI jj) = jj := ix_n (by omega)
      have g8 := vG_88 (hV.gl (i := jj) (by omega))
      refine c_has_y hP hV hjj (ite_n (by decide) (c_glassOf hH hP hV hjj ?_))
      by_cases h0 : a (32 + jj) = 0
      · rw [h0]
        exact ite_y rfl (ite_n (by decide) (h1 3 (by unfold actA; rw [if_neg (by omega), if_neg (by omega), if_neg (by omega), if_pos rfl, if_neg (fun h => h (pr_y hV hjj)), ej, if_pos h0]) S (Fr.refl S)))
      · refine ite_n (by rw [lit, eqI (by omega) (by omega)]; exact h0) (ite_y rfl (rem S (Fr.refl S) (fun S2 f2 hD2 hP2 hL2 hT2 => ite_n (by decide) (ite_n (by decide) (ite_n (by decide) (ite_y rfl ?_))))))
        refine c_glassOf hD2.1 hP2 hV hjj (c_lensesIn (hV.gl (by omega)) (c_setGlass hD2.1 hP2 hV hjj ?_))
        have hP3 := hP2.set (q := p + 2) (i := jj) (v := 0) (x := 32 + jj) (by unfold pos; omega)
        refine h2 _ _ (by unfold actA; rw [if_neg (by omega), if_neg (by omega), if_neg (by omega), if_pos rfl, if_neg (fun h => h (pr_y hV hjj)), ej, if_neg h0]) _ ?_ hP3 (hT2.ag ?_ ?_)
        · exact Fr.uI (f2.mono (fun i hi => by unfold XA XD; omega)) (by unfold XA XD; omega)
        · exact uI_n _ _ _ _ (by omega)
        · exact uI_n _ _ _ _ (by omega)
    · exact c_has_n hP hV hj (ite_y rfl (ite_n (by decide) (h1 2 (by unfold actA; rw [if_neg (by omega), if_neg (by omega), if_neg (by omega), if_pos rfl, if_pos (pr_n hV hj)]) S (Fr.refl S))))
  · refine ite_n (by decide) (ite_n (by decide) (ite_n (by decide) (ite_n (by decide) ?_)))
    have h4 := hV.2.2.2.2.1
    refine c_termOf (k := 0) hH hP (by omega) ?_
    rw [show (4 + 0 : Nat) = 4 from rfl]
    by_cases h9 : a 4 < 999
    · refine ite_y (by rw [lit, ltI (by omega) (by omega)]; exact h9) (ite_y rfl (rem S (Fr.refl S) (fun S2 f2 hD2 hP2 hL2 hT2 => ite_n (by decide) (ite_n (by decide) (ite_n (by decide) (ite_n (by decide) ?_))))))
      refine c_nextDay hD2 hP2 hV hL2 h9 (fun S3 f3 hP3 => h2 _ _ (by unfold actA; rw [if_neg (by omega), if_neg (by omega), if_neg (by omega), if_neg (by omega), if_pos h9]) S3 ?_ hP3 (hT2.ag ?_ ?_))
      · exact (f2.mono (fun i hi => by unfold XA XD; omega)).trans (f3.mono (fun i hi => by unfold XA; exact .inl hi))
      · exact (f3.2 t (by unfold XD; omega)).1
      · exact (f3.2 (t + 1) (by unfold XD; omega)).1
    · refine ite_n (by rw [lit, ltI (by omega) (by omega)]; exact h9) (ite_n (by decide) (h1 3 (by unfold actA; rw [if_neg (by omega), if_neg (by omega), if_neg (by omega), if_neg (by omega), if_neg h9]) S (Fr.refl S)))
end
