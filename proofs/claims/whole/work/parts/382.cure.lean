-- needs: 381
/-! cure. -/
theorem BI.par {fr : Nat} {q O B F : Nat → Nat} {n i l : Nat} (h : BI fr q O B F n i l) : ∀ j, 0 < j → j < n → ∃ k, k < j ∧ O (q j) = q k ∧ B (q j) < 8 ∧ F (q j) = F (q k) + 1 := by
  obtain ⟨a1, a2, a3, a4, a5, a6, a7, a8⟩ := h
  intro j h0 hj
  obtain ⟨k, k1, k2, k3, k4, k5, k6, k7, k8⟩ := a5 j h0 hj
  refine ⟨k, ?_, k2, k4, k6⟩
  by_cases c : k < j
  · exact c
  · have := a6.1 j k (by omega) k1
    omega
theorem BI.n256 {fr : Nat} {q O B F : Nat → Nat} {n i l : Nat} (h : BI fr q O B F n i l) : n ≤ 256 := by
  rw [← h.2.2.2.2.2.2.2]; exact cnN_le F 256
theorem BI.fb {fr : Nat} {q O B F : Nat → Nat} {n i l : Nat} (h : BI fr q O B F n i l) : ∀ x, x < 256 → F x ≤ 256 := by
  have fb : ∀ j, j < n → F (q j) ≤ j + 1 := by
    intro j
    induction j using Nat.strongRecOn with
    | ind j ih =>
      intro hj
      by_cases h0 : j = 0
      · subst h0; rw [h.1.2.1, h.1.2.2]; exact Nat.le_refl _
      · obtain ⟨k, k1, _, _, k6⟩ := h.par j (by omega) hj
        have := ih k k1 (by omega)
        omega
  intro x hx
  by_cases e : F x = 0
  · omega
  · obtain ⟨j, j1, j2⟩ := h.2.2.2.1 x hx e
    have := fb j j1
    have := h.n256
    rw [← j2]; omega
theorem BI.anc {fr sc : Nat} {q O B F : Nat → Nat} {n i l : Nat} (h : BI fr q O B F n i l) (hs : sc < 256) (h0 : F sc ≠ 0) : ∀ t, t < F sc → ancO O sc t < 256 ∧ F (ancO O sc t) = F sc - t ∧ (t + 1 < F sc → B (ancO O sc t) < 8) := by
  have st : ∀ t, t < F sc → ∃ j, j < n ∧ q j = ancO O sc t ∧ F (q j) = F sc - t := by
    intro t
    induction t with
    | zero =>
      intro _
      obtain ⟨j, j1, j2⟩ := h.2.2.2.1 sc hs h0
      exact ⟨j, j1, j2, by rw [j2]; omega⟩
    | succ t ih =>
      intro ht
      obtain ⟨j, j1, j2, j3⟩ := ih (by omega)
      have j0 : 0 < j := by
        rcases Nat.eq_zero_or_pos j with rfl | hh
        · rw [h.1.2.1, h.1.2.2] at j3; omega
        · exact hh
      obtain ⟨k, k1, k2, k3, k6⟩ := h.par j j0 j1
      exact ⟨k, by omega, by rw [ancO, ← j2, k2], by omega⟩
  intro t ht
  obtain ⟨j, j1, j2, j3⟩ := st t ht
  refine ⟨by rw [← j2]; exact (h.2.1 j j1).1, by rw [← j2]; exact j3, fun hh => ?_⟩
  have j0 : 0 < j := by
    rcases Nat.eq_zero_or_pos j with rfl | hh
    · rw [h.1.2.1, h.1.2.2] at j3; omega
    · exact hh
  obtain ⟨k, k1, k2, k3, k6⟩ := h.par j j0 j1
  rw [← j2]; exact k3
/-- the class's rows of it -/
def BS (S : St) (q O B F : Nat → Nat) (n : Nat) : Prop := (∀ j, j < n → S.1 59 j = nI (q j)) ∧ (∀ x, x < 256 → S.1 62 x = nI (F x) - 1) ∧ ∀ x, x < 256 → 2 ≤ F x → S.1 60 x = nI (O x) ∧ S.1 61 x = nI (B x)
abbrev fcu (i : Nat) : Prop := 59 ≤ i ∧ i ≤ 62
def cuR (F O B : Nat → Nat) (sc : Nat) (v : Int32) : Int32 := if F sc = 0 then -1 else if v = -1 then nI (F sc - 1) else if nI (F sc - 1) ≤ v then -1 else nI (B (ancO O sc (F sc - 1 - 1 - v.toNatClampNeg)))
section
variable {G : Gm} {S S' : St} {a m : Rw} {L : Nat → Lw} {I : Im} {un tn : Nat} {u : Un} {T : Nat → Nat} {fl : Nat → Int32} {Q : Int32 → St → Prop} {K : Gm → St → Prop}
theorem C_spread {fr : Nat} {Q : St → Prop} (hS : ShC G S.2.2) (hf : fr < 256) (z : ∀ S' q O B F n, Fr fcu S S' → BI fr q O B F n n 1 → BS S' q O B F n → Q S') : f_X4_spread G 54 (nI fr) Q S := by
  have s3 : ∀ (k : Int32 → Int32 → St → Prop) (e l i : Nat) (q O B F : Nat → Nat) (n : Nat) (S1 : St), e + l = 8 → 1 ≤ l → i < n → BI fr q O B F n i l → BS S1 q O B F n → Fr fcu S S1 → (∀ S' q O B F n, i < n → BI fr q O B F n i 8 → BS S' q O B F n → Fr fcu S S' → k (nI n) (nI (i + 1)) S') → f_X4_spread_71_n G k 54 (nI i) (nI (q i)) Q (e + 1) (nI n) (nI l) S1 := by
    intro k e
    induction e with
    | zero =>
      intro l i q O B F n S1 he hl hi hB hs f1 hk
      have hl : l = 8 := by omega
      subst hl
      rw [f_X4_spread_71_n, nI_1]
      exact ite_y (by decide) (hk S1 q O B F n hi hB hs f1)
    | succ e ih =>
      intro l i q O B F n S1 he hl hi hB hs f1 hk
      have hq := (hB.2.1 i hi).1
      have yl := bd_lt (l := l) (x := q i) (by omega) hq
      have n6 := hB.n256
      have fy := hB.fb _ yl
      have fx := hB.fb _ hq
      rw [f_X4_spread_71_n, nI_1 l]
      refine ite_n (by simp (disch := omega) only [lit, nI_add, pk_mul, leI, ltI, eqI]; omega) (c_bend (by omega) hq (c_num_y yl (ite_n (by decide) (ex_y (by rw [f1.1]; exact hS.r54_4) ⟨by rw [hS.l62, in_iff (by omega)]; exact yl, ?_⟩))))
      rw [clI (by omega), hs.2.1 _ yl]
      by_cases c : F (bd l (q i)) = 0
      · obtain ⟨n1, hB'⟩ := hB.new hi hl (by omega) c
        refine ite_y (by rw [c]; rfl) (ite_n (by simp (disch := omega) only [lit, nI_add, pk_mul, leI, ltI, eqI]; omega) (ex_y (by rw [f1.1]; exact hS.r54_4) (ex_y (by rw [f1.1]; exact hS.r54_4) ⟨by rw [hS.l62, in_iff (by omega)]; exact hq, by rw [hS.l62, in_iff (by omega)]; exact yl, nm_e (ex_y (by rw [uI_2, f1.1]; exact hS.r54_2) ⟨by rw [hS.l60, in_iff (by omega)]; exact yl, nm_e (ex_y (by rw [uI_2, uI_2, f1.1]; exact hS.r54_3) ⟨by rw [hS.l61, in_iff (by omega)]; exact yl, nm_e (ex_y (by rw [uI_2, uI_2, uI_2, f1.1]; exact hS.r54_1) ⟨by rw [hS.l59, in_iff (by omega)]; exact n1, nm_e ?_⟩)⟩)⟩)⟩)))
        rw [clI (a := q i) (by omega), clI (a := n) (by omega), nI_1 n, hs.2.1 _ hq, Int32.sub_add_cancel]
        generalize ey : bd l (q i) = y at *
        have w := ih (l + 1) i (up q n y) (up O y (q i)) (up B y l) (up F y (F (q i) + 1)) (n + 1) (uI (uI (uI (uI S1 62 y (nI (F (q i)))) 60 y (nI (q i))) 61 y (nI l)) 59 n (nI y)) (by omega) (by omega) (by omega) hB' ?_ ((((f1.uI (by omega)).uI (by omega)).uI (by omega)).uI (by omega)) hk
        · rw [up_n q (by omega)] at w
          exact w
        · refine ⟨fun j hj => ?_, fun x hx => ?_, fun x hx h2 => ?_⟩
          · rw [uI_s]
            unfold up
            by_cases e' : j = n
            · rw [if_pos e', if_pos e']
            · rw [if_neg e', if_neg e', uI_n _ _ _ _ (by omega), uI_n _ _ _ _ (by omega), uI_n _ _ _ _ (by omega)]; exact hs.1 j (by omega)
          · rw [uI_n _ _ _ _ (by omega), uI_n _ _ _ _ (by omega), uI_n _ _ _ _ (by omega), uI_s]
            unfold up
            by_cases e' : x = y
            · rw [if_pos e', if_pos e', nI_pred]
            · rw [if_neg e', if_neg e']; exact hs.2.1 x hx
          · unfold up at h2 ⊢
            by_cases e' : x = y
            · refine ⟨?_, ?_⟩
              · rw [uI_n _ _ _ _ (by omega), uI_n _ _ _ _ (by omega), uI_s, if_pos e', if_pos e']
              · rw [uI_n _ _ _ _ (by omega), uI_s, if_pos e', if_pos e']
            · rw [if_neg e'] at h2
              refine ⟨?_, ?_⟩
              · rw [uI_n _ _ _ _ (by omega), uI_n _ _ _ _ (by omega), uI_s, if_neg e', if_neg e', uI_n _ _ _ _ (by omega)]; exact (hs.2.2 x hx h2).1
              · rw [uI_n _ _ _ _ (by omega), uI_s, if_neg e', if_neg e', uI_n _ _ _ _ (by omega), uI_n _ _ _ _ (by omega)]; exact (hs.2.2 x hx h2).2
      · refine ite_n ?_ (ih (l + 1) i q O B F n S1 (by omega) (by omega) hi (hB.no hi hl (by omega) c) hs f1 hk)
        obtain ⟨t, et⟩ : ∃ t, F (bd l (q i)) = t + 1 := ⟨F (bd l (q i)) - 1, by omega⟩
        rw [et, nI_pred]
        exact nI_m1 (by omega)
  have s2 : ∀ (d i : Nat) (q O B F : Nat → Nat) (n : Nat) (S1 : St), d + i = 256 → i ≤ n → BI fr q O B F n i 1 → BS S1 q O B F n → Fr fcu S S1 → f_X4_spread_48_n G 54 Q (d + 1) (nI n) (nI i) S1 := by
    intro d
    induction d with
    | zero =>
      intro i q O B F n S1 hd hi hB hs f1
      have n6 := hB.n256
      have : i = n := by omega
      subst this
      rw [f_X4_spread_48_n]
      exact ite_y (by simp (disch := omega) only [lit, nI_add, pk_mul, leI, ltI, eqI]; omega) (z S1 q O B F i f1 hB hs)
    | succ d ih =>
      intro i q O B F n S1 hd hi hB hs f1
      have n6 := hB.n256
      rw [f_X4_spread_48_n]
      by_cases c : i = n
      · subst c
        exact ite_y (by simp (disch := omega) only [lit, nI_add, pk_mul, leI, ltI, eqI]; omega) (z S1 q O B F i f1 hB hs)
      · refine ite_n (by simp (disch := omega) only [lit, nI_add, pk_mul, leI, ltI, eqI]; omega) (ite_n (by simp (disch := omega) only [lit, nI_add, pk_mul, leI, ltI, eqI]; omega) (ex_y (by rw [f1.1]; exact hS.r54_1) ⟨by rw [hS.l59, in_iff (by omega)]; omega, nm_p (by rw [clI (by omega)]; exact hs.1 i (by omega)) ⟨8, s3 _ 7 1 i q O B F n S1 (by omega) (by omega) (by omega) hB hs f1 (fun S2 q O B F n' hi' hB' hs' f' => ih (i + 1) q O B F n' S2 (by omega) (by omega) (hB'.next hi') hs' f')⟩⟩))
  have s1 : ∀ (d x : Nat) (S1 : St), d + x = 256 → (∀ y, y < x → S1.1 62 y = -1) → Fr fcu S S1 → f_X4_spread_2_n G 54 (nI fr) Q (d + 1) (nI x) S1 := by
    intro d
    induction d with
    | zero =>
      intro x S1 hx e1 f1
      rw [f_X4_spread_2_n]
      refine ite_y (by simp (disch := omega) only [lit, nI_add, pk_mul, leI, ltI, eqI]; omega) (c_num_y hf (ite_n (by decide) (ex_y (by rw [f1.1]; exact hS.r54_4) ⟨by rw [hS.l62, in_iff (by omega)]; exact hf, nm_e (ex_y (by rw [uI_2, f1.1]; exact hS.r54_1) ⟨by rw [hS.l59]; exact (in_iff (k := 0) (by omega)).mpr (by omega), nm_e ?_⟩)⟩)))
      rw [clI (by omega)]
      refine ⟨257, s2 256 0 (fun _ => fr) (fun _ => 0) (fun _ => 0) (fun y => if y = fr then 1 else 0) 1 _ (by omega) (by omega) (BI.start hf rfl (if_pos rfl) (fun y _ hy => if_neg hy) ?_) ⟨fun j hj => ?_, fun y hy => ?_, fun y hy h2 => ?_⟩ ((f1.uI (by omega)).uI (by omega))⟩
      · have e : (fun y => if y = fr then 1 else 0) = up (fun _ => 0) fr 1 := rfl
        have c0 : ∀ N, cnN (fun _ => 0) N = 0 := by
          intro N
          induction N with
          | zero => rfl
          | succ N ih => rw [cnN, ih]; rfl
        rw [e, cnN_up rfl (by decide) 256 hf, c0]
      · obtain rfl : j = 0 := by omega
        rw [uI_s]; rfl
      · rw [uI_n _ _ _ _ (by omega), uI_s]
        show _ = nI (if y = fr then 1 else 0) - 1
        by_cases e : y = fr
        · rw [if_pos e, if_pos e]; rfl
        · rw [if_neg e, if_neg e, e1 y (by omega)]; rfl
      · have h2 : 2 ≤ (if y = fr then 1 else 0) := h2
        split at h2 <;> omega
    | succ d ih =>
      intro x S1 hx e1 f1
      rw [f_X4_spread_2_n, nI_1, clI (a := x) (by omega)]
      refine ite_n (by simp (disch := omega) only [lit, nI_add, pk_mul, leI, ltI, eqI]; omega) (ex_y (by rw [f1.1]; exact hS.r54_4) ⟨by rw [hS.l62, in_iff (by omega)]; omega, nm_e (ih (x + 1) _ (by omega) (fun y hy => ?_) (f1.uI (by omega)))⟩)
      rw [uI_s]
      by_cases e : y = x
      · rw [if_pos e]
      · rw [if_neg e]; exact e1 y (by omega)
  exact ⟨257, s1 256 0 S (by omega) (fun y hy => absurd hy (by omega)) (Fr.refl S)⟩
theorem C_cure {j : Nat} {v : Int32} (hC : Cls G S a L I un u T tn fl m) (hV : Va a) (hj : j < a 0) (hv : ¬ v < -1) (z : ∀ S' q O B F n, Cls G S' a L I un u T tn fl m → OffR S S' → BI (sgt a j) q O B F n n 1 → Q (cuR F O B (a 7) v) S') : f_X4_cureOf G 54 1 (nI j) v Q S := by
  have h6 := hV.1
  have hsc := hV.sc
  refine c_termOf (k := 3) hC.1.p1 hC.2.1 (by omega) ?_
  refine c_sightOf hC.1.p1 hC.2.1 hV hj (C_spread hC.1 (sgt_lt hV (by omega)) (fun S1 q O B F n f1 hB hs => ?_))
  have hC1 := hC.fr f1 (by intro i hi; unfold fcu at hi; unfold rlC; omega)
  have zz := z S1 q O B F n hC1 (Fr.offR f1 (by intro i hi; unfold fcu at hi; omega)) hB
  have fsc := hB.fb _ hsc
  show ite (nI (a 7) < 0) _ _
  refine ite_n (by simp (disch := omega) only [lit, nI_add, pk_mul, leI, ltI, eqI]; omega) (ite_n ?_ (ex_y hC1.1.r54_4 ⟨by rw [hC1.1.l62]; show vp_in (nI (a 7)) 256; rw [in_iff (by omega)]; exact hsc, ?_⟩))
  · show ¬ 256 ≤ nI (a 7)
    exact (by simp (disch := omega) only [lit, nI_add, pk_mul, leI, ltI, eqI]; omega)
  show f_X4_cureOf_40 G 54 v (nI (a 7)) (S1.1 62 (nI (a 7)).toNatClampNeg) Q S1
  rw [clI (by omega), hs.2.1 _ hsc]
  unfold cuR at zz
  by_cases c0 : F (a 7) = 0
  · rw [if_pos c0] at zz
    rw [c0]
    exact ite_y rfl zz
  obtain ⟨f, ef⟩ : ∃ f, F (a 7) = f + 1 := ⟨F (a 7) - 1, by omega⟩
  rw [if_neg c0, show F (a 7) - 1 = f from by omega] at zz
  rw [ef, nI_pred]
  refine ite_n (nI_m1 (by omega)) (ite_c (fun e => ?_) (fun e => ?_))
  · rw [if_pos e] at zz; exact zz
  rw [if_neg e] at zz
  refine ite_c (fun h => ?_) (fun h => ?_)
  · rw [if_pos h] at zz; exact zz
  rw [if_neg h] at zz
  obtain ⟨i, hi, rfl⟩ : ∃ i, i < f ∧ v = nI i := by
    rw [i32_lt] at hv
    rw [i32_le, nI_toInt (by omega)] at h
    have em : (-1 : Int32).toInt = -1 := rfl
    have : v.toInt ≠ -1 := fun e' => e (Int32.toInt_inj.mp e')
    exact ⟨v.toInt.toNat, by omega, i32n (by omega) (by omega)⟩
  rw [clI (by omega)] at zz
  rw [show nI f - 1 - nI i = nI (f - 1 - i) from by
    rw [show (1 : Int32) = nI 1 from rfl, sbI (by omega), sbI (by omega)]]
  have anc := hB.anc hsc c0
  have st : ∀ (d t : Nat), d + t = f - 1 - i → f_X4_lensOnTheWay_5_n G 54 (nI (f - 1 - i)) Q (d + 1) (nI (ancO O (a 7) t)) (nI t) S1 := by
    intro d
    induction d with
    | zero =>
      intro t ht
      have ht : t = f - 1 - i := by omega
      subst ht
      obtain ⟨g1, g2, g3⟩ := anc (f - 1 - i) (by omega)
      rw [f_X4_lensOnTheWay_5_n]
      refine ite_y (by simp (disch := omega) only [lit, nI_add, pk_mul, leI, ltI, eqI]; omega) (c_num_y g1 (ite_n (by decide) (ex_y hC1.1.r54_3 ⟨by rw [hC1.1.l61, in_iff (by omega)]; exact g1, ?_⟩)))
      rw [clI (by omega), (hs.2.2 _ g1 (by omega)).2]
      exact zz
    | succ d ih =>
      intro t ht
      obtain ⟨g1, g2, g3⟩ := anc t (by omega)
      rw [f_X4_lensOnTheWay_5_n, nI_1]
      refine ite_n (by simp (disch := omega) only [lit, nI_add, pk_mul, leI, ltI, eqI]; omega) (c_num_y g1 (ite_n (by decide) (ex_y hC1.1.r54_2 ⟨by rw [hC1.1.l60, in_iff (by omega)]; exact g1, nm_p ?_ (ih (t + 1) (by omega))⟩)))
      rw [clI (by omega), (hs.2.2 _ g1 (by omega)).1]; rfl
  exact ⟨_, st (f - 1 - i) 0 (by omega)⟩
/-- the reference lays what is left to go -/
theorem M_lay {Q : St → Prop} {sc : Nat} (hR : Ref G S a L I un u T tn fl m) (hsc : sc < 256) (h7 : S.1 90 7 = nI sc) (z : ∀ S' C, Fr (fun i => i = 112) S S' → Snd sc C → Fix C → (∀ x, x < 256 → S'.1 112 x = nI (C x)) → Q S') : f_X11_layCures G 87 Q S := by
  have hS := hR.1.1
  have s4 : ∀ (k41 : Int32 → St → Prop) (k49 : Int32 → Int32 → St → Prop) (N x e l f : Nat) (C : Nat → Nat) (S1 : St), e + l = 8 → x < 256 → f ≤ 1 → Fr (fun i => i = 112) S S1 → (∀ x, x < 256 → S1.1 112 x = nI (C x)) → Snd sc C → smN C 256 ≤ N → (f = 1 → smN C 256 < N) → (f = 0 → (∀ x', x' < x → ∀ l', l' < 8 → C x' ≤ C (bd l' x') + 1) ∧ ∀ l', l' < l → C x ≤ C (bd l' x) + 1) → (∀ S' f C, f ≤ 1 → Fr (fun i => i = 112) S S' → (∀ x, x < 256 → S'.1 112 x = nI (C x)) → Snd sc C → smN C 256 ≤ N → (f = 1 → smN C 256 < N) → (f = 0 → (∀ x', x' < x + 1 → ∀ l', l' < 8 → C x' ≤ C (bd l' x') + 1)) → k49 (nI f) (nI (x + 1)) S') → f_X11_layCures_58_n G k41 k49 87 (nI x) Q (e + 1) (nI f) (nI l) S1 := by
    intro k41 k49 N x e
    induction e with
    | zero =>
      intro l f C S1 he hx hf f1 e1 hs b1 b2 b3 hk
      have hl : l = 8 := by omega
      subst hl
      rw [f_X11_layCures_58_n, nI_1 x]
      refine ite_y (by decide) (hk S1 f C hf f1 e1 hs b1 b2 (fun f0 x' hx' l' hl' => ?_))
      by_cases c : x' = x
      · rw [c]; exact (b3 f0).2 l' hl'
      · exact (b3 f0).1 x' (by omega) l' hl'
    | succ e ih =>
      intro l f C S1 he hx hf f1 e1 hs b1 b2 b3 hk
      have yl := bd_lt (l := l) (x := x) (by omega) hx
      have cx := (hs.2 x hx).1
      have cy := (hs.2 _ yl).1
      have r45 : S1.2.2 87 45 = some 112 := by rw [f1.1]; exact hS.left
      have ix : vp_in (nI x) (G.2.1 112) := by rw [hS.left_l, in_iff (by omega)]; exact hx
      have em : S1.1 89 ((256 * nI l + nI x).toNatClampNeg) = nI (bd l x) := by
        rw [show (256 : Int32) = nI 256 from rfl, pk_mul, nI_add, clI (by omega), (f1.2 89 (by omega)).1]
        exact hR.1.2.2.1 l (by omega) x hx
      rw [f_X11_layCures_58_n, nI_1 x]
      refine ite_n (by simp (disch := omega) only [lit, nI_add, pk_mul, leI, ltI, eqI]; omega) (ex_y r45 (ex_y (by rw [f1.1]; exact hS.made) ⟨by rw [hS.made_l, show (256 : Int32) = nI 256 from rfl, pk_mul, nI_add, in_iff (by omega)]; omega, ?_⟩))
      rw [em, clI (a := bd l x) (by omega), clI (a := x) (by omega), e1 _ yl]
      refine ⟨by rw [hS.left_l, in_iff (by omega)]; exact yl, nm_p (nI_1 _) ?_⟩
      by_cases c : C x ≤ C (bd l x) + 1
      · have go : f_X11_layCures_105 G k41 k49 (f_X11_layCures_58_n G k41 k49 87 (nI x) Q (e + 1)) 87 (nI x) (nI l) (nI (C (bd l x) + 1)) (nI f) Q S1 := by
          refine ex_y r45 (ex_y r45 ⟨ix, ?_⟩)
          rw [clI (a := x) (by omega), e1 _ hx]
          refine ite_y (by rw [leI (by omega) (by omega)]; exact c) (ex_y r45 ⟨ix, ix, nm_e ?_⟩)
          rw [nI_1 l, clI (a := x) (by omega), e1 _ hx]
          refine ih (l + 1) f C _ (by omega) hx hf (f1.uI rfl) (fun t ht => ?_) hs b1 b2 (fun f0 => ⟨(b3 f0).1, fun l' hl' => ?_⟩) hk
          · rw [uI_s]
            by_cases e' : t = x
            · rw [if_pos e', e']
            · rw [if_neg e']; exact e1 t ht
          · by_cases e' : l' = l
            · rw [e']; exact c
            · exact (b3 f0).2 l' (by omega)
        rcases (show f = 0 ∨ f = 1 by omega) with rfl | rfl
        · refine ite_y rfl (ex_y r45 ⟨ix, ite_y (by rw [e1 _ hx, leI (by omega) (by omega)]; exact c) go⟩)
        · exact ite_n (by decide) go
      · have go : f_X11_layCures_100 G k41 k49 (f_X11_layCures_58_n G k41 k49 87 (nI x) Q (e + 1)) 87 (nI x) (nI l) (nI (C (bd l x) + 1)) Q S1 := by
          refine ex_y r45 (ex_y r45 ⟨ix, ?_⟩)
          rw [clI (a := x) (by omega), e1 _ hx]
          refine ite_n (by rw [leI (by omega) (by omega)]; exact c) ⟨ix, nm_e ?_⟩
          rw [nI_1 l, clI (a := x) (by omega)]
          have su := smN_up (C := C) (x := x) (v := C (bd l x) + 1) 256 hx
          refine ih (l + 1) 1 (up C x (C (bd l x) + 1)) _ (by omega) hx (by omega) (f1.uI rfl) (fun t ht => ?_) (hs.step hx (by omega) (by omega)) (by omega) (fun _ => by omega) (fun f0 => absurd f0 (by omega)) hk
          rw [uI_s]
          unfold up
          by_cases e' : t = x
          · rw [if_pos e', if_pos e']
          · rw [if_neg e', if_neg e']; exact e1 t ht
        rcases (show f = 0 ∨ f = 1 by omega) with rfl | rfl
        · refine ite_y rfl (ex_y r45 ⟨ix, ite_n (by rw [e1 _ hx, leI (by omega) (by omega)]; exact c) go⟩)
        · exact ite_n (by decide) go
  have s3 : ∀ (k41 : Int32 → St → Prop) (N d x f : Nat) (C : Nat → Nat) (S1 : St), d + x = 256 → f ≤ 1 → Fr (fun i => i = 112) S S1 → (∀ x, x < 256 → S1.1 112 x = nI (C x)) → Snd sc C → smN C 256 ≤ N → (f = 1 → smN C 256 < N) → (f = 0 → (∀ x', x' < x → ∀ l', l' < 8 → C x' ≤ C (bd l' x') + 1)) → (∀ S' f C, f ≤ 1 → Fr (fun i => i = 112) S S' → (∀ x, x < 256 → S'.1 112 x = nI (C x)) → Snd sc C → (f = 1 → smN C 256 < N) → (f = 0 → Fix C) → k41 (nI f) S') → f_X11_layCures_49_n G k41 87 Q (d + 1) (nI f) (nI x) S1 := by
    intro k41 N d
    induction d with
    | zero =>
      intro x f C S1 hd hf f1 e1 hs b1 b2 b3 hk
      rw [f_X11_layCures_49_n]
      exact ite_y (by simp (disch := omega) only [lit, nI_add, pk_mul, leI, ltI, eqI]; omega) (hk S1 f C hf f1 e1 hs b2 (fun f0 x' hx' l' hl' => b3 f0 x' (by omega) l' hl'))
    | succ d ih =>
      intro x f C S1 hd hf f1 e1 hs b1 b2 b3 hk
      rw [f_X11_layCures_49_n]
      refine ite_n (by simp (disch := omega) only [lit, nI_add, pk_mul, leI, ltI, eqI]; omega) ⟨9, s4 k41 _ N x 8 0 f C S1 (by omega) (by omega) hf f1 e1 hs b1 b2 (fun f0 => ⟨b3 f0, fun l' hl' => absurd hl' (by omega)⟩) (fun S2 f' C' hf' f2 e2 hs' c1 c2 c3 => ih (x + 1) f' C' S2 (by omega) hf' f2 e2 hs' c1 c2 c3 hk)⟩
  have s2 : ∀ (N : Nat) (C : Nat → Nat) (S1 : St), smN C 256 ≤ N → Fr (fun i => i = 112) S S1 → (∀ x, x < 256 → S1.1 112 x = nI (C x)) → Snd sc C → f_X11_layCures_41_n G 87 Q (N + 2) 1 S1 := by
    intro N
    induction N with
    | zero =>
      intro C S1 hN f1 e1 hs
      rw [f_X11_layCures_41_n]
      refine ite_n (by decide) ⟨257, s3 _ (smN C 256) 256 0 0 C S1 (by omega) (by omega) f1 e1 hs (Nat.le_refl _) (fun h => absurd h (by omega)) (fun _ x' hx' => absurd hx' (by omega)) (fun S2 f C' hf f2 e2 hs' c2 c3 => ?_)⟩
      rcases (show f = 0 ∨ f = 1 by omega) with rfl | rfl
      · rw [f_X11_layCures_41_n]
        exact ite_y rfl (z S2 C' f2 hs' (c3 rfl) e2)
      · have := c2 rfl; omega
    | succ N ih =>
      intro C S1 hN f1 e1 hs
      rw [f_X11_layCures_41_n]
      refine ite_n (by decide) ⟨257, s3 _ (smN C 256) 256 0 0 C S1 (by omega) (by omega) f1 e1 hs (Nat.le_refl _) (fun h => absurd h (by omega)) (fun _ x' hx' => absurd hx' (by omega)) (fun S2 f C' hf f2 e2 hs' c2 c3 => ?_)⟩
      rcases (show f = 0 ∨ f = 1 by omega) with rfl | rfl
      · rw [f_X11_layCures_41_n]
        exact ite_y rfl (z S2 C' f2 hs' (c3 rfl) e2)
      · have := c2 rfl
        exact ih C' S2 (by omega) f2 e2 hs'
  have s1 : ∀ (d x : Nat) (S1 : St), d + x = 256 → (∀ y, y < x → S1.1 112 y = nI (if y = sc then 0 else 100000000)) → Fr (fun i => i = 112) S S1 → f_X11_layCures_2_n G 87 Q (d + 1) (nI x) S1 := by
    intro d
    induction d with
    | zero =>
      intro x S1 hd e1 f1
      rw [f_X11_layCures_2_n]
      refine ite_y (by simp (disch := omega) only [lit, nI_add, pk_mul, leI, ltI, eqI]; omega) ⟨_, s2 _ (fun y => if y = sc then 0 else 100000000) S1 (Nat.le_refl _) f1 (fun y hy => e1 y (by omega)) ⟨if_pos rfl, fun y hy => ?_⟩⟩
      show (if y = sc then 0 else 100000000) ≤ _ ∧ ((if y = sc then 0 else 100000000) < _ → Pth sc (if y = sc then 0 else 100000000) y)
      by_cases e : y = sc
      · rw [if_pos e]; exact ⟨by omega, fun _ => e⟩
      · rw [if_neg e]; exact ⟨Nat.le_refl _, fun h => absurd h (Nat.lt_irrefl _)⟩
    | succ d ih =>
      intro x S1 hd e1 f1
      have e7 : S1.1 90 ((7 : Int32).toNatClampNeg) = nI sc := by rw [(f1.2 90 (by omega)).1]; exact h7
      rw [f_X11_layCures_2_n]
      refine ite_n (by simp (disch := omega) only [lit, nI_add, pk_mul, leI, ltI, eqI]; omega) (ex_y (by rw [f1.1]; exact hS.left) (ex_y (by rw [f1.1]; exact hS.row) ⟨inrow (n := 7) hS (by omega), ?_⟩))
      rw [e7]
      have go : ∀ v : Nat, v = (if x = sc then 0 else 100000000) → f_X11_layCures_32 G (f_X11_layCures_2_n G 87 Q (d + 1)) 87 (nI x) (nI v) (nI x) 112 Q S1 := by
        intro v hv
        refine ⟨by rw [hS.left_l, in_iff (by omega)]; omega, nm_e ?_⟩
        rw [nI_1, clI (by omega)]
        refine ih (x + 1) _ (by omega) (fun y hy => ?_) (f1.uI rfl)
        rw [uI_s]
        by_cases e : y = x
        · rw [if_pos e, e, hv]
        · rw [if_neg e]; exact e1 y (by omega)
      refine ite_c (fun e => ?_) (fun e => ?_)
      · rw [eqI (by omega) (by omega)] at e
        exact go 0 (by rw [if_pos e])
      · rw [eqI (by omega) (by omega)] at e
        exact go 100000000 (by rw [if_neg e])
  exact ⟨257, s1 256 0 S (by omega) (fun y hy => absurd hy (by omega)) (Fr.refl S)⟩
theorem m_nextLens {sc x s : Nat} {C : Nat → Nat} (hR : Ref G S a L I un u T tn fl m) (hs : Snd sc C) (hF : Fix C) (e1 : ∀ x, x < 256 → S.1 112 x = nI (C x)) (hx : x < 256) (hc : C x = s + 1) (h8 : s + 1 < 100000000) (z : nxL C x < 8 → Q (nI (nxL C x)) S) : f_X11_nextLens G 87 (nI x) Q S := by
  have hS := hR.1.1
  obtain ⟨l0, g1, g2, g3⟩ := hs.near hF hx hc h8
  obtain ⟨l, eL, l8, hl, hm⟩ := nxL_ex (C := C) (x := x) 8 (Nat.le_refl 8) ⟨l0, by omega, g2, by rw [g3, hc]⟩ (fun l' hl' => absurd hl' (by omega))
  have eL : nxL C x = l := eL
  rw [eL] at z
  have st : ∀ (d l' : Nat), d + l' = l → f_X11_nextLens_2_n G 87 (nI x) Q (d + 1) (nI l') S := by
    intro d
    induction d with
    | zero =>
      intro l' hd
      have hd : l' = l := by omega
      subst hd
      have yl := bd_lt (l := l') (x := x) (by omega) hx
      have cy := (hs.2 _ yl).1
      have em : S.1 89 ((256 * nI l' + nI x).toNatClampNeg) = nI (bd l' x) := by
        rw [show (256 : Int32) = nI 256 from rfl, pk_mul, nI_add, clI (by omega)]
        exact hR.1.2.2.1 l' (by omega) x hx
      rw [f_X11_nextLens_2_n]
      refine ex_y hS.left (ex_y hS.made ⟨by rw [hS.made_l, show (256 : Int32) = nI 256 from rfl, pk_mul, nI_add, in_iff (by omega)]; omega, ?_⟩)
      rw [em, clI (a := bd l' x) (by omega), clI (a := x) (by omega), e1 _ yl, nI_1]
      exact ⟨by rw [hS.left_l, in_iff (by omega)]; exact yl, ex_y hS.left ⟨by rw [hS.left_l, in_iff (by omega)]; exact hx, ite_y (by rw [e1 _ hx, hl]) (z l8)⟩⟩
    | succ d ih =>
      intro l' hd
      have yl := bd_lt (l := l') (x := x) (by omega) hx
      have cy := (hs.2 _ yl).1
      have em : S.1 89 ((256 * nI l' + nI x).toNatClampNeg) = nI (bd l' x) := by
        rw [show (256 : Int32) = nI 256 from rfl, pk_mul, nI_add, clI (by omega)]
        exact hR.1.2.2.1 l' (by omega) x hx
      rw [f_X11_nextLens_2_n]
      refine ex_y hS.left (ex_y hS.made ⟨by rw [hS.made_l, show (256 : Int32) = nI 256 from rfl, pk_mul, nI_add, in_iff (by omega)]; omega, ?_⟩)
      rw [em, clI (a := bd l' x) (by omega), clI (a := x) (by omega), e1 _ yl, nI_1, nI_1]
      refine ⟨by rw [hS.left_l, in_iff (by omega)]; exact yl, ex_y hS.left ⟨by rw [hS.left_l, in_iff (by omega)]; exact hx, ite_n ?_ (ih (l' + 1) (by omega))⟩⟩
      rw [e1 _ hx, eqI (by omega) (by omega)]
      exact hm l' (by omega)
  exact ⟨_, st l 0 (by omega)⟩
theorem R_22 {v w : Int32} (h : Inv G S) (k : ∀ S', Inv G S' → K G S') : f_X10_cure G 0 v w (fun r S1 => f_X11_cure G 87 v w (fun r2 S2 => r = r2 ∧ K G S2) S1) S := by
  obtain ⟨a, L, I, un, u, T, tn, fl, m, hV, hC, hR⟩ := h
  have h6 := hV.1.1
  have hsc := hV.1.sc
  have fin := k _ (inv hV hC.th hR.th)
  unfold f_X10_cure
  refine ex_y hC.1.r0_0 ?_
  rcases (ar_c (a 0) (by omega) v).symm with hv | ⟨j, hj, rfl⟩
  · exact c_has_n hC.2.1 hV.1 hv (ite_y rfl (nm_e (m_person_n hR.th.1.1 hR.th.1.2.1 hV.1 hv (ite_y rfl ⟨rfl, fin⟩))))
  refine c_has_y hC.2.1 hV.1 hj (ite_n (by decide) ?_)
  by_cases hw : w < -1
  · refine ite_y hw (nm_e (m_person_y hR.th.1.1 hR.th.1.2.1 hV.1 hj (ite_n (by decide) (ite_n ?_ ⟨rfl, fin⟩))))
    rw [i32_lt] at hw
    rw [i32_le]; omega
  have hw' : -1 ≤ w := by
    rw [i32_lt] at hw
    rw [i32_le]; omega
  refine ite_n hw (ex_y hC.1.r0_7 (ex_y hC.1.r0_0 (C_cure hC hV.1 hj hw (fun S1 q O B F n hC1 o1 hB => nm_e ?_))))
  have hR1 := (hR.offR o1).th
  refine m_person_y hR1.1.1 hR1.1.2.1 hV.1 hj (ite_n (by decide) (ite_y hw' (M_lay hR1 hsc (hR1.1.2.1.2.2.2.2.1 3 (by omega)) (fun S2 C f2 hs hF e2 => ?_))))
  have fl_lt := sgt_lt hV.1 (j := j) (by omega)
  have hR2 := hR1.ag (S' := S2) (fun k _ => by rw [(f2.2 87 (by omega)).1]) (fun i hi => (f2.2 i (by omega)).1) (fun i hi => (f2.2 i (by omega)).2) (by rw [f2.1])
  have fin2 := k _ (inv hV (hC1.th.fr f2 (by intro i hi; unfold rlC; omega)) hR2)
  refine m_sightOf hR2.1.1 hR2.1.2.1 hR2.1.2.2.1 hV.1 (by omega) (ex_y hR2.1.1.left ⟨by rw [hR2.1.1.left_l, in_iff (by omega)]; exact fl_lt, ?_⟩)
  rw [clI (by omega)]
  refine nm_p (e2 _ fl_lt) ?_
  obtain ⟨b0, b1⟩ := hB.both fl_lt hsc hs hF
  have cb := (hs.2 _ fl_lt).1
  by_cases c0 : F (a 7) = 0
  · rw [show cuR F O B (a 7) w = -1 from by unfold cuR; rw [if_pos c0], b0 c0]
    exact ite_y (by decide) ⟨rfl, fin2⟩
  obtain ⟨f6, cf, bw⟩ := b1 c0
  refine ite_n (by rw [show (100000000 : Int32) = nI 100000000 from rfl, leI (by omega) (by omega)]; omega) ?_
  by_cases cm : w = -1
  · rw [show cuR F O B (a 7) w = nI (C (sgt a j)) from by unfold cuR; rw [if_neg c0, if_pos cm, cf]]
    refine ite_y ?_ (ite_y cm ⟨rfl, fin2⟩)
    rw [cm, i32_lt, nI_toInt (by omega)]
    have em : (-1 : Int32).toInt = -1 := rfl
    omega
  obtain ⟨i, hi, rfl⟩ : ∃ i, i < 2147483648 ∧ w = nI i := by
    rw [i32_le] at hw'
    have em : (-1 : Int32).toInt = -1 := rfl
    have : w.toInt ≠ -1 := fun e' => cm (Int32.toInt_inj.mp e')
    have hvb := Int32.toInt_lt w
    exact ⟨w.toInt.toNat, by omega, i32n (by omega) (by omega)⟩
  by_cases ci : C (sgt a j) ≤ i
  · rw [show cuR F O B (a 7) (nI i) = -1 from by unfold cuR; rw [if_neg c0, if_neg cm, ← cf, if_pos (by rw [leI (by omega) hi]; exact ci)]]
    exact ite_n (by rw [ltI hi (by omega)]; omega) ⟨rfl, fin2⟩
  rw [show cuR F O B (a 7) (nI i) = nI (B (ancO O (a 7) (C (sgt a j) - 1 - i))) from by unfold cuR; rw [if_neg c0, if_neg cm, ← cf, if_neg (by rw [leI (by omega) hi]; exact ci), clI hi]]
  refine ite_y (by rw [ltI hi (by omega)]; omega) (ite_n cm ?_)
  have st : ∀ (d t : Nat), d + t = i → f_X11_cure_65_n G 87 (nI i) (fun r2 S2 => nI (B (ancO O (a 7) (C (sgt a j) - 1 - i))) = r2 ∧ K G S2) (d + 1) (nI (wlk C (sgt a j) t)) (nI t) S2 := by
    intro d
    induction d with
    | zero =>
      intro t ht
      have ht : t = i := by omega
      subst ht
      obtain ⟨g1, g2, g3, g4, g5⟩ := bw t (by omega)
      rw [f_X11_cure_65_n]
      refine ite_y (by simp (disch := omega) only [lit, nI_add, pk_mul, leI, ltI, eqI]; omega) (m_nextLens (s := C (sgt a j) - t - 1) hR2 hs hF e2 g1 (by omega) (by omega) (fun _ => ⟨by rw [g4], fin2⟩))
    | succ d ih =>
      intro t ht
      obtain ⟨g1, g2, g3, g4, g5⟩ := bw t (by omega)
      rw [f_X11_cure_65_n, nI_1]
      refine ite_n (by simp (disch := omega) only [lit, nI_add, pk_mul, leI, ltI, eqI]; omega) (ex_y hR2.1.1.made (m_nextLens (s := C (sgt a j) - t - 1) hR2 hs hF e2 g1 (by omega) (by omega) (fun l8 => ?_)))
      rw [show (256 : Int32) = nI 256 from rfl, pk_mul, nI_add, clI (by omega), hR2.1.1.made_l]
      exact ⟨by rw [in_iff (by omega)]; omega, nm_p (hR2.1.2.2.1 _ l8 _ g1) (ih (t + 1) (by omega))⟩
  exact ⟨_, st i 0 (by omega)⟩
end
