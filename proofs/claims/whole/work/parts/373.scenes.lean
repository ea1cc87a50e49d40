-- needs: 372
/-! scenes. -/
def scN (a : Rw) : Nat → Nat
  | 0 => 0
  | s + 1 => scN a s + (if seeP a s then 1 else 0)
def thS (a : Rw) (v : Int32) : Nat → Int32
  | 0 => -1
  | s + 1 => if seeP a s ∧ nI (scN a s) = v then nI s else thS a v s
theorem scN_le (a : Rw) : ∀ s, scN a s ≤ s := by
  intro s
  induction s with
  | zero => exact Nat.le_refl 0
  | succ s ih => rw [scN]; split <;> omega
theorem scN_mono (a : Rw) {s : Nat} : ∀ d, scN a s ≤ scN a (s + d) := by
  intro d
  induction d with
  | zero => exact Nat.le_refl _
  | succ d ih => rw [show s + (d + 1) = (s + d) + 1 from by omega, scN]; omega
theorem scN_lt (a : Rw) {s t : Nat} (hs : seeP a s) (h : s < t) : scN a s < scN a t := by
  have h1 : scN a (s + 1) = scN a s + 1 := by rw [scN, if_pos hs]
  have h2 := scN_mono a (s := s + 1) (t - (s + 1))
  rw [show s + 1 + (t - (s + 1)) = t from by omega] at h2
  omega
theorem th_ex (a : Rw) {x : Nat} (hx : x < 1000) : ∀ n, n ≤ 256 → x < scN a n → ∃ s, s < n ∧ seeP a s ∧ scN a s = x ∧ thS a (nI x) n = nI s := by
  intro n
  induction n with
  | zero => intro _ h; exact absurd h (Nat.not_lt_zero _)
  | succ n ih =>
    intro hn h
    have l := scN_le a n
    by_cases c : seeP a n ∧ scN a n = x
    · exact ⟨n, by omega, c.1, c.2, by rw [thS, if_pos ⟨c.1, by rw [c.2]⟩]⟩
    · have h2 : x < scN a n := by
        rw [scN] at h
        by_cases p : seeP a n
        · rw [if_pos p] at h
          have : scN a n ≠ x := fun e => c ⟨p, e⟩
          omega
        · rw [if_neg p] at h; exact h
      obtain ⟨s, s1, s2, s3, s4⟩ := ih (by omega) h2
      refine ⟨s, by omega, s2, s3, ?_⟩
      rw [thS, if_neg (fun e => c ⟨e.1, (eqI (by omega) (by omega)).mp e.2⟩)]; exact s4
theorem th_no (a : Rw) {v : Int32} : ∀ n, (∀ s, s < n → seeP a s → nI (scN a s) ≠ v) → thS a v n = -1 := by
  intro n
  induction n with
  | zero => intro _; rfl
  | succ n ih =>
    intro h
    rw [thS, if_neg (fun e => h n (by omega) e.1 e.2)]
    exact ih (fun s hs => h s (by omega))
section
variable {G : Gm} {S S' : St} {a m : Rw} {L : Nat → Lw} {I : Im} {un tn : Nat} {u : Un} {T : Nat → Nat} {fl : Nat → Int32} {Q : Int32 → St → Prop} {K : Gm → St → Prop}
theorem c_agrees {s : Nat} (hH : PSh G S.2.2 1) (hP : ParC S 1 a) (hV : Va a) (hs : s < 256) (h1 : seeP a s → Q 1 S) (h0 : ¬ seeP a s → Q 0 S) : f_X4_agrees G 1 (nI s) Q S := by
  have h8 := hV.2.1
  have h6 := hV.1
  have r5 : S.1 1 5 = nI (a 1) := hP.2.1
  have st : ∀ (n i : Nat), n + i = a 1 → (∀ k, k < i → thC (a (32 + a (44 + k))) s = a (52 + k)) → f_X4_agrees_2_n G 1 (nI s) Q (n + 1) (nI i) S := by
    intro n
    induction n with
    | zero =>
      intro i hi hk
      rw [f_X4_agrees_2_n, r5]
      exact ite_y (by simp (disch := omega) only [lit, nI_add, pk_mul, leI, ltI, eqI]; omega) (h1 (fun k hk' => hk k (by omega)))
    | succ n ih =>
      intro i hi hk
      rw [f_X4_agrees_2_n, r5]
      have bp := hV.bp (i := i) (by omega)
      have by6 := hV.by (i := i) (by omega)
      have as8 := hV.as (i := i) (by omega)
      have tl := thC_lt (x := s) (vG_ok (hV.gl (i := a (44 + i)) by6)) hs
      refine ite_n (by simp (disch := omega) only [lit, nI_add, pk_mul, leI, ltI, eqI]; omega) (ite_n (by simp (disch := omega) only [lit, nI_add, pk_mul, leI, ltI, eqI]; omega) (ex_y hH.2.2.2.2.1 ⟨by rw [hH.2.2.2.2.2.2.2.2.2.2.2.1, in_iff (by omega)]; omega, ?_⟩))
      rw [clI (by omega), hP.2.2.2.2.2.2.2.2.1 i (by omega)]
      refine c_glassOf hH hP hV bp (c_through (vG_ok (hV.gl by6)) hs (ex_y hH.2.2.2.2.2.1 ⟨by rw [hH.2.2.2.2.2.2.2.2.2.2.2.2.1, in_iff (by omega)]; omega, ?_⟩))
      rw [hP.2.2.2.2.2.2.2.2.2 i (by omega), nI_1]
      refine ite_c (fun h => ?_) (fun h => ?_)
      · rw [eqI (by omega) (by omega)] at h
        refine ih (i + 1) (by omega) (fun k hk' => ?_)
        by_cases e : k = i
        · rw [e]; exact h
        · exact hk k (by omega)
      · rw [eqI (by omega) (by omega)] at h
        exact h0 (fun hh => h (hh i (by omega)))
  exact ⟨a 1 + 1, st (a 1) 0 (by omega) (fun k hk => absurd hk (by omega))⟩
theorem C_find (hC : Cls G S a L I un u T tn fl m) (hV : Va a) (z : ∀ S', Cls G S' a L I un u T tn fl m → OffR S S' → (∀ s, s < 256 → seeP a s → S'.1 63 (scN a s) = nI s) → Q (nI (scN a 256)) S') : f_X4_findScenes G 54 1 Q S := by
  have st : ∀ (n s : Nat) (S1 : St), n + s = 256 → Fr (fun i => i = 63) S S1 → (∀ t, t < s → seeP a t → S1.1 63 (scN a t) = nI t) → f_X4_findScenes_4_n G 54 1 Q (n + 1) (nI (scN a s)) (nI s) S1 := by
    intro n
    induction n with
    | zero =>
      intro s S1 hs f1 h1
      have hs : s = 256 := by omega
      subst hs
      rw [f_X4_findScenes_4_n]
      exact ite_y (by simp (disch := omega) only [lit, nI_add, pk_mul, leI, ltI, eqI]; omega) (z S1 (hC.fr f1 (by intro i hi; unfold rlC; omega)) (Fr.offR f1 (by intro i hi; omega)) h1)
    | succ n ih =>
      intro s S1 hs f1 h1
      have hC1 := hC.fr f1 (by intro i hi; unfold rlC; omega)
      have sl := scN_le a s
      rw [f_X4_findScenes_4_n, nI_1, nI_1]
      refine ite_n (by simp (disch := omega) only [lit, nI_add, pk_mul, leI, ltI, eqI]; omega) (c_agrees hC1.1.p1 hC1.2.1 hV (by omega) (fun p => ite_n (by decide) (ex_y hC1.1.r54_5 ⟨by rw [hC1.1.l63, in_iff (by omega)]; omega, nm_e ?_⟩)) (fun p => ite_y rfl ?_))
      · rw [clI (by omega)]
        have w := ih (s + 1) (uI S1 63 (scN a s) (nI s)) (by omega) (f1.uI rfl) (fun t ht pt => by
          rw [uI_s]
          by_cases e : t = s
          · rw [if_pos (by rw [e]), e]
          · have := scN_lt a pt (show t < s by omega)
            rw [if_neg (by omega)]; exact h1 t (by omega) pt)
        rw [scN, if_pos p] at w
        exact w
      · have w := ih (s + 1) S1 (by omega) f1 (fun t ht pt => by
          by_cases e : t = s
          · subst e; exact absurd pt p
          · exact h1 t (by omega) pt)
        rw [scN, if_neg p] at w
        exact w
  exact ⟨257, st 256 0 S (by omega) (Fr.refl S) (fun t ht => absurd ht (by omega))⟩
theorem M_scenes {v : Int32} (hR : Ref G S a L I un u T tn fl m) (hV : Va a) (h : if v = -1 then Q (nI (scN a 256)) S else Q (thS a v 256) S) : f_X11_scenes_12 G 87 v Q 0 (-1) 0 S := by
  have st : ∀ (n s : Nat), n + s = 256 → f_X11_scenes_12_n G 87 v Q (n + 1) (nI (scN a s)) (thS a v s) (nI s) S := by
    intro n
    induction n with
    | zero =>
      intro s hs
      have hs : s = 256 := by omega
      subst hs
      rw [f_X11_scenes_12_n]
      exact ite_y (by simp (disch := omega) only [lit, nI_add, pk_mul, leI, ltI, eqI]; omega) h
    | succ n ih =>
      intro s hs
      rw [f_X11_scenes_12_n, nI_1, nI_1]
      have w := ih (s + 1) (by omega)
      rw [scN, thS] at w
      refine ite_n (by simp (disch := omega) only [lit, nI_add, pk_mul, leI, ltI, eqI]; omega) (m_allSee hR hV (by omega) (fun p => ite_n (by decide) ?_) (fun p => ite_y rfl ?_))
      · rw [if_pos p] at w
        refine ite_c (fun e => ?_) (fun e => ?_)
        · rw [if_pos ⟨p, e⟩] at w; exact w
        · rw [if_neg (fun c => e c.2)] at w; exact w
      · rw [if_neg p, if_neg (fun c => p c.1)] at w; exact w
  exact ⟨257, st 256 0 (by omega)⟩
theorem R_25 {v : Int32} (h : Inv G S) (k : ∀ S', Inv G S' → K G S') : f_X10_scenes G 0 v (fun r S1 => f_X11_scenes G 87 v (fun r2 S2 => r = r2 ∧ K G S2) S1) S := by
  obtain ⟨a, L, I, un, u, T, tn, fl, m, hV, hC, hR⟩ := h
  have sl := scN_le a 256
  have sl' := scN_le a
  unfold f_X10_scenes
  have em : (-1 : Int32).toInt = -1 := rfl
  by_cases hlo : v < -1
  · refine ite_y hlo (nm_e (M_scenes hR.th hV.1 (ite_n (fun e => ?_) ⟨?_, k _ (inv hV hC.th hR.th)⟩)))
    · rw [e] at hlo; exact absurd hlo (by decide)
    · refine (th_no a 256 (fun s hs _ e => ?_)).symm
      have := sl' s
      rw [← e, i32_lt, nI_toInt (by omega)] at hlo; omega
  refine ite_n hlo (ex_y hC.1.r0_7 (ex_y hC.1.r0_0 (C_find hC hV.1 (fun S1 hC1 o1 h63 => ?_))))
  have hR1 := (hR.offR o1).th
  have fin := k _ (inv hV hC1.th hR1)
  by_cases h1 : v = -1
  · exact ite_y h1 (nm_e (M_scenes hR1 hV.1 (ite_y h1 ⟨rfl, fin⟩)))
  refine ite_n h1 ?_
  rw [i32_lt] at hlo
  have hv0 : 0 ≤ v.toInt := by
    have : v.toInt ≠ -1 := fun e => h1 (Int32.toInt_inj.mp e)
    omega
  have hvb := Int32.toInt_lt v
  obtain ⟨x, hx, rfl⟩ : ∃ x, x < 2147483648 ∧ v = nI x := ⟨v.toInt.toNat, by omega, i32n (by omega) (by omega)⟩
  by_cases hc : scN a 256 ≤ x
  · refine ite_y (by rw [leI (by omega) hx]; exact hc) (nm_e (M_scenes hR1 hV.1 (ite_n h1 ⟨?_, fin⟩)))
    refine (th_no a 256 (fun s hs p e => ?_)).symm
    have := sl' s
    rw [eqI (by omega) hx] at e
    have := scN_lt a p hs
    omega
  · refine ite_n (by rw [leI (by omega) hx]; exact hc) (ite_n (by rw [lit, leI (by omega) hx]; omega) (ex_y hC1.1.r54_5 ⟨by rw [hC1.1.l63, in_iff (by omega)]; omega, nm_e (M_scenes hR1 hV.1 (ite_n h1 ⟨?_, fin⟩))⟩))
    obtain ⟨s, s1, s2, s3, s4⟩ := th_ex a (x := x) (by omega) 256 (by omega) (by omega)
    rw [clI (by omega), s4, ← s3]; exact h63 s s1 s2
end
