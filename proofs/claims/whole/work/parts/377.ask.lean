-- needs: 376
/-! ask. -/
theorem mxI {x y : Nat} (hx : x < 2147483648) (hy : y < 2147483648) : mx (nI x) (nI y) = nI (max x y) := by
  unfold mx
  by_cases h : x < y
  · rw [if_pos (show nI x < nI y from by rw [ltI hx hy]; exact h), Nat.max_eq_right (by omega)]
  · rw [if_neg (show ¬ nI x < nI y from by rw [ltI hx hy]; exact h), Nat.max_eq_left (by omega)]
/-- whom to ask (and one), and of how many -/
def akP (a : Rw) : Nat → Nat × Nat
  | 0 => (0, 0)
  | j + 1 => if akM a (a (32 + j)) 256 = 0 then akP a j else if (akP a j).1 = 0 ∨ akM a (a (32 + j)) 256 < (akP a j).2 then (j + 1, akM a (a (32 + j)) 256) else akP a j
theorem akP_le (a : Rw) : ∀ j, (akP a j).1 ≤ j ∧ (akP a j).2 ≤ 256 := by
  intro j
  induction j with
  | zero => exact ⟨Nat.le_refl 0, Nat.zero_le _⟩
  | succ j ih =>
    have := akM_le a (a (32 + j)) 256
    rw [akP]
    split
    · omega
    · split
      · exact ⟨Nat.le_refl _, by omega⟩
      · omega
theorem akM_0 (a : Rw) (g : Nat) : ∀ s, scN a s = 0 → akM a g s = 0 := by
  intro s
  induction s with
  | zero => intro _; rfl
  | succ s ih =>
    intro h
    rw [scN] at h
    by_cases p : seeP a s
    · rw [if_pos p] at h; omega
    · rw [akM, if_neg p]; exact ih (by omega)
theorem akM_1 (a : Rw) (g : Nat) : ∀ s, 0 < scN a s → 0 < akM a g s := by
  intro s
  induction s with
  | zero => intro h; exact absurd h (Nat.lt_irrefl 0)
  | succ s ih =>
    intro h
    rw [scN] at h
    by_cases p : seeP a s
    · rw [akM, if_pos p]
      have : 0 < akC a g (s + 1) (thC g s) := by rw [akC, if_pos ⟨p, rfl⟩]; omega
      omega
    · rw [if_neg p] at h
      rw [akM, if_neg p]; exact ih (by omega)
section
variable {G : Gm} {S S' : St} {a m : Rw} {L : Nat → Lw} {I : Im} {un tn : Nat} {u : Un} {T : Nat → Nat} {fl : Nat → Int32} {Q : Int32 → St → Prop} {K : Gm → St → Prop}
theorem c_mostAlike {g : Nat} (hC : Cls G S a L I un u T tn fl m) (hg : okG g) (h63 : ∀ s, s < 256 → seeP a s → S.1 63 (scN a s) = nI s) (z : ∀ S', Fr (fun i => i = 64) S S' → Q (nI (akM a g 256)) S') : f_X4_mostAlike G 54 (nI g) (nI (scN a 256)) Q S := by
  have hS := hC.1
  have sl := scN_le a
  have s2 : ∀ (d s : Nat) (S1 : St), d + s = 256 → Fr (fun i => i = 64) S S1 → (∀ x, x < 256 → S1.1 64 x = nI (akC a g s x)) → f_X4_mostAlike_27_n G 54 (nI g) (nI (scN a 256)) Q (scN a 256 - scN a s + 1) (nI (akM a g s)) (nI (scN a s)) S1 := by
    intro d
    induction d with
    | zero =>
      intro s S1 hs f1 e3
      have hs : s = 256 := by omega
      subst hs
      have := sl 256
      rw [f_X4_mostAlike_27_n]
      exact ite_y (by simp (disch := omega) only [lit, nI_add, pk_mul, leI, ltI, eqI]; omega) (z S1 f1)
    | succ d ih =>
      intro s S1 hs f1 e3
      have s6 := sl 256
      have ss := sl s
      by_cases p : seeP a s
      · have lt := scN_lt a p (show s < 256 by omega)
        have e1 : scN a (s + 1) = scN a s + 1 := by rw [scN, if_pos p]
        have w := fun S2 => ih (s + 1) S2 (by omega)
        rw [e1] at w
        rw [show scN a 256 - scN a s + 1 = (scN a 256 - (scN a s + 1) + 1) + 1 from by omega, f_X4_mostAlike_27_n, nI_1]
        have tl := thC_lt (x := s) hg (by omega)
        have cl := akC_le a g (thC g s) s
        have ml := akM_le a g s
        refine ite_n (by simp (disch := omega) only [lit, nI_add, pk_mul, leI, ltI, eqI]; omega) (ite_n (by simp (disch := omega) only [lit, nI_add, pk_mul, leI, ltI, eqI]; omega) (ex_y (by rw [f1.1]; exact hS.r54_5) ⟨by rw [hS.l63, in_iff (by omega)]; omega, ?_⟩))
        rw [clI (by omega), (f1.2 63 (by omega)).1, h63 s (by omega) p]
        refine c_through hg (by omega) (c_num_y tl (ite_n (by decide) (ex_y (by rw [f1.1]; exact hS.r54_6) ?_)))
        have i64 : vp_in (nI (thC g s)) (G.2.1 64) := by rw [hS.l64, in_iff (by omega)]; exact tl
        rw [clI (by omega), e3 _ tl, nI_1]
        refine ⟨i64, i64, nm_e (ex_y (by rw [uI_2, f1.1]; exact hS.r54_6) ⟨i64, ?_⟩)⟩
        rw [uI_s, if_pos rfl]
        have e3' : ∀ x, x < 256 → (uI S1 64 (thC g s) (nI (akC a g s (thC g s) + 1))).1 64 x = nI (akC a g (s + 1) x) := by
          intro x hx
          rw [uI_s, akC]
          by_cases e : x = thC g s
          · rw [if_pos e, if_pos ⟨p, e.symm⟩, e]
          · rw [if_neg e, if_neg (fun c => e c.2.symm), Nat.add_zero]; exact e3 x hx
        have w := w (uI S1 64 (thC g s) (nI (akC a g s (thC g s) + 1))) (f1.uI rfl) e3'
        rw [akM, if_pos p, akC, if_pos ⟨p, rfl⟩] at w
        exact nm_p (mxI (by omega) (by omega)) w
      · have w := ih (s + 1) S1 (by omega) f1 (fun x hx => by rw [akC, if_neg (fun c => p c.1), Nat.add_zero]; exact e3 x hx)
        rw [akM, if_neg p, show scN a (s + 1) = scN a s from by rw [scN, if_neg p, Nat.add_zero]] at w; exact w
  have s1 : ∀ (n s : Nat) (S1 : St), n + s = 256 → Fr (fun i => i = 64) S S1 → (∀ x, x < s → S1.1 64 x = 0) → f_X4_mostAlike_2_n G 54 (nI g) (nI (scN a 256)) Q (n + 1) (nI s) S1 := by
    intro n
    induction n with
    | zero =>
      intro s S1 hs f1 e3
      have hs : s = 256 := by omega
      subst hs
      rw [f_X4_mostAlike_2_n]
      have w := s2 256 0 S1 (by omega) f1 (fun x hx => by rw [e3 x hx]; rfl)
      exact ite_y (by simp (disch := omega) only [lit, nI_add, pk_mul, leI, ltI, eqI]; omega) ⟨_, w⟩
    | succ n ih =>
      intro s S1 hs f1 e3
      rw [f_X4_mostAlike_2_n, nI_1]
      refine ite_n (by simp (disch := omega) only [lit, nI_add, pk_mul, leI, ltI, eqI]; omega) (ex_y (by rw [f1.1]; exact hS.r54_6) ⟨by rw [hS.l64, in_iff (by omega)]; omega, nm_e (ih (s + 1) _ (by omega) (f1.uI rfl) (fun x hx => ?_))⟩)
      rw [clI (by omega), uI_s]
      by_cases e : x = s
      · rw [if_pos e]
      · rw [if_neg e]; exact e3 x (by omega)
  exact ⟨257, s1 256 0 S (by omega) (Fr.refl S) (fun x hx => absurd hx (by omega))⟩
/-- the answer -/
def akA (a : Rw) (v : Int32) : Int32 := if (akP a (a 0)).1 = 0 then -1 else if v = 0 then nI ((akP a (a 0)).1 - 1) else nI (akP a (a 0)).2
theorem C_ask {v w : Int32} (hC : Cls G S a L I un u T tn fl m) (hV : Va a) (hv : (v = 0 ∧ w = 1) ∨ (v = 1 ∧ w = 0)) (z : ∀ S', Cls G S' a L I un u T tn fl m → OffR S S' → Q (akA a v) S') : f_X4_toAsk G 54 1 w Q S := by
  have h6 := hV.1
  have sl := scN_le a 256
  refine C_find hC hV (fun S1 hC1 o1 h63 => ?_)
  have en : ∀ (S2 : St) (p x : Nat), p ≤ 6 → x ≤ 256 → akP a (a 0) = (p, x) → Cls G S2 a L I un u T tn fl m → OffR S S2 → f_X4_toAsk_64 G w (nI p - 1) (if p = 0 then 257 else nI x) Q S2 := by
    intro S2 p x hp hx e hC2 o2
    have zz := z S2 hC2 o2
    unfold akA at zz
    rw [e] at zz
    show ite _ _ _
    by_cases p0 : p = 0
    · subst p0
      have zz : Q (-1) S2 := zz
      have e0 : nI 0 - 1 = (-1 : Int32) := rfl
      rw [e0]
      exact ite_c (fun _ => ite_y rfl zz) (fun _ => zz)
    · obtain ⟨p, rfl⟩ : ∃ q, p = q + 1 := ⟨p - 1, by omega⟩
      have zz : Q (if v = 0 then nI (p + 1 - 1) else nI x) S2 := zz
      rw [nI_pred p, if_neg p0]
      have ne : ¬ nI p = (-1 : Int32) := by
        intro e
        have := congrArg Int32.toInt e
        rw [nI_toInt (by omega)] at this
        have : (p : Int) = -1 := this
        omega
      rcases hv with ⟨rfl, rfl⟩ | ⟨rfl, rfl⟩
      · exact ite_n (by decide) zz
      · exact ite_y rfl (ite_n ne zz)
  by_cases c0 : scN a 256 = 0
  · have p0 : ∀ j, akP a j = (0, 0) := by
      intro j
      induction j with
      | zero => rfl
      | succ j ih => rw [akP, if_pos (akM_0 a _ 256 c0)]; exact ih
    refine ⟨1, ?_⟩
    rw [f_X4_toAsk_17_n]
    have e := en S1 0 0 (by omega) (by omega) (p0 _) hC1 o1
    exact ite_c (fun _ => e) (fun _ => ite_y (by rw [c0]; decide) e)
  have st : ∀ (n j : Nat) (S2 : St), n + j = a 0 → Fr (fun i => i = 64) S1 S2 → f_X4_toAsk_17_n G 54 1 w (nI (scN a 256)) Q (n + 1) (nI (akP a j).1 - 1) (if (akP a j).1 = 0 then 257 else nI (akP a j).2) (nI j) S2 := by
    intro n
    induction n with
    | zero =>
      intro j S2 hj f1
      have hC2 := hC1.fr f1 (by intro i hi; unfold rlC; omega)
      have ej : j = a 0 := by omega
      obtain ⟨l1, l2⟩ := akP_le a j
      rw [f_X4_toAsk_17_n, hC2.2.1.1]
      exact ite_y (by simp (disch := omega) only [lit, nI_add, pk_mul, leI, ltI, eqI]; omega) (en S2 _ _ (by omega) l2 (by rw [← ej]) hC2 (o1.trans (Fr.offR f1 (by intro i hi; omega))))
    | succ n ih =>
      intro j S2 hj f1
      have hC2 := hC1.fr f1 (by intro i hi; unfold rlC; omega)
      obtain ⟨l1, l2⟩ := akP_le a j
      have gl := vG_ok (hV.gl (i := j) (by omega))
      have ml := akM_le a (a (32 + j)) 256
      have m1 := akM_1 a (a (32 + j)) 256 (by omega)
      rw [f_X4_toAsk_17_n, hC2.2.1.1, nI_1]
      refine ite_n (by simp (disch := omega) only [lit, nI_add, pk_mul, leI, ltI, eqI]; omega) (ite_n (by simp (disch := omega) only [lit, nI_add, pk_mul, leI, ltI, eqI]; omega) (c_glassOf hC2.1.p1 hC2.2.1 hV (by omega) (c_mostAlike hC2 gl (fun s hs ps => by rw [(f1.2 63 (by omega)).1]; exact h63 s hs ps) (fun S3 f3 => ?_))))
      have w := ih (j + 1) S3 (by omega) (f1.trans f3)
      have m0 : ¬ akM a (a (32 + j)) 256 = 0 := by omega
      by_cases c : (akP a j).1 = 0
      · rw [if_pos c]
        rw [show akP a (j + 1) = (j + 1, akM a (a (32 + j)) 256) from by rw [akP, if_neg m0, if_pos (.inl c)]] at w
        refine ite_n (by simp (disch := omega) only [lit, nI_add, pk_mul, leI, ltI, eqI]; omega) ?_
        rw [show (if (j + 1, akM a (a (32 + j)) 256).1 = 0 then (257 : Int32) else nI (j + 1, akM a (a (32 + j)) 256).2) = nI (akM a (a (32 + j)) 256) from if_neg (Nat.succ_ne_zero j), show nI (j + 1, akM a (a (32 + j)) 256).1 - 1 = nI j from nI_pred j] at w
        exact w
      · rw [if_neg c]
        by_cases c2 : akM a (a (32 + j)) 256 < (akP a j).2
        · rw [show akP a (j + 1) = (j + 1, akM a (a (32 + j)) 256) from by rw [akP, if_neg m0, if_pos (.inr c2)]] at w
          refine ite_n (by simp (disch := omega) only [lit, nI_add, pk_mul, leI, ltI, eqI]; omega) ?_
          rw [show (if (j + 1, akM a (a (32 + j)) 256).1 = 0 then (257 : Int32) else nI (j + 1, akM a (a (32 + j)) 256).2) = nI (akM a (a (32 + j)) 256) from if_neg (Nat.succ_ne_zero j), show nI (j + 1, akM a (a (32 + j)) 256).1 - 1 = nI j from nI_pred j] at w
          exact w
        · rw [show akP a (j + 1) = akP a j from by rw [akP, if_neg m0, if_neg (by rintro (h | h); exact c h; exact c2 h)], if_neg c] at w
          exact ite_y (by simp (disch := omega) only [lit, nI_add, pk_mul, leI, ltI, eqI]; omega) w
  exact ⟨a 0 + 1, st (a 0) 0 S1 (by omega) (Fr.refl _)⟩
theorem M_ask {v : Int32} (hR : Ref G S a L I un u T tn fl m) (hV : Va a) (hv : v = 0 ∨ v = 1) (z : ∀ S', Ref G S' a L I un u T tn fl m → OffC S S' → Q (akA a v) S') : f_X11_ask_26 G 87 v Q 100000000 (-1) 0 S := by
  have h6 := hV.1
  have st : ∀ (n j : Nat) (S2 : St), n + j = a 0 → Ref G S2 a L I un u T tn fl m → OffC S S2 → f_X11_ask_26_n G 87 v Q (n + 1) (if (akP a j).1 = 0 then 100000000 else nI (akP a j).2) (nI (akP a j).1 - 1) (nI j) S2 := by
    intro n
    induction n with
    | zero =>
      intro j S2 hj hR2 o2
      have ej : j = a 0 := by omega
      obtain ⟨l1, l2⟩ := akP_le a j
      have zz := z S2 hR2 o2
      unfold akA at zz
      rw [← ej] at zz
      have r0 : S2.1 90 ((0 : Int32).toNatClampNeg) = nI (a 0) := hR2.1.2.1.1
      rw [f_X11_ask_26_n]
      refine ex_y hR2.1.1.row ⟨inrow (n := 0) hR2.1.1 (by omega), ?_⟩
      rw [r0]
      refine ite_y (by simp (disch := omega) only [lit, nI_add, pk_mul, leI, ltI, eqI]; omega) ?_
      generalize akP a j = w at zz l1 l2 ⊢
      obtain ⟨p, x⟩ := w
      by_cases p0 : p = 0
      · subst p0
        exact ite_y rfl zz
      · obtain ⟨p, rfl⟩ : ∃ q, p = q + 1 := ⟨p - 1, by omega⟩
        have zz : Q (if v = 0 then nI (p + 1 - 1) else nI x) S2 := zz
        show ite (nI (p + 1) - 1 = (-1 : Int32)) (Q (nI (p + 1) - 1) S2) (if v = 0 then Q (nI (p + 1) - 1) S2 else Q (nI x) S2)
        rw [nI_pred p]
        have l1 : p + 1 ≤ j := l1
        have ne : ¬ nI p = (-1 : Int32) := by
          intro e
          have := congrArg Int32.toInt e
          rw [nI_toInt (by omega)] at this
          have : (p : Int) = -1 := this
          omega
        refine ite_n ne ?_
        rcases hv with rfl | rfl
        · exact ite_y rfl zz
        · exact ite_n (by decide) zz
    | succ n ih =>
      intro j S2 hj hR2 o2
      obtain ⟨l1, l2⟩ := akP_le a j
      have r0 : S2.1 90 ((0 : Int32).toNatClampNeg) = nI (a 0) := hR2.1.2.1.1
      have ml := akM_le a (a (32 + j)) 256
      rw [f_X11_ask_26_n]
      refine ex_y hR2.1.1.row ⟨inrow (n := 0) hR2.1.1 (by omega), ?_⟩
      rw [r0]
      refine ite_n (by simp (disch := omega) only [lit, nI_add, pk_mul, leI, ltI, eqI]; omega) (m_mostAlike hR2 hV (by omega) (fun S3 hR3 o3 => ?_))
      have w := ih (j + 1) S3 (by omega) hR3 (o2.trans o3)
      simp only [f_X11_ask_61, f_X11_ask_62, nI_1]
      by_cases m0 : akM a (a (32 + j)) 256 = 0
      · rw [show akP a (j + 1) = akP a j from by rw [akP, if_pos m0]] at w
        exact ite_y (by simp (disch := omega) only [lit, nI_add, pk_mul, leI, ltI, eqI]; omega) (ite_y (by simp (disch := omega) only [lit, nI_add, pk_mul, leI, ltI, eqI]; omega) w)
      · refine ite_n (by simp (disch := omega) only [lit, nI_add, pk_mul, leI, ltI, eqI]; omega) ?_
        by_cases c : (akP a j).1 = 0
        · rw [if_pos c]
          rw [show akP a (j + 1) = (j + 1, akM a (a (32 + j)) 256) from by rw [akP, if_neg m0, if_pos (.inl c)]] at w
          rw [show (if (j + 1, akM a (a (32 + j)) 256).1 = 0 then (100000000 : Int32) else nI (j + 1, akM a (a (32 + j)) 256).2) = nI (akM a (a (32 + j)) 256) from if_neg (Nat.succ_ne_zero j), show nI (j + 1, akM a (a (32 + j)) 256).1 - 1 = nI j from nI_pred j] at w
          exact ite_n (by simp (disch := omega) only [lit, nI_add, pk_mul, leI, ltI, eqI]; omega) (ite_n (by simp (disch := omega) only [lit, nI_add, pk_mul, leI, ltI, eqI]; omega) (ite_n (by simp (disch := omega) only [lit, nI_add, pk_mul, leI, ltI, eqI]; omega) w))
        · rw [if_neg c]
          by_cases c2 : akM a (a (32 + j)) 256 < (akP a j).2
          · rw [show akP a (j + 1) = (j + 1, akM a (a (32 + j)) 256) from by rw [akP, if_neg m0, if_pos (.inr c2)]] at w
            rw [show (if (j + 1, akM a (a (32 + j)) 256).1 = 0 then (100000000 : Int32) else nI (j + 1, akM a (a (32 + j)) 256).2) = nI (akM a (a (32 + j)) 256) from if_neg (Nat.succ_ne_zero j), show nI (j + 1, akM a (a (32 + j)) 256).1 - 1 = nI j from nI_pred j] at w
            exact ite_n (by simp (disch := omega) only [lit, nI_add, pk_mul, leI, ltI, eqI]; omega) (ite_n (by simp (disch := omega) only [lit, nI_add, pk_mul, leI, ltI, eqI]; omega) (ite_n (by simp (disch := omega) only [lit, nI_add, pk_mul, leI, ltI, eqI]; omega) w))
          · rw [show akP a (j + 1) = akP a j from by rw [akP, if_neg m0, if_neg (by rintro (h | h); exact c h; exact c2 h)], if_neg c] at w
            exact ite_y (by simp (disch := omega) only [lit, nI_add, pk_mul, leI, ltI, eqI]; omega) (ite_n (by simp (disch := omega) only [lit, nI_add, pk_mul, leI, ltI, eqI]; omega) (ite_y (by simp (disch := omega) only [lit, nI_add, pk_mul, leI, ltI, eqI]; omega) w))
  exact ⟨a 0 + 1, st (a 0) 0 S (by omega) hR (OffC.refl S)⟩
theorem R_26 {v : Int32} (h : Inv G S) (k : ∀ S', Inv G S' → K G S') : f_X10_ask G 0 v (fun r S1 => f_X11_ask G 87 v (fun r2 S2 => r = r2 ∧ K G S2) S1) S := by
  obtain ⟨a, L, I, un, u, T, tn, fl, m, hV, hC, hR⟩ := h
  have fin := k _ (inv hV hC.th hR.th)
  have good : ∀ w, (v = 0 ∧ w = 1) ∨ (v = 1 ∧ w = 0) → f_X4_toAsk G 54 1 w (fun r S1 => f_X11_ask G 87 v (fun r2 S2 => r = r2 ∧ K G S2) S1) S := by
    intro w hw
    refine C_ask hC hV.1 hw (fun S1 hC1 o1 => ?_)
    have hR1 := hR.offR o1
    obtain ⟨x, hx, rfl⟩ : ∃ x, x ≤ 1 ∧ v = nI x := by rcases hw with h | h; exact ⟨0, by omega, h.1⟩; exact ⟨1, by omega, h.1⟩
    refine nm_e (m_in_y (l := 0) (h := 1) (by omega) rfl rfl (by omega) (by omega) (ite_n (by decide) ?_))
    exact M_ask hR1.th hV.1 (by rcases hw with h | h; exact .inl h.1; exact .inr h.1) (fun S3 hR3 o3 => ⟨rfl, k S3 (inv hV (hC1.th.offC o3) hR3)⟩)
  unfold f_X10_ask
  by_cases v0 : v = 0
  · exact ite_y v0 (ex_y hC.1.r0_7 (ex_y hC.1.r0_0 (ite_y v0 (good 1 (.inl ⟨v0, rfl⟩)))))
  · refine ite_n v0 ?_
    by_cases v1 : v = 1
    · exact ite_y v1 (ex_y hC.1.r0_7 (ex_y hC.1.r0_0 (ite_n v0 (good 0 (.inr ⟨v1, rfl⟩)))))
    · refine ite_n v1 (nm_e ?_)
      rcases ar_c 2 (by omega) v with ⟨x, hx, rfl⟩ | hv
      · rcases (show x = 0 ∨ x = 1 by omega) with rfl | rfl
        · exact absurd rfl v0
        · exact absurd rfl v1
      · exact m_in_n (n := 2) (by omega) rfl rfl hv (ite_y rfl ⟨rfl, fin⟩)
end
