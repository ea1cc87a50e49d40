-- needs: 378
/-! weaker. -/
def wkS (x y : Int64) (W : Nat → Int64) (i : Nat) : Nat → Int64 := fun t => if t = i then W i * y / 10 else if t = i + 1 then W (i + 1) + W i * x / 10 else W t
def wkW (x y : Int64) (W : Nat → Int64) : Nat → Nat → Int64
  | 0 => W
  | i + 1 => wkW x y (wkS x y W i) i
def wkN (x y : Int64) (k : Nat) : Nat → Nat → Int64
  | 0 => fun t => if t = 0 then 1000000000000 else 0
  | n + 1 => wkW x y (wkN x y k n) k
section
variable {G : Gm} {S S' : St} {a m : Rw} {L : Nat → Lw} {I : Im} {un tn : Nat} {u : Un} {T : Nat → Nat} {fl : Nat → Int32} {Q : Int64 → St → Prop} {K : Gm → St → Prop}
theorem C_weak {k n w : Nat} (h74 : S.2.2 54 11 = some 74) (l74 : G.2.1 74 = 21) (hk : k ≤ 20) (hn : n ≤ 60) (z : ∀ S', Fr (fun i => i = 74) S S' → Q (wkN (nI w).toInt64 ((10 : Int32) - nI w).toInt64 k n k) S') : f_X4_chance G 54 (nI w) (nI k) (nI n) Q S := by
  generalize ex : (nI w).toInt64 = x at z
  generalize ey : ((10 : Int32) - nI w).toInt64 = y at z
  have m1 : ∀ i : Nat, nI i + (-1) = nI i - 1 := fun i => by rw [← Int32.sub_eq_add_neg]
  have s3 : ∀ (kk : Int32 → St → Prop) (t i : Nat) (W : Nat → Int64) (S2 : St), i ≤ k → (∀ j, j ≤ k → S2.2.1 74 j = W j) → Fr (fun i => i = 74) S S2 → (∀ S', Fr (fun i => i = 74) S S' → (∀ j, j ≤ k → S'.2.1 74 j = wkW x y W i j) → kk (nI (t + 1)) S') → f_X4_chance_63_n G kk 54 (nI w) (nI k) (nI n) (nI t) Q (i + 1) (nI i - 1) S2 := by
    intro kk t i
    induction i with
    | zero =>
      intro W S2 hi e1 f2 hz
      rw [f_X4_chance_63_n]
      refine ite_y (by decide) ?_
      rw [nI_1]; exact hz S2 f2 e1
    | succ i ih =>
      intro W S2 hi e1 f2 hz
      have r : S2.2.2 54 11 = some 74 := by rw [f2.1]; exact h74
      rw [f_X4_chance_63_n, nI_pred, nI_1 t, nI_1 i, clI (a := i) (by omega), clI (a := i + 1) (by omega), ex, ey]
      have i1 : vp_in (nI (i + 1)) (G.2.1 74) := by rw [l74, in_iff (by omega)]; omega
      have i0 : vp_in (nI i) (G.2.1 74) := by rw [l74, in_iff (by omega)]; omega
      refine ite_n (by simp (disch := omega) only [lit, nI_add, pk_mul, leI, ltI, eqI]; omega) (ex_y r ⟨i1, ex_y r ⟨i0, i1, nm_e (ex_y r (ex_y r ⟨i0, i0, nm_e ?_⟩))⟩⟩)
      rw [m1]
      refine ih (wkS x y W i) _ (by omega) (fun j hj => ?_) ((f2.uJ rfl).uJ rfl) (fun S' f' e' => hz S' f' e')
      rw [e1 i (by omega), e1 (i + 1) (by omega)]
      have e0 : ∀ w, (uJ S2 74 (i + 1) w).2.1 74 i = W i := fun w => by rw [uJ_s, if_neg (by omega)]; exact e1 i (by omega)
      rw [e0]
      unfold wkS
      by_cases c : j = i
      · rw [uJ_s, if_pos c, if_pos c]
      · rw [uJ_s, if_neg c, if_neg c, uJ_s]
        by_cases c2 : j = i + 1
        · rw [if_pos c2, if_pos c2]
        · rw [if_neg c2, if_neg c2]; exact e1 j hj
  have s2 : ∀ (d t : Nat) (S2 : St), d + t = n → (∀ j, j ≤ k → S2.2.1 74 j = wkN x y k t j) → Fr (fun i => i = 74) S S2 → f_X4_chance_52_n G 54 (nI w) (nI k) (nI n) Q (d + 1) (nI t) S2 := by
    intro d
    induction d with
    | zero =>
      intro t S2 hd e1 f2
      have : t = n := by omega
      subst this
      rw [f_X4_chance_52_n]
      have w1 := z S2 f2
      rw [← e1 k (by omega)] at w1
      exact ite_y (by simp (disch := omega) only [lit, nI_add, pk_mul, leI, ltI, eqI]; omega) (ex_y (by rw [f2.1]; exact h74) ⟨by rw [l74, in_iff (by omega)]; omega, by rw [clI (by omega)]; exact w1⟩)
    | succ d ih =>
      intro t S2 hd e1 f2
      rw [f_X4_chance_52_n]
      refine ite_n (by simp (disch := omega) only [lit, nI_add, pk_mul, leI, ltI, eqI]; omega) (nm_e ⟨k + 1, s3 _ t k _ S2 (by omega) e1 f2 (fun S3 f3 e3 => ih (t + 1) S3 (by omega) e3 f3)⟩)
  have s1 : ∀ (d t : Nat) (S2 : St), d + t = k + 1 → (∀ j, j < t → S2.2.1 74 j = 0) → Fr (fun i => i = 74) S S2 → f_X4_chance_20_n G 54 (nI w) (nI k) (nI n) Q (d + 1) (nI t) S2 := by
    intro d
    induction d with
    | zero =>
      intro t S2 hd e1 f2
      rw [f_X4_chance_20_n]
      refine ite_y (by simp (disch := omega) only [lit, nI_add, pk_mul, leI, ltI, eqI]; omega) (ex_y (by rw [f2.1]; exact h74) ⟨by rw [l74]; exact (in_iff (k := 0) (by omega)).mpr (by omega), nm_e ⟨n + 1, s2 n 0 _ (by omega) (fun j hj => ?_) (f2.uJ rfl)⟩⟩)
      rw [uJ_s]
      show (if j = 0 then _ else _) = (if j = 0 then _ else _)
      by_cases c : j = 0
      · rw [if_pos c, if_pos c]
      · rw [if_neg c, if_neg c]; exact e1 j (by omega)
    | succ d ih =>
      intro t S2 hd e1 f2
      rw [f_X4_chance_20_n, nI_1, clI (by omega)]
      refine ite_n (by simp (disch := omega) only [lit, nI_add, pk_mul, leI, ltI, eqI]; omega) (ex_y (by rw [f2.1]; exact h74) ⟨by rw [l74, in_iff (by omega)]; omega, nm_e (ih (t + 1) _ (by omega) (fun j hj => ?_) (f2.uJ rfl))⟩)
      rw [uJ_s]
      by_cases c : j = t
      · rw [if_pos c]
      · rw [if_neg c]; exact e1 j (by omega)
  refine ite_n (by simp (disch := omega) only [lit, nI_add, pk_mul, leI, ltI, eqI]; omega) (ex_y h74 (ite_y ?_ ⟨k + 2, s1 (k + 1) 0 S (by omega) (fun j hj => absurd hj (by omega)) (Fr.refl S)⟩))
  rw [l74, ltI (by omega) (by omega)]; omega
theorem M_weak {k n w : Nat} (h117 : S.2.2 87 50 = some 117) (l117 : G.2.1 117 = 21) (h90 : S.2.2 87 4 = some 90) (l90 : G.2.1 90 = 5485) (hw : S.1 90 5 = nI w) (hk : k ≤ 20) (hn : n ≤ 60) (z : ∀ S', Fr (fun i => i = 117) S S' → Q (wkN (nI w).toInt64 ((10 : Int32) - nI w).toInt64 k n k) S') : f_X11_weaker_35 G 87 (nI k) (nI n) Q 0 S := by
  generalize ex : (nI w).toInt64 = x at z
  generalize ey : ((10 : Int32) - nI w).toInt64 = y at z
  have m1 : ∀ i : Nat, nI i + (-1) = nI i - 1 := fun i => by rw [← Int32.sub_eq_add_neg]
  have s3 : ∀ (kk : Int32 → St → Prop) (t i : Nat) (W : Nat → Int64) (S2 : St), i ≤ k → (∀ j, j ≤ k → S2.2.1 117 j = W j) → Fr (fun i => i = 117) S S2 → (∀ S', Fr (fun i => i = 117) S S' → (∀ j, j ≤ k → S'.2.1 117 j = wkW x y W i j) → kk (nI (t + 1)) S') → f_X11_weaker_85_n G kk 87 (nI k) (nI n) (nI w) (nI t) Q (i + 1) (nI i - 1) S2 := by
    intro kk t i
    induction i with
    | zero =>
      intro W S2 hi e1 f2 hz
      rw [f_X11_weaker_85_n]
      refine ite_y (by decide) ?_
      rw [nI_1]; exact hz S2 f2 e1
    | succ i ih =>
      intro W S2 hi e1 f2 hz
      have r : S2.2.2 87 50 = some 117 := by rw [f2.1]; exact h117
      rw [f_X11_weaker_85_n, nI_pred, nI_1 t, nI_1 i, clI (a := i) (by omega), clI (a := i + 1) (by omega), ex, ey]
      have i1 : vp_in (nI (i + 1)) (G.2.1 117) := by rw [l117, in_iff (by omega)]; omega
      have i0 : vp_in (nI i) (G.2.1 117) := by rw [l117, in_iff (by omega)]; omega
      refine ite_n (by simp (disch := omega) only [lit, nI_add, pk_mul, leI, ltI, eqI]; omega) (ex_y r ⟨i0, nm_e (ex_y r ⟨i0, nm_e (ex_y r ⟨i1, i1, nm_e ?_⟩)⟩)⟩)
      rw [m1]
      refine ih (wkS x y W i) _ (by omega) (fun j hj => ?_) ((f2.uJ rfl).uJ rfl) (fun S' f' e' => hz S' f' e')
      rw [e1 i (by omega)]
      have e0 : ∀ w, (uJ S2 117 i w).2.1 117 (i + 1) = W (i + 1) := fun w => by rw [uJ_s, if_neg (by omega)]; exact e1 (i + 1) (by omega)
      rw [e0]
      unfold wkS
      by_cases c : j = i
      · rw [uJ_s, if_neg (by omega), uJ_s, if_pos c, if_pos c]
      · rw [uJ_s, if_neg c]
        by_cases c2 : j = i + 1
        · rw [if_pos c2, if_pos c2]
        · rw [if_neg c2, if_neg c2, uJ_s, if_neg c]; exact e1 j hj
  have s2 : ∀ (d t : Nat) (S2 : St), d + t = n → (∀ j, j ≤ k → S2.2.1 117 j = wkN x y k t j) → Fr (fun i => i = 117) S S2 → f_X11_weaker_74_n G 87 (nI k) (nI n) (nI w) Q (d + 1) (nI t) S2 := by
    intro d
    induction d with
    | zero =>
      intro t S2 hd e1 f2
      have : t = n := by omega
      subst this
      rw [f_X11_weaker_74_n]
      have w1 := z S2 f2
      rw [← e1 k (by omega)] at w1
      exact ite_y (by simp (disch := omega) only [lit, nI_add, pk_mul, leI, ltI, eqI]; omega) (ex_y (by rw [f2.1]; exact h117) ⟨by rw [l117, in_iff (by omega)]; omega, by rw [clI (by omega)]; exact w1⟩)
    | succ d ih =>
      intro t S2 hd e1 f2
      rw [f_X11_weaker_74_n]
      refine ite_n (by simp (disch := omega) only [lit, nI_add, pk_mul, leI, ltI, eqI]; omega) (nm_e ⟨k + 1, s3 _ t k _ S2 (by omega) e1 f2 (fun S3 f3 e3 => ih (t + 1) S3 (by omega) e3 f3)⟩)
  have s1 : ∀ (d t : Nat) (S2 : St), d + t = 21 → (∀ j, j < t → S2.2.1 117 j = if j = 0 then 1000000000000 else 0) → Fr (fun i => i = 117) S S2 → f_X11_weaker_35_n G 87 (nI k) (nI n) Q (d + 1) (nI t) S2 := by
    intro d
    induction d with
    | zero =>
      intro t S2 hd e1 f2
      rw [f_X11_weaker_35_n]
      have e5 : S2.1 90 ((5 : Int32).toNatClampNeg) = nI w := by rw [(f2.2 90 (by omega)).1]; exact hw
      refine ite_y (by simp (disch := omega) only [lit, nI_add, pk_mul, leI, ltI, eqI]; omega) (ex_y (by rw [f2.1]; exact h90) ⟨by rw [l90]; exact (in_iff (k := 5) (by omega)).mpr (by omega), nm_p e5 ⟨n + 1, s2 n 0 S2 (by omega) (fun j hj => ?_) f2⟩⟩)
      exact e1 j (by omega)
    | succ d ih =>
      intro t S2 hd e1 f2
      have r : S2.2.2 87 50 = some 117 := by rw [f2.1]; exact h117
      rw [f_X11_weaker_35_n]
      refine ite_n (by simp (disch := omega) only [lit, nI_add, pk_mul, leI, ltI, eqI]; omega) (ex_y r ?_)
      have go : ∀ v : Int64, v = (if t = 0 then 1000000000000 else 0) → f_X11_weaker_57 G (f_X11_weaker_35_n G 87 (nI k) (nI n) Q (d + 1)) 87 (nI k) (nI n) (nI t) v (nI t) 117 Q S2 := by
        intro v hv
        refine ⟨by rw [l117, in_iff (by omega)]; omega, nm_e ?_⟩
        rw [nI_1, clI (by omega)]
        refine ih (t + 1) _ (by omega) (fun j hj => ?_) (f2.uJ rfl)
        rw [uJ_s]
        by_cases c : j = t
        · rw [if_pos c, c]; exact hv
        · rw [if_neg c]; exact e1 j (by omega)
      refine ite_c (fun e => go _ ?_) (fun e => go _ ?_)
      · rw [lit, eqI (by omega) (by omega)] at e
        rw [if_pos e]
      · rw [lit, eqI (by omega) (by omega)] at e
        rw [if_neg e]
  exact ⟨22, s1 21 0 S (by omega) (fun j hj => absurd hj (by omega)) (Fr.refl S)⟩
theorem R_34 {v w : Int32} (h : Inv G S) (k : ∀ S', Inv G S' → K G S') : f_X10_weaker G 0 v w (fun r S1 => f_X11_weaker G 87 v w (fun r2 S2 => r = r2 ∧ K G S2) S1) S := by
  obtain ⟨a, L, I, un, u, T, tn, fl, m, hV, hC, hR⟩ := h
  have fin := k _ (inv hV hC.th hR.th)
  have big : ∀ (N : Nat) (x : Int32), N < 100 → (x < 0 ∨ nI (N + 1) ≤ x) → ¬ x < 0 → nI N < x := by
    intro N x hN hx h0
    rcases hx with hx | hx
    · exact absurd hx h0
    · rw [i32_le, nI_toInt (by omega)] at hx
      rw [i32_lt, nI_toInt (by omega)]
      omega
  unfold f_X10_weaker
  rcases ar_c 21 (by omega) v with ⟨x, hx, rfl⟩ | hv
  · refine ite_n (by simp (disch := omega) only [lit, nI_add, pk_mul, leI, ltI, eqI]; omega) (ite_n (by simp (disch := omega) only [lit, nI_add, pk_mul, leI, ltI, eqI]; omega) ?_)
    rcases ar_c 61 (by omega) w with ⟨y, hy, rfl⟩ | hw
    · refine ite_n (by simp (disch := omega) only [lit, nI_add, pk_mul, leI, ltI, eqI]; omega) (ite_y (by simp (disch := omega) only [lit, nI_add, pk_mul, leI, ltI, eqI]; omega) (ex_y hC.1.r0_7 (ex_y hC.1.r0_0 (c_termOf (k := 1) hC.1.p1 hC.2.1 (by omega) (C_weak hC.1.r54_11 hC.1.l74 (by omega) (by omega) (fun S1 f1 => ?_))))))
      have hC1 := hC.fr f1 (by intro i hi; unfold rlC; omega)
      have hR1 := (hR.offR (Fr.offR f1 (by intro i hi; omega))).th
      refine nm_e (m_in_y (l := 0) (h := 20) (by omega) rfl rfl (by omega) (by omega) (ite_n (by decide) (m_in_y (l := 0) (h := 60) (by omega) rfl rfl (by omega) (by omega) (ite_n (by decide) ?_))))
      refine M_weak hR1.1.1.parts hR1.1.1.parts_l hR1.1.1.row hR1.1.1.row_l (hR1.1.2.1.2.2.2.2.1 1 (by omega)) (by omega) (by omega) (fun S2 f2 => ⟨rfl, k S2 (inv hV (hC1.th.fr f2 (by intro i hi; unfold rlC; omega)) (hR1.ag (fun k _ => by rw [(f2.2 87 (by omega)).1]) (fun i hi => (f2.2 i (by omega)).1) (fun i hi => (f2.2 i (by omega)).2) (by rw [f2.1])))⟩)
    · have go : f_X10_weaker_20 G (fun r S1 => f_X11_weaker G 87 (nI x) w (fun r2 S2 => r = r2 ∧ K G S2) S1) S := nm_e (m_in_y (l := 0) (h := 20) (by omega) rfl rfl (by omega) (by omega) (ite_n (by decide) (m_in_n (n := 61) (by omega) rfl rfl hw (ite_y rfl ⟨rfl, fin⟩))))
      refine ite_c (fun _ => go) (fun h0 => ite_n (fun hh => ?_) go)
      have := big 60 w (by omega) hw h0
      rw [i32_lt] at this
      rw [i32_le] at hh
      have e : (60 : Int32).toInt = 60 := rfl
      rw [nI_toInt (by omega)] at this
      omega
  · have go : f_X10_weaker_20 G (fun r S1 => f_X11_weaker G 87 v w (fun r2 S2 => r = r2 ∧ K G S2) S1) S := nm_e (m_in_n (n := 21) (by omega) rfl rfl hv (ite_y rfl ⟨rfl, fin⟩))
    exact ite_c (fun _ => go) (fun h0 => ite_y (big 20 v (by omega) hv h0) go)
end
