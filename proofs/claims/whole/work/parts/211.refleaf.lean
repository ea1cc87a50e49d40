-- needs: 200 201 202 203 210
/-! The reference: its smallest methods. -/
def RowR (f : Nat → Int32) (a : Nat → Nat) : Prop := f 0 = nI (a 0) ∧ f 1 = nI (a 1) ∧ f 2 = nI (a 2) ∧ f 3 = nI (a 3) - 1 ∧ (∀ i, i < 4 → f (4 + i) = nI (a (4 + i))) ∧ (∀ i, i < 24 → f (8 + i) = nI (a (8 + i))) ∧ (∀ j, j < 6 → f (32 + 5 * j) = nI (gn (a (32 + j)))) ∧ (∀ j, j < 6 → ∀ k, k < 4 → f (33 + 5 * j + k) = nI (gk (a (32 + j)) k)) ∧ (∀ j, j < 6 → f (62 + j) = nI (a (38 + j))) ∧ (∀ k, k < 8 → f (68 + 2 * k) = nI (a (44 + k))) ∧ (∀ k, k < 8 → f (69 + 2 * k) = nI (a (52 + k)))
def Made (f : Nat → Int32) : Prop := ∀ l, l < 8 → ∀ x, x < 256 → f (256 * l + x) = nI (bd l x)
section
variable {G : Gm} {S : St} {a : Nat → Nat} {Q : Int32 → St → Prop} {K : St → Prop}
theorem m_in {x lo hi : Int64} (h1 : lo.toInt ≤ x.toInt → x.toInt ≤ hi.toInt → Q 1 S) (h0 : ¬ (lo.toInt ≤ x.toInt ∧ x.toInt ≤ hi.toInt) → Q 0 S) : f_X11_in G x lo hi Q S := by
  unfold f_X11_in
  refine ite_c (fun h => ?_) (fun h => ?_)
  · rw [cmp_lt] at h; exact h0 (by omega)
  · rw [cmp_lt] at h
    refine ite_c (fun h' => ?_) (fun h' => ?_)
    · rw [cmp_gt] at h'; exact h0 (by omega)
    · rw [cmp_gt] at h'; exact h1 (by omega) (by omega)
/-- an int between two literals: of naturals -/
theorem m_in_y {lo hi : Int64} {j l h : Nat} (hj : j < 2147483648) (hl : lo.toInt = l) (hh : hi.toInt = h) (h1 : l ≤ j) (h2 : j ≤ h) (k : Q 1 S) : f_X11_in G (nI j).toInt64 lo hi Q S := by
  refine m_in (fun _ _ => k) (fun n => ?_)
  exfalso; apply n
  rw [i32_64, nI_toInt (by omega), hl, hh]; omega
theorem m_in_n {v : Int32} {lo hi : Int64} {n : Nat} (hn : n < 2147483648) (hl : lo.toInt = 0) (hh : hi.toInt = (n : Int) - 1) (hv : v < 0 ∨ nI n ≤ v) (k : Q 0 S) : f_X11_in G v.toInt64 lo hi Q S := by
  refine m_in (fun h1 h2 => ?_) (fun _ => k)
  exfalso
  rw [i32_64] at h1 h2
  rcases hv with hv | hv
  · rw [i32_lt] at hv
    have : (0 : Int32).toInt = 0 := rfl
    omega
  · rw [i32_le, nI_toInt (by omega)] at hv
    omega
theorem m_kind_y {k : Nat} (hk : k < 4) (h : Q 1 S) : f_X11_isKind G (nI k) Q S :=
  m_in_y (l := 0) (h := 3) (by omega) rfl rfl (by omega) (by omega) ⟨.inr rfl, h⟩
theorem m_kind_n {v : Int32} (hv : v < 0 ∨ nI 4 ≤ v) (h : Q 0 S) : f_X11_isKind G v Q S :=
  m_in_n (n := 4) (by omega) rfl rfl hv ⟨.inl rfl, h⟩
theorem m_sight_y {k : Nat} (hk : k < 256) (h : Q 1 S) : f_X11_isSight G (nI k) Q S :=
  m_in_y (l := 0) (h := 255) (by omega) rfl rfl (by omega) (by omega) ⟨.inr rfl, h⟩
theorem m_sight_n {v : Int32} (hv : v < 0 ∨ nI 256 ≤ v) (h : Q 0 S) : f_X11_isSight G v Q S :=
  m_in_n (n := 256) (by omega) rfl rfl hv ⟨.inl rfl, h⟩
theorem l1 {n : Nat} (hn : n < 2147483648) : ((nI n).toInt64 - 1).toInt = (n : Int) - 1 := by
  rw [nI_l (by omega)]
  by_cases h : n = 0
  · subst h; rfl
  · rw [show (1 : Int64) = lN 1 from rfl, lN_sub (by omega), lN_toInt (by omega)]; omega
theorem m_person_y {j : Nat} (hS : ShR G S.2.2) (hR : RowR (S.1 90) a) (hV : Va a) (hj : j < a 0) (h : Q 1 S) : f_X11_isPerson G 87 (nI j) Q S := by
  have h6 := hV.1
  refine ex_y hS.row ⟨?_, ?_⟩
  · rw [hS.row_l]; exact (in_iff (k := 0) (by omega)).mpr (by omega)
  · show f_X11_in _ _ _ (((S.1 90 0).toInt64) - 1) _ _
    rw [hR.1]
    refine m_in (fun _ _ => ⟨.inr rfl, h⟩) (fun n => ?_)
    exfalso; apply n
    rw [i32_64, nI_toInt (by omega), l1 (by omega)]
    have : (0 : Int64).toInt = 0 := rfl
    omega
theorem m_person_n {v : Int32} (hS : ShR G S.2.2) (hR : RowR (S.1 90) a) (hV : Va a) (hv : v < 0 ∨ nI (a 0) ≤ v) (h : Q 0 S) : f_X11_isPerson G 87 v Q S := by
  have h6 := hV.1
  refine ex_y hS.row ⟨?_, ?_⟩
  · rw [hS.row_l]; exact (in_iff (k := 0) (by omega)).mpr (by omega)
  · show f_X11_in _ _ _ (((S.1 90 0).toInt64) - 1) _ _
    rw [hR.1]
    exact m_in_n (n := a 0) (by omega) rfl (l1 (by omega)) hv ⟨.inl rfl, h⟩
theorem m_lensesOf {j : Nat} (hS : ShR G S.2.2) (hR : RowR (S.1 90) a) (hj : j < 6) (h : Q (nI (gn (a (32 + j)))) S) : f_X11_lensesOf G 87 (nI j) Q S := by
  refine ex_y hS.row ?_
  simp (disch := omega) only [lit, nI_add, pk_mul, clI, in_iff]
  rw [hS.row_l, hR.2.2.2.2.2.2.1 j hj]
  exact ⟨by omega, h⟩
theorem m_sinsOf {j : Nat} (hS : ShR G S.2.2) (hR : RowR (S.1 90) a) (hj : j < 6) (h : Q (nI (sn4 a j)) S) : f_X11_sinsOf G 87 (nI j) Q S := by
  have st : ∀ n v k, k < 4 → f_X11_sinsOf_4_n G 87 (nI j) Q n (nI (v + a (8 + (4 * j + k)))) (nI (k + 1)) S → f_X11_sinsOf_4_n G 87 (nI j) Q (n + 1) (nI v) (nI k) S := by
    intro n v k hk z
    show ite _ _ _
    refine ite_n (by simp (disch := omega) only [lit, nI_add, pk_mul, leI, ltI, eqI]; omega) (ex_y hS.row ?_)
    simp (disch := omega) only [lit, nI_add, pk_mul, clI, in_iff]
    rw [hS.row_l, show 8 + 4 * j + k = 8 + (4 * j + k) from by omega, hR.2.2.2.2.2.1 _ (by omega)]
    exact ⟨by omega, nm_p (nI_add _ _) z⟩
  refine ⟨5, st 4 0 0 (by omega) (st 3 _ 1 (by omega) (st 2 _ 2 (by omega) (st 1 _ 3 (by omega) ?_)))⟩
  refine ite_y (by simp (disch := omega) only [lit, nI_add, pk_mul, leI, ltI, eqI]; omega) ?_
  rw [Nat.zero_add]; exact h
theorem m_litOf {x : Nat} (hx : x < 256) (h : Q (nI (litN x)) S) : f_X11_litOf G (nI x) Q S := by
  have st : ∀ n v c, c < 8 → f_X11_litOf_4_n G (nI x) Q n (nI (v + x / 2 ^ c % 2)) (nI (c + 1)) S → f_X11_litOf_4_n G (nI x) Q (n + 1) (nI v) (nI c) S := by
    intro n v c hc k
    show ite _ _ _
    refine ite_n (by simp (disch := omega) only [lit, nI_add, pk_mul, leI, ltI, eqI]; omega) ?_
    refine nm_p (by rw [bit_e hc hx, nI_add]) ?_
    rw [nI_1]; exact k
  refine ⟨9, ?_⟩
  refine st 8 0 0 (by omega) (st 7 _ 1 (by omega) (st 6 _ 2 (by omega) (st 5 _ 3 (by omega) (st 4 _ 4 (by omega) (st 3 _ 5 (by omega) (st 2 _ 6 (by omega) (st 1 _ 7 (by omega) ?_)))))))
  refine ite_y (by simp (disch := omega) only [lit, nI_add, pk_mul, leI, ltI, eqI]; omega) ?_
  have e : 0 + x / 2 ^ 0 % 2 + x / 2 ^ 1 % 2 + x / 2 ^ 2 % 2 + x / 2 ^ 3 % 2 + x / 2 ^ 4 % 2 + x / 2 ^ 5 % 2 + x / 2 ^ 6 % 2 + x / 2 ^ 7 % 2 = litN x := by
    unfold litN; simp only [Nat.zero_add, Nat.pow_zero, Nat.div_one]
  rw [e]; exact h
theorem m_firstOf {x : Nat} (hx : x < 256) (h : Q (nI (lowN x)) S) : f_X11_firstOf G (nI x) Q S := by
  have st : ∀ n c, c < 8 → (x / 2 ^ c % 2 = 1 → Q (nI c) S) → (¬ x / 2 ^ c % 2 = 1 → f_X11_firstOf_2_n G (nI x) Q n (nI (c + 1)) S) → f_X11_firstOf_2_n G (nI x) Q (n + 1) (nI c) S := by
    intro n c hc k1 k2
    show ite _ _ _
    refine ite_n (by simp (disch := omega) only [lit, nI_add, pk_mul, leI, ltI, eqI]; omega) ?_
    show ite _ _ _
    rw [bit_e hc hx]
    refine ite_c (fun d => ?_) (fun d => ?_)
    · simp (disch := omega) only [lit, eqI] at d
      exact ite_n (by decide) (k1 d)
    · simp (disch := omega) only [lit, eqI] at d
      refine ite_y rfl ?_
      rw [nI_1]; exact k2 d
  unfold lowN at h
  refine ⟨9, ?_⟩
  refine st 8 0 (by omega) (fun e => ?_) (fun e0 => st 7 1 (by omega) (fun e => ?_) (fun e1 => st 6 2 (by omega) (fun e => ?_) (fun e2 => st 5 3 (by omega) (fun e => ?_) (fun e3 => st 4 4 (by omega) (fun e => ?_) (fun e4 => st 3 5 (by omega) (fun e => ?_) (fun e5 => st 2 6 (by omega) (fun e => ?_) (fun e6 => st 1 7 (by omega) (fun e => ?_) (fun e7 => ?_))))))))
  all_goals simp only [Nat.pow_zero, Nat.div_one, Nat.reducePow] at *
  all_goals simp only [*, if_true, if_false] at h
  all_goals exact h
/-- through lenses, the first first -/
def thR (l : Nat → Nat) : Nat → Nat → Nat → Nat
  | 0, _, x => x
  | n + 1, k, x => thR l n (k + 1) (bd (l k) x)
theorem gk_lt {g k : Nat} (hg : vG g) : gk g k < 8 := by
  unfold gk
  split
  · have h := vG_ok hg
    have := gn_le g
    unfold okG at h
    have e : gn g - 1 - k = 0 ∨ gn g - 1 - k = 1 ∨ gn g - 1 - k = 2 ∨ gn g - 1 - k = 3 := by omega
    rcases e with e | e | e | e <;> rw [e] <;> omega
  · omega
theorem thR_C {g x : Nat} (hg : vG g) : thR (gk g) (gn g) 0 x = thC g x := by
  have e : dgs 4 g ↔ (g = 0 ∨ (1 ≤ g % 10 ∧ g % 10 ≤ 8 ∧ (g / 10 = 0 ∨ (1 ≤ g / 10 % 10 ∧ g / 10 % 10 ≤ 8 ∧ (g / 10 / 10 = 0 ∨ (1 ≤ g / 10 / 10 % 10 ∧ g / 10 / 10 % 10 ≤ 8 ∧ (g / 10 / 10 / 10 = 0 ∨ (1 ≤ g / 10 / 10 / 10 % 10 ∧ g / 10 / 10 / 10 % 10 ≤ 8 ∧ g / 10 / 10 / 10 / 10 = 0)))))))) := Iff.rfl
  have en : gn g = if g = 0 then 0 else (if g / 10 = 0 then 0 else (if g / 10 / 10 = 0 then 0 else (if g / 10 / 10 / 10 = 0 then 0 else 0 + 1) + 1) + 1) + 1 := rfl
  have hg := e.mp hg
  have b0 : ∀ y, bD 0 y = y := fun _ => rfl
  have bp : ∀ d y, 1 ≤ d → bD d y = bd (d - 1) y := fun d y h => if_neg (by omega)
  unfold thC
  rcases hg with h | ⟨h1, h2, h | ⟨h3, h4, h | ⟨h5, h6, h | ⟨h7, h8, h9⟩⟩⟩⟩
  · have n : gn g = 0 := by rw [en, if_pos h]
    rw [n, h]; rfl
  · have n : gn g = 1 := by rw [en, if_neg (by omega), if_pos h]
    rw [n, show g / 1000 % 10 = 0 from by omega, show g / 100 % 10 = 0 from by omega, show g / 10 % 10 = 0 from by omega, b0, b0, b0, bp _ _ h1]
    show bd (gk g 0) x = _
    unfold gk; rw [n, if_pos (by omega)]; simp
  · have n : gn g = 2 := by rw [en, if_neg (by omega), if_neg (by omega), if_pos h]
    rw [n, show g / 1000 % 10 = 0 from by omega, show g / 100 % 10 = 0 from by omega, b0, b0, bp _ _ h1, bp _ _ h3]
    show bd (gk g 1) (bd (gk g 0) x) = _
    unfold gk; rw [n, if_pos (by omega), if_pos (by omega)]; simp
  · have n : gn g = 3 := by rw [en, if_neg (by omega), if_neg (by omega), if_neg (by omega), if_pos h]
    rw [n, show g / 1000 % 10 = 0 from by omega, b0, bp _ _ h1, bp _ _ h3, bp (g / 100 % 10) _ (by omega)]
    show bd (gk g 2) (bd (gk g 1) (bd (gk g 0) x)) = _
    unfold gk; rw [n, if_pos (by omega), if_pos (by omega), if_pos (by omega)]; simp
  · have n : gn g = 4 := by rw [en, if_neg (by omega), if_neg (by omega), if_neg (by omega), if_neg (by omega)]
    rw [n, bp _ _ h1, bp _ _ h3, bp (g / 100 % 10) _ (by omega), bp (g / 1000 % 10) _ (by omega)]
    show bd (gk g 3) (bd (gk g 2) (bd (gk g 1) (bd (gk g 0) x))) = _
    unfold gk; rw [n, if_pos (by omega), if_pos (by omega), if_pos (by omega), if_pos (by omega)]; simp
theorem m_through {j x : Nat} (hS : ShR G S.2.2) (hR : RowR (S.1 90) a) (hM : Made (S.1 89)) (hV : Va a) (hj : j < 6) (hx : x < 256) (h : Q (nI (thC (a (32 + j)) x)) S) : f_X11_through G 87 (nI j) (nI x) Q S := by
  rw [← thR_C (hV.gl hj)] at h
  have hl := hV.gl hj
  have st : ∀ m k y, y < 256 → k + m = gn (a (32 + j)) → Q (nI (thR (gk (a (32 + j))) m k y)) S → f_X11_through_5_n G 87 (nI j) Q (m + 1) (nI y) (nI k) S := by
    intro m
    have g4 := gn_le (a (32 + j))
    induction m with
    | zero =>
      intro k y hy hk z
      refine m_lensesOf hS hR hj ?_
      exact ite_y (by simp (disch := omega) only [lit, nI_add, pk_mul, leI, ltI, eqI]; omega) z
    | succ m ih =>
      intro k y hy hk z
      refine m_lensesOf hS hR hj ?_
      refine ite_n (by simp (disch := omega) only [lit, nI_add, pk_mul, leI, ltI, eqI]; omega) ?_
      refine ex_y hS.made (ex_y hS.row ?_)
      have l8 := gk_lt (k := k) hl
      simp (disch := omega) only [lit, nI_add, pk_mul, clI, in_iff]
      rw [hS.row_l, hS.made_l, show 32 + 5 * j + 1 + k = 33 + 5 * j + k from by omega, hR.2.2.2.2.2.2.2.1 j hj k (by omega)]
      simp (disch := omega) only [nI_add, pk_mul, clI, in_iff]
      rw [hM _ l8 _ hy]
      exact ⟨by omega, by omega, nm_e (ih (k + 1) _ (bd_lt l8 hy) (by omega) z)⟩
  exact ⟨gn (a (32 + j)) + 1, st _ 0 x hx (by omega) h⟩
theorem m_sightOf {j : Nat} (hS : ShR G S.2.2) (hR : RowR (S.1 90) a) (hM : Made (S.1 89)) (hV : Va a) (hj : j < 6) (h : Q (nI (sgt a j)) S) : f_X11_sightOf G 87 (nI j) Q S := by
  refine ex_y hS.row ⟨?_, ?_⟩
  · rw [hS.row_l]; exact (in_iff (k := 7) (by omega)).mpr (by omega)
  · have e : S.1 90 ((7 : Int32).toNatClampNeg) = nI (a 7) := hR.2.2.2.2.1 3 (by omega)
    rw [e]
    exact m_through hS hR hM hV hj hV.sc h
end
