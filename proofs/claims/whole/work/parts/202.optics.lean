-- needs: 200 201
/-! a glass's digits -/
def dgs : Nat → Nat → Prop
  | 0, g => g = 0
  | n + 1, g => g = 0 ∨ (1 ≤ g % 10 ∧ g % 10 ≤ 8 ∧ dgs n (g / 10))
def gnn : Nat → Nat → Nat
  | 0, _ => 0
  | n + 1, g => if g = 0 then 0 else gnn n (g / 10) + 1
/-- a number that is a glass -/
def vG (g : Nat) : Prop := dgs 4 g
/-- how many lenses -/
def gn (g : Nat) : Nat := gnn 4 g
/-- the lens at a place from the front -/
def gk (g k : Nat) : Nat := if k < gn g then g / 10 ^ (gn g - 1 - k) % 10 - 1 else 0
theorem dgs_lt : ∀ {n g : Nat}, dgs n g → g < 10 ^ n := by
  intro n
  induction n with
  | zero => intro g h; have h : g = 0 := h; rw [h]; decide
  | succ n ih =>
    intro g h
    rcases h with h | ⟨_, _, h⟩
    · rw [h]; exact Nat.pow_pos (by decide)
    · have := ih h
      rw [Nat.pow_succ]; omega
theorem gnn_le : ∀ (n g : Nat), gnn n g ≤ n := by
  intro n
  induction n with
  | zero => intro g; exact Nat.le_refl _
  | succ n ih => intro g; unfold gnn; split
                 · omega
                 · have := ih (g / 10); omega
theorem vG_88 {g : Nat} (h : vG g) : g ≤ 8888 := by
  unfold vG at h
  have e : dgs 4 g ↔ (g = 0 ∨ (1 ≤ g % 10 ∧ g % 10 ≤ 8 ∧ (g / 10 = 0 ∨ (1 ≤ g / 10 % 10 ∧ g / 10 % 10 ≤ 8 ∧ (g / 10 / 10 = 0 ∨ (1 ≤ g / 10 / 10 % 10 ∧ g / 10 / 10 % 10 ≤ 8 ∧ (g / 10 / 10 / 10 = 0 ∨ (1 ≤ g / 10 / 10 / 10 % 10 ∧ g / 10 / 10 / 10 % 10 ≤ 8 ∧ g / 10 / 10 / 10 / 10 = 0)))))))) := Iff.rfl
  rw [e] at h
  omega
theorem vG_ok {g : Nat} (h : vG g) : okG g := by
  unfold vG at h
  have e : dgs 4 g ↔ (g = 0 ∨ (1 ≤ g % 10 ∧ g % 10 ≤ 8 ∧ (g / 10 = 0 ∨ (1 ≤ g / 10 % 10 ∧ g / 10 % 10 ≤ 8 ∧ (g / 10 / 10 = 0 ∨ (1 ≤ g / 10 / 10 % 10 ∧ g / 10 / 10 % 10 ≤ 8 ∧ (g / 10 / 10 / 10 = 0 ∨ (1 ≤ g / 10 / 10 / 10 % 10 ∧ g / 10 / 10 / 10 % 10 ≤ 8 ∧ g / 10 / 10 / 10 / 10 = 0)))))))) := Iff.rfl
  rw [e] at h
  unfold okG
  omega
theorem vG_0 : vG 0 := .inl rfl
theorem gn_le (g : Nat) : gn g ≤ 4 := gnn_le 4 g
theorem gn_0 : gn 0 = 0 := rfl
theorem gnn_0 (n : Nat) : gnn n 0 = 0 := by cases n <;> rfl
theorem c_lens_l {G : Gm} {Q : Int32 → St → Prop} {S : St} : ∀ (m c g : Nat), g < 10 ^ m → m ≤ 9 → (dgs m g → Q (nI (c + gnn m g)) S) → (¬ dgs m g → Q (-1) S) → f_X3_lensesIn_17_n G Q (m + 1) (nI c) (nI g) S := by
  intro m
  induction m with
  | zero =>
    intro c g hg hm h1 h2
    have : g = 0 := by simp at hg; exact hg
    subst this
    unfold f_X3_lensesIn_17_n
    exact ite_y (by decide) (h1 rfl)
  | succ m ih =>
    intro c g hg hm h1 h2
    have hg2 : g < 1000000000 := fin_pow9 hg hm
    unfold f_X3_lensesIn_17_n
    by_cases g0 : g = 0
    · subst g0
      exact ite_y (by decide) (h1 (.inl rfl))
    · refine ite_n (by simp (disch := omega) only [lit, nI_add, pk_mul, leI, ltI, eqI]; omega) ?_
      refine nm_p (rmI (d := 10) (by omega) (by omega) (by omega)) ?_
      refine ite_c (fun d0 => ?_) (fun d0 => ?_)
      · simp (disch := omega) only [lit, ltI] at d0
        exact h2 (by rintro (h | ⟨h, _, _⟩) <;> omega)
      · simp (disch := omega) only [lit, ltI] at d0
        refine ite_c (fun d8 => ?_) (fun d8 => ?_)
        · simp (disch := omega) only [lit, leI] at d8
          refine nm_p (dvI (d := 10) (by omega) (by omega) (by omega)) ?_
          rw [nI_1]
          refine ih (c + 1) (g / 10) ?_ (by omega) ?_ ?_
          · rw [Nat.pow_succ] at hg; omega
          · intro hd
            have := h1 (.inr ⟨by omega, d8, hd⟩)
            have e : gnn (m + 1) g = gnn m (g / 10) + 1 := by
              show (if g = 0 then 0 else gnn m (g / 10) + 1) = _
              rw [if_neg g0]
            rw [e] at this
            rw [show c + 1 + gnn m (g / 10) = c + (gnn m (g / 10) + 1) from by omega]
            exact this
          · intro hd
            exact h2 (by rintro (h | ⟨_, _, h⟩); exact g0 h; exact hd h)
        · simp (disch := omega) only [lit, leI] at d8
          exact h2 (by rintro (h | ⟨_, h, _⟩) <;> omega)
/-- lensesIn of a glass -/
theorem c_lensesIn {G : Gm} {Q : Int32 → St → Prop} {S : St} {g : Nat} (hg : vG g) (h : Q (nI (gn g)) S) : f_X3_lensesIn G (nI g) Q S := by
  have h8 := vG_88 hg
  unfold f_X3_lensesIn
  refine ite_n (by simp (disch := omega) only [lit, nI_add, pk_mul, leI, ltI, eqI]; omega) (ite_y (by simp (disch := omega) only [lit, nI_add, pk_mul, leI, ltI, eqI]; omega) ?_)
  refine ⟨5, c_lens_l 4 0 g (by omega) (by omega) (fun _ => ?_) (fun n => absurd hg n)⟩
  rw [Nat.zero_add]; exact h
/-- lensesIn of any number -/
theorem c_lensesIn_any {G : Gm} {Q : Int32 → St → Prop} {S : St} {v : Int32} (h1 : ∀ g, vG g → v = nI g → Q (nI (gn g)) S) (h2 : (∀ g, vG g → v ≠ nI g) → Q (-1) S) : f_X3_lensesIn G v Q S := by
  rcases ar_c 8889 (by omega) v with ⟨g, hg, rfl⟩ | hv
  · unfold f_X3_lensesIn
    refine ite_n (by simp (disch := omega) only [lit, nI_add, pk_mul, leI, ltI, eqI]; omega) (ite_y (by simp (disch := omega) only [lit, nI_add, pk_mul, leI, ltI, eqI]; omega) ?_)
    refine ⟨5, c_lens_l 4 0 g (by omega) (by omega) (fun hd => ?_) (fun n => ?_)⟩
    · rw [Nat.zero_add]; exact h1 g hd rfl
    · refine h2 (fun g' hg' e => ?_)
      have := vG_88 hg'
      rw [eqI (by omega) (by omega)] at e
      subst e
      exact n hg'
  · have h2 := h2 (fun g' hg' e => by
      have := vG_88 hg'
      exact ar_no (n := 8889) (by omega) hv ⟨g', by omega, e⟩)
    unfold f_X3_lensesIn
    refine ite_c (fun _ => h2) (fun n0 => ite_n ?_ h2)
    rcases hv with hv | hv
    · exact absurd hv n0
    · rw [i32_le] at hv ⊢
      rw [nI_toInt (by omega)] at hv
      have : (8888 : Int32).toInt = 8888 := rfl
      omega
/-- through a glass -/
theorem thC_0 (x : Nat) : thC 0 x = x := rfl
/-- how many of eight are lit -/
def litN (x : Nat) : Nat := (x % 2) + (x / 2 % 2) + (x / 4 % 2) + (x / 8 % 2) + (x / 16 % 2) + (x / 32 % 2) + (x / 64 % 2) + (x / 128 % 2)
def lowN (x : Nat) : Nat := if x % 2 = 1 then 0 else if x / 2 % 2 = 1 then 1 else if x / 4 % 2 = 1 then 2 else if x / 8 % 2 = 1 then 3 else if x / 16 % 2 = 1 then 4 else if x / 32 % 2 = 1 then 5 else if x / 64 % 2 = 1 then 6 else if x / 128 % 2 = 1 then 7 else 8
set_option maxRecDepth 100000 in
theorem bit_t : ((List.range 8).all fun c => (List.range 256).all fun x => decide ((nI x >>> (nI c &&& 31)) &&& 1 = nI (x / 2 ^ c % 2))) = true := by decide +kernel
theorem bit_e {c x : Nat} (hc : c < 8) (hx : x < 256) : (nI x >>> (nI c &&& 31)) &&& 1 = nI (x / 2 ^ c % 2) := by
  have h := List.all_eq_true.mp (List.all_eq_true.mp bit_t c (List.mem_range.mpr hc)) x (List.mem_range.mpr hx)
  exact of_decide_eq_true h
theorem c_litCells {G : Gm} {Q : Int32 → St → Prop} {S : St} {x : Nat} (hx : x < 256) (h : Q (nI (litN x)) S) : f_X3_litCells G (nI x) Q S := by
  unfold f_X3_litCells f_X3_litCells_4
  have st : ∀ n v c, c < 8 → f_X3_litCells_4_n G (nI x) Q n (nI (v + x / 2 ^ c % 2)) (nI (c + 1)) S → f_X3_litCells_4_n G (nI x) Q (n + 1) (nI v) (nI c) S := by
    intro n v c hc k
    show ite _ _ _
    refine ite_n (by simp (disch := omega) only [lit, nI_add, pk_mul, leI, ltI, eqI]; omega) ?_
    refine nm_p (by rw [bit_e hc hx, nI_add]) ?_
    rw [nI_1]; exact k
  refine ⟨9, ?_⟩
  refine st 8 0 0 (by omega) (st 7 _ 1 (by omega) (st 6 _ 2 (by omega) (st 5 _ 3 (by omega) (st 4 _ 4 (by omega) (st 3 _ 5 (by omega) (st 2 _ 6 (by omega) (st 1 _ 7 (by omega) ?_)))))))
  refine ite_y (by simp (disch := omega) only [lit, nI_add, pk_mul, leI, ltI, eqI]; omega) ?_
  have e : 0 + x / 2 ^ 0 % 2 + x / 2 ^ 1 % 2 + x / 2 ^ 2 % 2 + x / 2 ^ 3 % 2 + x / 2 ^ 4 % 2 + x / 2 ^ 5 % 2 + x / 2 ^ 6 % 2 + x / 2 ^ 7 % 2 = litN x := by
    unfold litN; simp only [Nat.zero_add, Nat.pow_zero, Nat.div_one]
  rw [e]; exact h
theorem c_lowestLit {G : Gm} {Q : Int32 → St → Prop} {S : St} {x : Nat} (hx : x < 256) (h : Q (nI (lowN x)) S) : f_X3_lowestLit G (nI x) Q S := by
  unfold f_X3_lowestLit f_X3_lowestLit_2
  have st : ∀ n c, c < 8 → (x / 2 ^ c % 2 = 1 → Q (nI c) S) → (¬ x / 2 ^ c % 2 = 1 → f_X3_lowestLit_2_n G (nI x) Q n (nI (c + 1)) S) → f_X3_lowestLit_2_n G (nI x) Q (n + 1) (nI c) S := by
    intro n c hc k1 k2
    show ite _ _ _
    refine ite_n (by simp (disch := omega) only [lit, nI_add, pk_mul, leI, ltI, eqI]; omega) ?_
    rw [bit_e hc hx]
    refine ite_c (fun d => ?_) (fun d => ?_)
    · simp (disch := omega) only [lit, eqI] at d
      exact k1 d
    · simp (disch := omega) only [lit, eqI] at d
      rw [nI_1]; exact k2 d
  unfold lowN at h
  refine ⟨9, ?_⟩
  refine st 8 0 (by omega) (fun e => ?_) (fun e0 => st 7 1 (by omega) (fun e => ?_) (fun e1 => st 6 2 (by omega) (fun e => ?_) (fun e2 => st 5 3 (by omega) (fun e => ?_) (fun e3 => st 4 4 (by omega) (fun e => ?_) (fun e4 => st 3 5 (by omega) (fun e => ?_) (fun e5 => st 2 6 (by omega) (fun e => ?_) (fun e6 => st 1 7 (by omega) (fun e => ?_) (fun e7 => ?_))))))))
  all_goals simp only [Nat.pow_zero, Nat.div_one, Nat.reducePow] at *
  all_goals simp only [*, if_true, if_false] at h
  all_goals exact h
theorem litN_le (x : Nat) : litN x ≤ 8 := by unfold litN; omega
theorem lowN_le (x : Nat) : lowN x ≤ 8 := by
  unfold lowN
  repeat' split
  all_goals omega
