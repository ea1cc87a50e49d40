-- needs: 379
/-! idle: rows of lenses that come to nothing. -/
def idF (d : Nat) : Nat → Nat → Nat
  | 0, x => x
  | r + 1, x => idF d r (bd (d / 10 ^ r % 10) x)
theorem lt5n {n : Nat} (h1 : 1 ≤ n) (h : n ≤ 4) : n = 1 ∨ n = 2 ∨ n = 3 ∨ n = 4 := by omega
theorem idB_iff {n d : Nat} (h1 : 1 ≤ n) (h4 : n ≤ 4) : idB n d = true ↔ ∀ x, x < 256 → idF d n x = x := by
  unfold idB
  rw [List.all_eq_true]
  have e : ∀ x, (List.range n).foldl (fun v k => bd (d / 10 ^ (n - 1 - k) % 10) v) x = idF d n x := by
    intro x
    rcases lt5n h1 h4 with rfl | rfl | rfl | rfl <;> rfl
  constructor
  · intro h x hx
    have := h x (List.mem_range.mpr hx)
    rw [e] at this
    exact eq_of_beq this
  · intro h x hx
    rw [e, h x (List.mem_range.mp hx)]
    exact beq_self_eq_true x
theorem idD_dig : ∀ (n c r : Nat), r < n → 1 ≤ idD n c / 10 ^ r % 10 ∧ idD n c / 10 ^ r % 10 ≤ 7 := by
  intro n
  induction n with
  | zero => intro c r h; exact absurd h (Nat.not_lt_zero _)
  | succ n ih =>
    intro c r h
    rw [idD]
    cases r with
    | zero => rw [Nat.pow_zero, Nat.div_one]; omega
    | succ r =>
      have := ih (c / 7) r (by omega)
      rw [Nat.pow_succ, Nat.mul_comm (10 ^ r) 10, ← Nat.div_div_eq_div_mul, show (10 * idD n (c / 7) + (c % 7 + 1)) / 10 = idD n (c / 7) from by omega]
      exact this
theorem idD_lt : ∀ (n c : Nat), idD n c < 10 ^ n := by
  intro n
  induction n with
  | zero => intro c; exact Nat.one_pos
  | succ n ih =>
    intro c
    have := ih (c / 7)
    rw [idD, Nat.pow_succ]
    omega
def onN : Nat → Nat
  | 0 => 0
  | n + 1 => onN n * 10 + 1
theorem idF_lt {n c : Nat} : ∀ r x, r ≤ n → x < 256 → idF (idD n c) r x < 256 := by
  intro r
  induction r with
  | zero => intro x _ hx; exact hx
  | succ r ih =>
    intro x hr hx
    have := idD_dig n c r (by omega)
    exact ih _ (by omega) (bd_lt (by omega) hx)
theorem bD_s (d x : Nat) : bD (d + 1) x = bd d x := by unfold bD; rw [if_neg (Nat.succ_ne_zero d)]; rfl
theorem id_th {n c x : Nat} (h1 : 1 ≤ n) (h4 : n ≤ 4) : thC (idD n c + onN n) x = idF (idD n c) n x ∧ okG (idD n c + onN n) := by
  have z0 : ∀ y, bD 0 y = y := fun _ => rfl
  rcases lt5n h1 h4 with rfl | rfl | rfl | rfl
  · show thC ((10 * 0 + (c % 7 + 1)) + 1) x = bd ((10 * 0 + (c % 7 + 1)) / 10 ^ 0 % 10) x ∧ okG ((10 * 0 + (c % 7 + 1)) + 1)
    have b1 : c % 7 + 1 ≤ 7 := by omega
    generalize c % 7 + 1 = p at b1
    unfold thC okG
    rw [show (10 * 0 + p + 1) % 10 = p + 1 from by omega, show (10 * 0 + p + 1) / 10 % 10 = 0 from by omega, show (10 * 0 + p + 1) / 100 % 10 = 0 from by omega, show (10 * 0 + p + 1) / 1000 % 10 = 0 from by omega, z0, z0, z0, bD_s, show (10 * 0 + p) / 10 ^ 0 % 10 = p from by omega]
    exact ⟨rfl, by omega, by omega, by omega, by omega, by omega⟩
  · show thC ((10 * (10 * 0 + (c / 7 % 7 + 1)) + (c % 7 + 1)) + 11) x = bd ((10 * (10 * 0 + (c / 7 % 7 + 1)) + (c % 7 + 1)) / 10 ^ 0 % 10) (bd ((10 * (10 * 0 + (c / 7 % 7 + 1)) + (c % 7 + 1)) / 10 ^ 1 % 10) x) ∧ okG ((10 * (10 * 0 + (c / 7 % 7 + 1)) + (c % 7 + 1)) + 11)
    have b1 : c % 7 + 1 ≤ 7 := by omega
    have b2 : c / 7 % 7 + 1 ≤ 7 := by omega
    generalize c % 7 + 1 = p at b1
    generalize c / 7 % 7 + 1 = q at b2
    have e : 10 * (10 * 0 + q) + p = 10 * q + p := by omega
    rw [e]
    unfold thC okG
    rw [show (10 * q + p + 11) % 10 = p + 1 from by omega, show (10 * q + p + 11) / 10 % 10 = q + 1 from by omega, show (10 * q + p + 11) / 100 % 10 = 0 from by omega, show (10 * q + p + 11) / 1000 % 10 = 0 from by omega, z0, z0, bD_s, bD_s, show (10 * q + p) / 10 ^ 0 % 10 = p from by omega, show (10 * q + p) / 10 ^ 1 % 10 = q from by omega]
    exact ⟨rfl, by omega, by omega, by omega, by omega, by omega⟩
  · show thC ((10 * (10 * (10 * 0 + (c / 7 / 7 % 7 + 1)) + (c / 7 % 7 + 1)) + (c % 7 + 1)) + 111) x = bd ((10 * (10 * (10 * 0 + (c / 7 / 7 % 7 + 1)) + (c / 7 % 7 + 1)) + (c % 7 + 1)) / 10 ^ 0 % 10) (bd ((10 * (10 * (10 * 0 + (c / 7 / 7 % 7 + 1)) + (c / 7 % 7 + 1)) + (c % 7 + 1)) / 10 ^ 1 % 10) (bd ((10 * (10 * (10 * 0 + (c / 7 / 7 % 7 + 1)) + (c / 7 % 7 + 1)) + (c % 7 + 1)) / 10 ^ 2 % 10) x)) ∧ okG ((10 * (10 * (10 * 0 + (c / 7 / 7 % 7 + 1)) + (c / 7 % 7 + 1)) + (c % 7 + 1)) + 111)
    have b1 : c % 7 + 1 ≤ 7 := by omega
    have b2 : c / 7 % 7 + 1 ≤ 7 := by omega
    have b3 : c / 7 / 7 % 7 + 1 ≤ 7 := by omega
    generalize c % 7 + 1 = p at b1
    generalize c / 7 % 7 + 1 = q at b2
    generalize c / 7 / 7 % 7 + 1 = s at b3
    have e : 10 * (10 * (10 * 0 + s) + q) + p = 100 * s + 10 * q + p := by omega
    rw [e]
    unfold thC okG
    rw [show (100 * s + 10 * q + p + 111) % 10 = p + 1 from by omega, show (100 * s + 10 * q + p + 111) / 10 % 10 = q + 1 from by omega, show (100 * s + 10 * q + p + 111) / 100 % 10 = s + 1 from by omega, show (100 * s + 10 * q + p + 111) / 1000 % 10 = 0 from by omega, z0, bD_s, bD_s, bD_s, show (100 * s + 10 * q + p) / 10 ^ 0 % 10 = p from by omega, show (100 * s + 10 * q + p) / 10 ^ 1 % 10 = q from by omega, show (100 * s + 10 * q + p) / 10 ^ 2 % 10 = s from by omega]
    exact ⟨rfl, by omega, by omega, by omega, by omega, by omega⟩
  · show thC ((10 * (10 * (10 * (10 * 0 + (c / 7 / 7 / 7 % 7 + 1)) + (c / 7 / 7 % 7 + 1)) + (c / 7 % 7 + 1)) + (c % 7 + 1)) + 1111) x = bd ((10 * (10 * (10 * (10 * 0 + (c / 7 / 7 / 7 % 7 + 1)) + (c / 7 / 7 % 7 + 1)) + (c / 7 % 7 + 1)) + (c % 7 + 1)) / 10 ^ 0 % 10) (bd ((10 * (10 * (10 * (10 * 0 + (c / 7 / 7 / 7 % 7 + 1)) + (c / 7 / 7 % 7 + 1)) + (c / 7 % 7 + 1)) + (c % 7 + 1)) / 10 ^ 1 % 10) (bd ((10 * (10 * (10 * (10 * 0 + (c / 7 / 7 / 7 % 7 + 1)) + (c / 7 / 7 % 7 + 1)) + (c / 7 % 7 + 1)) + (c % 7 + 1)) / 10 ^ 2 % 10) (bd ((10 * (10 * (10 * (10 * 0 + (c / 7 / 7 / 7 % 7 + 1)) + (c / 7 / 7 % 7 + 1)) + (c / 7 % 7 + 1)) + (c % 7 + 1)) / 10 ^ 3 % 10) x))) ∧ okG ((10 * (10 * (10 * (10 * 0 + (c / 7 / 7 / 7 % 7 + 1)) + (c / 7 / 7 % 7 + 1)) + (c / 7 % 7 + 1)) + (c % 7 + 1)) + 1111)
    have b1 : c % 7 + 1 ≤ 7 := by omega
    have b2 : c / 7 % 7 + 1 ≤ 7 := by omega
    have b3 : c / 7 / 7 % 7 + 1 ≤ 7 := by omega
    have b4 : c / 7 / 7 / 7 % 7 + 1 ≤ 7 := by omega
    generalize c % 7 + 1 = p at b1
    generalize c / 7 % 7 + 1 = q at b2
    generalize c / 7 / 7 % 7 + 1 = s at b3
    generalize c / 7 / 7 / 7 % 7 + 1 = t at b4
    have e : 10 * (10 * (10 * (10 * 0 + t) + s) + q) + p = 1000 * t + 100 * s + 10 * q + p := by omega
    rw [e]
    unfold thC okG
    rw [show (1000 * t + 100 * s + 10 * q + p + 1111) % 10 = p + 1 from by omega, show (1000 * t + 100 * s + 10 * q + p + 1111) / 10 % 10 = q + 1 from by omega, show (1000 * t + 100 * s + 10 * q + p + 1111) / 100 % 10 = s + 1 from by omega, show (1000 * t + 100 * s + 10 * q + p + 1111) / 1000 % 10 = t + 1 from by omega, bD_s, bD_s, bD_s, bD_s, show (1000 * t + 100 * s + 10 * q + p) / 10 ^ 0 % 10 = p from by omega, show (1000 * t + 100 * s + 10 * q + p) / 10 ^ 1 % 10 = q from by omega, show (1000 * t + 100 * s + 10 * q + p) / 10 ^ 2 % 10 = s from by omega, show (1000 * t + 100 * s + 10 * q + p) / 10 ^ 3 % 10 = t from by omega]
    exact ⟨rfl, by omega, by omega, by omega, by omega, by omega⟩
/-- those found so far -/
def idP (n c : Nat) : List Nat := ((List.range c).map (idD n)).filter (idB n)
theorem idP_s (n c : Nat) : idP n (c + 1) = idP n c ++ (if idB n (idD n c) then [idD n c] else []) := by
  unfold idP
  rw [List.range_succ, List.map_append, List.filter_append]
  simp only [List.map_cons, List.map_nil, List.filter_cons, List.filter_nil]
theorem idP_mono (n : Nat) {c : Nat} : ∀ d, (idP n c).length ≤ (idP n (c + d)).length := by
  intro d
  induction d with
  | zero => exact Nat.le_refl _
  | succ d ih => rw [show c + (d + 1) = (c + d) + 1 from by omega, idP_s, List.length_append]; omega
/-- counted by blocks -/
def ctN (n c : Nat) : Nat → Nat
  | 0 => 0
  | d + 1 => ctN n c d + (if idB n (idD n (c + d)) = true then 1 else 0)
theorem ctN_add (n c d : Nat) : ∀ e, ctN n c (d + e) = ctN n c d + ctN n (c + d) e := by
  intro e
  induction e with
  | zero => rfl
  | succ e ih => rw [show d + (e + 1) = (d + e) + 1 from by omega, ctN, ctN, ih, Nat.add_assoc c d e]; omega
theorem idP_ct (n : Nat) : ∀ c, (idP n c).length = ctN n 0 c := by
  intro c
  induction c with
  | zero => rfl
  | succ c ih =>
    rw [idP_s, List.length_append, ih, ctN, Nat.zero_add]
    by_cases b : idB n (idD n c) = true
    · rw [if_pos b, if_pos b]; rfl
    · rw [if_neg b, if_neg b]; rfl
def bkN (n : Nat) : Nat → Nat → Nat
  | 0, c => if idB n (idD n c) = true then 1 else 0
  | k + 1, c => bkN n k c + bkN n k (c + 7 ^ k) + bkN n k (c + 7 ^ k + 7 ^ k) + bkN n k (c + 7 ^ k + 7 ^ k + 7 ^ k) + bkN n k (c + 7 ^ k + 7 ^ k + 7 ^ k + 7 ^ k) + bkN n k (c + 7 ^ k + 7 ^ k + 7 ^ k + 7 ^ k + 7 ^ k) + bkN n k (c + 7 ^ k + 7 ^ k + 7 ^ k + 7 ^ k + 7 ^ k + 7 ^ k)
theorem ctN_bk (n : Nat) : ∀ k c, ctN n c (7 ^ k) = bkN n k c := by
  intro k
  induction k with
  | zero => intro c; show 0 + _ = _; rw [Nat.zero_add]; rfl
  | succ k ih =>
    intro c
    rw [show 7 ^ (k + 1) = 7 ^ k + (7 ^ k + (7 ^ k + (7 ^ k + (7 ^ k + (7 ^ k + 7 ^ k))))) from by rw [Nat.pow_succ]; omega]
    rw [ctN_add, ctN_add, ctN_add, ctN_add, ctN_add, ctN_add, ih, ih, ih, ih, ih, ih, ih, bkN]
    omega
set_option maxRecDepth 100000 in
theorem bk_t : bkN 1 1 0 ≤ 31 ∧ bkN 2 2 0 ≤ 31 ∧ bkN 3 3 0 ≤ 31 ∧ bkN 4 4 0 ≤ 31 := by decide +kernel
theorem idL_le {n : Nat} (h1 : 1 ≤ n) (h4 : n ≤ 4) : (idL n).length ≤ 31 := by
  show (idP n (7 ^ n)).length ≤ 31
  rw [idP_ct, ctN_bk]
  obtain ⟨t1, t2, t3, t4⟩ := bk_t
  rcases lt5n h1 h4 with rfl | rfl | rfl | rfl
  · exact t1
  · exact t2
  · exact t3
  · exact t4
theorem idP_le {n c : Nat} (h1 : 1 ≤ n) (h4 : n ≤ 4) (hc : c ≤ 7 ^ n) : (idP n c).length ≤ 31 := by
  have := idP_mono n (c := c) (7 ^ n - c)
  rw [show c + (7 ^ n - c) = 7 ^ n from by omega] at this
  exact Nat.le_trans this (idL_le h1 h4)
theorem p7 {n : Nat} (h4 : n ≤ 4) : 7 ^ n ≤ 2401 := by
  have h : n = 0 ∨ n = 1 ∨ n = 2 ∨ n = 3 ∨ n = 4 := by omega
  rcases h with rfl | rfl | rfl | rfl | rfl <;> omega
theorem p10 {n : Nat} (h4 : n ≤ 4) : 10 ^ n ≤ 10000 := by
  have h : n = 0 ∨ n = 1 ∨ n = 2 ∨ n = 3 ∨ n = 4 := by omega
  rcases h with rfl | rfl | rfl | rfl | rfl <;> omega
def idT (n : Nat) (v : Int32) : Nat → Int32
  | 0 => -1
  | c + 1 => if idB n (idD n c) = true ∧ nI (idP n c).length = v then nI (idD n c) else idT n v c
theorem idT_y {n x : Nat} (h1 : 1 ≤ n) (h4 : n ≤ 4) (hx : x < 1000) : ∀ c, c ≤ 7 ^ n → x < (idP n c).length → idT n (nI x) c = nI ((idP n c).getD x 0) := by
  intro c
  induction c with
  | zero => intro _ h; exact absurd h (Nat.not_lt_zero _)
  | succ c ih =>
    intro hc h
    have l := idP_le h1 h4 (show c ≤ 7 ^ n by omega)
    rw [idT]
    rw [idP_s] at h ⊢
    by_cases b : idB n (idD n c) = true
    · rw [if_pos b] at h ⊢
      rw [List.length_append] at h
      have h : x < (idP n c).length + 1 := h
      by_cases e : (idP n c).length = x
      · rw [if_pos ⟨b, by rw [e]⟩, List.getD_eq_getElem?_getD, List.getElem?_append_right (by omega), ← e, Nat.sub_self]; rfl
      · rw [if_neg (fun c' => e ((eqI (by omega) (by omega)).mp c'.2)), List.getD_eq_getElem?_getD, List.getElem?_append_left (by omega), ← List.getD_eq_getElem?_getD]
        exact ih (by omega) (by omega)
    · rw [if_neg b] at h ⊢
      rw [if_neg (fun c' => b c'.1)]
      rw [List.append_nil] at h ⊢
      exact ih (by omega) h
theorem idT_n {n : Nat} {v : Int32} (h : ∀ c, c < 7 ^ n → idB n (idD n c) = true → nI (idP n c).length ≠ v) : ∀ c, c ≤ 7 ^ n → idT n v c = -1 := by
  intro c
  induction c with
  | zero => intro _; rfl
  | succ c ih =>
    intro hc
    rw [idT, if_neg (fun e => h c (by omega) e.1 e.2)]
    exact ih (by omega)
section
variable {G : Gm} {S S' : St} {a m : Rw} {L : Nat → Lw} {I : Im} {un tn : Nat} {u : Un} {T : Nat → Nat} {fl : Nat → Int32} {Q : Int32 → St → Prop} {K : Gm → St → Prop}
theorem Cls.idl (h : Cls G S a L I un u T tn fl m) (hM : ∀ i, rlC i → i < 68 ∨ 73 < i → S'.1 i = S.1 i) (hR : S'.2.2 = S.2.2) (h9 : IdlC S') : Cls G S' a L I un u T tn fl m := by
  obtain ⟨h1, h2, h3, h4, h5, h6, h7, h8, _⟩ := h
  unfold rlC at hM
  exact ⟨by rw [hR]; exact h1, h2.ag (fun i _ _ => hM i (by omega) (by omega)), h3.ag (fun i _ => hM i (by omega) (by omega)) hR, h4.ag (hM _ (by omega) (by omega)) (hM _ (by omega) (by omega)) (hM _ (by omega) (by omega)), h5.ag (fun i _ => hM i (by omega) (by omega)) hR, h6.ag (hM _ (by omega) (by omega)) (hM _ (by omega) (by omega)), h7.ag (congrFun (hM _ (by omega) (by omega)) _) (hM _ (by omega) (by omega)), h8.ag (hM _ (by omega) (by omega)) (congrFun (hM _ (by omega) (by omega)) _) (hM _ (by omega) (by omega)), h9⟩
theorem c_rowOf {n c : Nat} (hn : n ≤ 4) (hc : c < 100000) (h : Q (nI (idD n c)) S) : f_X4_rowOf G (nI c) (nI n) Q S := by
  have st : ∀ (d i x r p : Nat), d + i = n → p = 10 ^ i → r < 100000 → x + p * idD d r = idD n c → f_X4_rowOf_10_n G (nI n) Q (d + 1) (nI x) (nI r) (nI p) (nI i) S := by
    intro d
    induction d with
    | zero =>
      intro i x r p hi hp hr e
      rw [f_X4_rowOf_10_n]
      have e : x = idD n c := by rw [idD] at e; omega
      rw [e]
      exact ite_y (by simp (disch := omega) only [lit, nI_add, pk_mul, leI, ltI, eqI]; omega) h
    | succ d ih =>
      intro i x r p hi hp hr e
      have hp4 : p ≤ 10000 := by rw [hp]; exact p10 (by omega)
      rw [f_X4_rowOf_10_n, nI_1]
      refine ite_n (by simp (disch := omega) only [lit, nI_add, pk_mul, leI, ltI, eqI]; omega) (nm_p (e' := nI (x + (r % 7 + 1) * p)) ?_ (nm_p (dvI (d := 7) (by omega) (by omega) (by omega)) (nm_p (e' := nI (p * 10)) ?_ ?_)))
      · rw [show (7 : Int32) = nI 7 from rfl, rmI (by omega) (by omega) (by omega), nI_1, pk_mul, nI_add]
      · rw [show (10 : Int32) = nI 10 from rfl, pk_mul]
      · refine ih (i + 1) (x + (r % 7 + 1) * p) (r / 7) (p * 10) (by omega) (by rw [hp, Nat.pow_succ]) (by omega) ?_
        rw [idD, Nat.mul_add] at e
        rw [← e, Nat.mul_comm (r % 7 + 1) p, Nat.mul_assoc p 10]
        omega
  exact ⟨n + 1, st n 0 0 c 1 (by omega) rfl hc (by omega)⟩
theorem c_chN {g : Nat} {b : Bool} (hg : okG g) (hb : b = true ↔ ∀ x, x < 256 → thC g x = x) (h1 : b = true → Q 1 S) (h0 : b = false → Q 0 S) : f_X4_changesNothing G (nI g) Q S := by
  have st : ∀ (d x : Nat), d + x = 256 → (∀ y, y < x → thC g y = y) → f_X4_changesNothing_2_n G (nI g) Q (d + 1) (nI x) S := by
    intro d
    induction d with
    | zero =>
      intro x hx hy
      rw [f_X4_changesNothing_2_n]
      exact ite_y (by simp (disch := omega) only [lit, nI_add, pk_mul, leI, ltI, eqI]; omega) (h1 (hb.mpr (fun y hy' => hy y (by omega))))
    | succ d ih =>
      intro x hx hy
      rw [f_X4_changesNothing_2_n, nI_1]
      have tl := thC_lt (x := x) hg (by omega)
      refine ite_n (by simp (disch := omega) only [lit, nI_add, pk_mul, leI, ltI, eqI]; omega) (c_through hg (by omega) (ite_c (fun e => ?_) (fun e => ?_)))
      · rw [eqI (by omega) (by omega)] at e
        refine ih (x + 1) (by omega) (fun y hy' => ?_)
        by_cases c : y = x
        · rw [c]; exact e
        · exact hy y (by omega)
      · rw [eqI (by omega) (by omega)] at e
        refine h0 ?_
        cases b with
        | false => rfl
        | true => exact absurd (hb.mp rfl x (by omega)) e
  exact ⟨257, st 256 0 (by omega) (fun y hy => absurd hy (by omega))⟩
theorem C_find7 {n : Nat} {Q : St → Prop} (hC : Cls G S a L I un u T tn fl m) (h1 : 1 ≤ n) (h4 : n ≤ 4) (z : ∀ S', Cls G S' a L I un u T tn fl m → OffR S S' → S'.1 73 n = nI (idL n).length → (∀ i, i < (idL n).length → S'.1 (68 + n) i = nI ((idL n).getD i 0)) → Q S') : f_X4_findIdle G 54 (nI n) Q S := by
  have hS := hC.1
  have q7 := p7 h4
  have r67 : S.2.2 67 n = some (68 + n) := by
    rcases lt5n h1 h4 with rfl | rfl | rfl | rfl
    · exact hS.r67_1
    · exact hS.r67_2
    · exact hS.r67_3
    · exact hS.r67_4
  have l68 : G.2.1 (68 + n) = 32 := by
    rcases lt5n h1 h4 with rfl | rfl | rfl | rfl
    · exact hS.l69
    · exact hS.l70
    · exact hS.l71
    · exact hS.l72
  have s2 : ∀ (d c : Nat) (S1 : St), d + c = 7 ^ n → Fr (fun i => i = 68 + n) S S1 → (∀ i, i < (idP n c).length → S1.1 (68 + n) i = nI ((idP n c).getD i 0)) → f_X4_findIdle_37_n G 54 (nI n) (nI (7 ^ n)) (nI (onN n)) Q (d + 1) (nI (idP n c).length) (nI c) S1 := by
    intro d
    induction d with
    | zero =>
      intro c S1 hc f1 e1
      have hc : c = 7 ^ n := by omega
      subst hc
      rw [f_X4_findIdle_37_n]
      refine ite_y (by simp (disch := omega) only [lit, nI_add, pk_mul, leI, ltI, eqI]; omega) (ex_y (by rw [f1.1]; exact hS.r54_10) ⟨by rw [hS.l73, in_iff (by omega)]; omega, nm_e ?_⟩)
      rw [clI (by omega)]
      have e73 : (uI S1 73 n (nI (idP n (7 ^ n)).length)).1 73 n = nI (idP n (7 ^ n)).length := by rw [uI_s, if_pos rfl]
      have e68 : ∀ i, i < (idP n (7 ^ n)).length → (uI S1 73 n (nI (idP n (7 ^ n)).length)).1 (68 + n) i = nI ((idP n (7 ^ n)).getD i 0) := fun i hi => by rw [uI_n _ _ _ _ (by omega)]; exact e1 i hi
      refine z _ (hC.idl (fun i hi h => by rw [uI_n _ _ _ _ (by omega)]; exact (f1.2 i (by omega)).1) f1.1 ?_) ((Fr.offR f1 (by intro i hi; omega)).uI (by omega)) e73 e68
      intro n' g1 g4
      by_cases en : n' = n
      · subst en
        exact .inr ⟨e73, e68⟩
      · rw [uI_s, if_neg en, (f1.2 73 (by omega)).1]
        rcases hC.2.2.2.2.2.2.2.2 n' g1 g4 with h | ⟨h, h'⟩
        · exact .inl h
        · exact .inr ⟨h, fun i hi => by rw [uI_n _ _ _ _ (by omega), (f1.2 (68 + n') (by omega)).1]; exact h' i hi⟩
    | succ d ih =>
      intro c S1 hc f1 e1
      have dl : idD n c < 10000 := Nat.lt_of_lt_of_le (idD_lt n c) (p10 h4)
      have ll := idP_le h1 h4 (show c ≤ 7 ^ n by omega)
      obtain ⟨_, hg⟩ := id_th (n := n) (c := c) (x := 0) h1 h4
      rw [f_X4_findIdle_37_n]
      refine ite_n (by simp (disch := omega) only [lit, nI_add, pk_mul, leI, ltI, eqI]; omega) (c_rowOf h4 (by omega) ?_)
      rw [nI_add]
      refine c_chN (b := idB n (idD n c)) hg ?_ (fun hb => ite_n (by decide) (ite_n (by simp (disch := omega) only [lit, nI_add, pk_mul, leI, ltI, eqI]; omega) (ex_y (by rw [f1.1]; exact hS.r54_9) ⟨by rw [hS.l67, in_iff (by omega)]; omega, 68 + n, by rw [f1.1, clI (by omega)]; exact r67, by rw [l68, in_iff (by omega)]; omega, nm_e ?_⟩))) (fun hb => ite_y rfl ?_)
      · rw [idB_iff h1 h4]
        constructor
        · intro h x hx; rw [(id_th h1 h4).1]; exact h x hx
        · intro h x hx; rw [← (id_th h1 h4).1]; exact h x hx
      · rw [clI (by omega), nI_1, nI_1]
        have ep : idP n (c + 1) = idP n c ++ [idD n c] := by rw [idP_s, if_pos hb]
        have w := ih (c + 1) (uI S1 (68 + n) (idP n c).length (nI (idD n c))) (by omega) (f1.uI rfl) (fun i hi => by
          rw [ep] at hi ⊢
          rw [List.length_append] at hi
          have hi : i < (idP n c).length + 1 := hi
          rw [uI_s]
          by_cases e : i = (idP n c).length
          · rw [if_pos e, List.getD_eq_getElem?_getD, List.getElem?_append_right (by omega), e, Nat.sub_self]; rfl
          · rw [if_neg e, List.getD_eq_getElem?_getD, List.getElem?_append_left (by omega), ← List.getD_eq_getElem?_getD]
            exact e1 i (by omega))
        rw [ep, List.length_append] at w
        exact w
      · rw [nI_1]
        have ep : idP n (c + 1) = idP n c := by rw [idP_s, if_neg (by rw [hb]; decide), List.append_nil]
        have w := ih (c + 1) S1 (by omega) f1 (fun i hi => by rw [ep] at hi ⊢; exact e1 i hi)
        rw [ep] at w
        exact w
  have s1 : ∀ (d i : Nat), d + i = n → f_X4_findIdle_7_n G 54 (nI n) Q (d + 1) (nI (7 ^ i)) (nI (onN i)) (nI i) S := by
    intro d
    induction d with
    | zero =>
      intro i hi
      have hi : i = n := by omega
      subst hi
      rw [f_X4_findIdle_7_n]
      exact ite_y (by simp (disch := omega) only [lit, nI_add, pk_mul, leI, ltI, eqI]; omega) ⟨7 ^ i + 1, s2 (7 ^ i) 0 S (by omega) (Fr.refl S) (fun j hj => absurd hj (Nat.not_lt_zero _))⟩
    | succ d ih =>
      intro i hi
      rw [f_X4_findIdle_7_n, nI_1]
      refine ite_n (by simp (disch := omega) only [lit, nI_add, pk_mul, leI, ltI, eqI]; omega) (nm_p (e' := nI (7 ^ (i + 1))) ?_ (nm_p (e' := nI (onN (i + 1))) ?_ (ih (i + 1) (by omega))))
      · rw [show (7 : Int32) = nI 7 from rfl, pk_mul, Nat.pow_succ]
      · rw [show (10 : Int32) = nI 10 from rfl, pk_mul, nI_1]; rfl
  exact ⟨n + 1, s1 n 0 (by omega)⟩
def idA (n : Nat) (v : Int32) : Int32 := if v = -1 then nI (idL n).length else idT n v (7 ^ n)
theorem C_idle {n : Nat} {v : Int32} (hC : Cls G S a L I un u T tn fl m) (h1 : 1 ≤ n) (h4 : n ≤ 4) (hv : ¬ v < -1) (z : ∀ S', Cls G S' a L I un u T tn fl m → OffR S S' → Q (idA n v) S') : f_X4_idleAt G 54 (nI n) v Q S := by
  have ll := idL_le h1 h4
  have r67 : ∀ {S1 : St}, Cls G S1 a L I un u T tn fl m → S1.2.2 67 n = some (68 + n) := by
    intro S1 hC
    have hS := hC.1
    rcases lt5n h1 h4 with rfl | rfl | rfl | rfl
    · exact hS.r67_1
    · exact hS.r67_2
    · exact hS.r67_3
    · exact hS.r67_4
  have l68 : G.2.1 (68 + n) = 32 := by
    have hS := hC.1
    rcases lt5n h1 h4 with rfl | rfl | rfl | rfl
    · exact hS.l69
    · exact hS.l70
    · exact hS.l71
    · exact hS.l72
  have go : ∀ S1, Cls G S1 a L I un u T tn fl m → OffR S S1 → S1.1 73 n = nI (idL n).length → (∀ i, i < (idL n).length → S1.1 (68 + n) i = nI ((idL n).getD i 0)) → f_X4_idleAt_27 G 54 (nI n) v Q S1 := by
    intro S1 hC1 o1 e73 e68
    have zz := z S1 hC1 o1
    unfold idA at zz
    have i73 : vp_in (nI n) (G.2.1 73) := by rw [hC1.1.l73, in_iff (by omega)]; omega
    refine ite_c (fun e => ?_) (fun e => ?_)
    · rw [if_pos e] at zz
      exact ex_y hC1.1.r54_10 ⟨i73, by rw [clI (by omega), e73]; exact zz⟩
    · rw [if_neg e] at zz
      have hv0 : 0 ≤ v.toInt := by
        rw [i32_lt] at hv
        have em : (-1 : Int32).toInt = -1 := rfl
        have : v.toInt ≠ -1 := fun e' => e (Int32.toInt_inj.mp e')
        omega
      have hvb := Int32.toInt_lt v
      obtain ⟨x, hx, rfl⟩ : ∃ x, x < 2147483648 ∧ v = nI x := ⟨v.toInt.toNat, by omega, i32n (by omega) (by omega)⟩
      refine ite_n (nI_pos hx) (ex_y hC1.1.r54_10 ⟨i73, ?_⟩)
      rw [clI (by omega), e73]
      by_cases c : (idL n).length ≤ x
      · refine ite_y (by rw [leI (by omega) hx]; exact c) ?_
        rw [idT_n (fun c' hc' hb he => ?_) (7 ^ n) (Nat.le_refl _)] at zz
        · exact zz
        · have l2 := idP_le h1 h4 (show c' ≤ 7 ^ n by omega)
          rw [eqI (by omega) hx] at he
          have l3 := idP_mono n (c := c' + 1) (7 ^ n - (c' + 1))
          rw [show c' + 1 + (7 ^ n - (c' + 1)) = 7 ^ n from by omega, idP_s, if_pos hb, List.length_append] at l3
          have l3 : (idP n c').length + 1 ≤ (idL n).length := l3
          omega
      · refine ite_n (by rw [leI (by omega) hx]; exact c) (ite_n (by rw [show (32 : Int32) = nI 32 from rfl, leI (by omega) hx]; omega) (ex_y hC1.1.r54_9 ⟨by rw [hC1.1.l67, in_iff (by omega)]; omega, 68 + n, r67 hC1, by rw [l68, in_iff (by omega)]; omega, ?_⟩))
        rw [clI (by omega), e68 x (by omega)]
        rw [idT_y h1 h4 (by omega) (7 ^ n) (Nat.le_refl _) (by show x < (idL n).length; omega)] at zz
        exact zz
  refine ite_n (by simp (disch := omega) only [lit, nI_add, pk_mul, leI, ltI, eqI]; omega) (ite_y (by simp (disch := omega) only [lit, nI_add, pk_mul, leI, ltI, eqI]; omega) (ex_y hC.1.r54_10 ⟨by rw [hC.1.l73, in_iff (by omega)]; omega, ?_⟩))
  rw [clI (by omega)]
  rcases hC.2.2.2.2.2.2.2.2 n h1 h4 with e | ⟨e, e'⟩
  · exact ite_y e (C_find7 hC h1 h4 (fun S1 hC1 o1 e1 e2 => go S1 hC1 o1 e1 e2))
  · refine ite_n (by rw [e]; exact nI_m1 (by omega)) (go S hC (OffR.refl S) e e')
theorem m_isIdle {n c : Nat} (hR : Ref G S a L I un u T tn fl m) (h1 : 1 ≤ n) (h4 : n ≤ 4) (y : idB n (idD n c) = true → Q 1 S) (no : idB n (idD n c) = false → Q 0 S) : f_X11_isIdle G 87 (nI n) (nI (idD n c)) Q S := by
  have dl : idD n c < 10000 := Nat.lt_of_lt_of_le (idD_lt n c) (p10 h4)
  have s3 : ∀ (k : Int32 → Int32 → St → Prop) (r : Nat) (x v p : Nat), r ≤ n → v < 256 → x < 256 → p = (if r = 0 then 0 else 10 ^ (r - 1)) → (idF (idD n c) r v = x → k 1 (nI (x + 1)) S) → (¬ idF (idD n c) r v = x → k 0 (nI (x + 1)) S) → f_X11_isIdle_48_n G k 87 (nI (idD n c)) (nI (10 ^ (n - 1))) (nI x) Q (r + 1) (nI v) (nI p) S := by
    intro k r
    induction r with
    | zero =>
      intro x v p hr hv hx hp k1 k0
      rw [f_X11_isIdle_48_n]
      rw [if_pos rfl] at hp
      subst hp
      rw [nI_1]
      refine ite_y (by decide) (ite_c (fun e => ?_) (fun e => ?_))
      · rw [eqI (by omega) (by omega)] at e; exact k1 e
      · rw [eqI (by omega) (by omega)] at e; exact k0 e
    | succ r ih =>
      intro x v p hr hv hx hp k1 k0
      rw [if_neg (Nat.succ_ne_zero r), Nat.add_sub_cancel] at hp
      have pp : 0 < p := by rw [hp]; exact Nat.pow_pos (by omega)
      have p4 : p ≤ 10000 := by rw [hp]; exact p10 (by omega)
      obtain ⟨g1, g2⟩ := idD_dig n c r (by omega)
      have bl := bd_lt (l := idD n c / 10 ^ r % 10) (x := v) (by omega) hv
      have hq : idD n c / p < 10000 := Nat.lt_of_le_of_lt (Nat.div_le_self _ _) dl
      rw [f_X11_isIdle_48_n]
      refine ite_n (by simp (disch := omega) only [lit, nI_add, pk_mul, leI, ltI, eqI]; omega) (ex_y hR.1.1.made ⟨by rw [show (0 : Int32) = nI 0 from rfl, eqI (by omega) (by omega)]; omega, ?_⟩)
      rw [dvI (by omega) pp (by omega), show (10 : Int32) = nI 10 from rfl, rmI (by omega) (by omega) (by omega), show (256 : Int32) = nI 256 from rfl, pk_mul, nI_add, hp]
      rw [clI (by omega), hR.1.2.2.1 _ (by omega) v hv, hR.1.1.made_l]
      refine ⟨by rw [in_iff (by omega)]; omega, nm_e (nm_p (dvI (d := 10) (by omega) (by omega) (by omega)) ?_)⟩
      refine ih x _ _ (by omega) bl hx ?_ k1 k0
      cases r with
      | zero => rfl
      | succ r => rw [if_neg (Nat.succ_ne_zero r), Nat.add_sub_cancel, Nat.pow_succ, Nat.mul_div_cancel _ (by omega)]
  have s2 : ∀ (d x : Nat), d + x = 256 → (∀ y, y < x → idF (idD n c) n y = y) → f_X11_isIdle_28_n G 87 (nI (idD n c)) (nI (10 ^ (n - 1))) Q (d + 2) 1 (nI x) S := by
    intro d
    induction d with
    | zero =>
      intro x hx hy
      rw [f_X11_isIdle_28_n]
      exact ite_y (by simp (disch := omega) only [lit, nI_add, pk_mul, leI, ltI, eqI]; omega) ⟨.inr rfl, y ((idB_iff h1 h4).mpr (fun t ht => hy t (by omega)))⟩
    | succ d ih =>
      intro x hx hy
      rw [f_X11_isIdle_28_n]
      refine ite_n (by simp (disch := omega) only [lit, nI_add, pk_mul, leI, ltI, eqI]; omega) (ite_n (by decide) ⟨n + 1, s3 _ n x x _ (Nat.le_refl n) (by omega) (by omega) (by rw [if_neg (by omega)]) (fun e => ?_) (fun e => ?_)⟩)
      · refine ih (x + 1) (by omega) (fun t ht => ?_)
        by_cases e' : t = x
        · rw [e']; exact e
        · exact hy t (by omega)
      · rw [f_X11_isIdle_28_n]
        have q0 : Q 0 S := no (by
          cases hb : idB n (idD n c) with
          | false => rfl
          | true => exact absurd ((idB_iff h1 h4).mp hb x (by omega)) e)
        exact ite_c (fun _ => ⟨.inl rfl, q0⟩) (fun _ => ite_y rfl ⟨.inl rfl, q0⟩)
  have s1 : ∀ (d i : Nat), d + i = n → 1 ≤ i → f_X11_isIdle_5_n G 87 (nI n) (nI (idD n c)) Q (d + 1) (nI (10 ^ (i - 1))) (nI i) S := by
    intro d
    induction d with
    | zero =>
      intro i hi h
      have hi : i = n := by omega
      subst hi
      rw [f_X11_isIdle_5_n]
      exact ite_y (by simp (disch := omega) only [lit, nI_add, pk_mul, leI, ltI, eqI]; omega) ⟨258, s2 256 0 (by omega) (fun t ht => absurd ht (by omega))⟩
    | succ d ih =>
      intro i hi h
      rw [f_X11_isIdle_5_n, nI_1]
      refine ite_n (by simp (disch := omega) only [lit, nI_add, pk_mul, leI, ltI, eqI]; omega) (nm_p (e' := nI (10 ^ (i + 1 - 1))) ?_ (ih (i + 1) (by omega) (by omega)))
      rw [show (10 : Int32) = nI 10 from rfl, pk_mul, ← Nat.pow_succ, show (i - 1).succ = i + 1 - 1 from by omega]
  exact ⟨n - 1 + 1, s1 (n - 1) 1 (by omega) (by omega)⟩
theorem M_idle {n : Nat} {v : Int32} (hR : Ref G S a L I un u T tn fl m) (h1 : 1 ≤ n) (h4 : n ≤ 4) (z : Q (idA n v) S) : f_X11_idle_24 G 87 (nI n) v Q 1 0 S := by
  have q7 := p7 h4
  have s3 : ∀ (k : Int32 → Int32 → Int32 → St → Prop) (v3 v4 v5 : Int32) (c d i x r p : Nat), d + i = n → p = 10 ^ i → r < 100000 → x + p * idD d r = idD n c → (idB n (idD n c) = true → if v4 = v then k (v4 + 1) (nI (idD n c)) (nI (c + 1)) S else k (v4 + 1) v5 (nI (c + 1)) S) → (idB n (idD n c) = false → k v4 v5 (nI (c + 1)) S) → f_X11_idle_69_n G k 87 (nI n) v v3 v4 v5 (nI c) Q (d + 1) (nI x) (nI p) (nI r) (nI i) S := by
    intro k v3 v4 v5 c d
    induction d with
    | zero =>
      intro i x r p hi hp hr e k1 k0
      rw [f_X11_idle_69_n]
      have e : x = idD n c := by rw [idD] at e; omega
      rw [e, nI_1]
      exact ite_y (by simp (disch := omega) only [lit, nI_add, pk_mul, leI, ltI, eqI]; omega) (m_isIdle hR h1 h4 (fun hb => ite_n (by decide) (k1 hb)) (fun hb => ite_y rfl (k0 hb)))
    | succ d ih =>
      intro i x r p hi hp hr e k1 k0
      have hp4 : p ≤ 10000 := by rw [hp]; exact p10 (by omega)
      rw [f_X11_idle_69_n, nI_1 i]
      refine ite_n (by simp (disch := omega) only [lit, nI_add, pk_mul, leI, ltI, eqI]; omega) (nm_p (e' := nI (x + p * (r % 7 + 1))) ?_ (nm_p (e' := nI (p * 10)) ?_ (nm_p (dvI (d := 7) (by omega) (by omega) (by omega)) ?_)))
      · rw [show (7 : Int32) = nI 7 from rfl, rmI (by omega) (by omega) (by omega), nI_1, pk_mul, nI_add]
      · rw [show (10 : Int32) = nI 10 from rfl, pk_mul]
      · refine ih (i + 1) (x + p * (r % 7 + 1)) (r / 7) (p * 10) (by omega) (by rw [hp, Nat.pow_succ]) (by omega) ?_ k1 k0
        rw [idD, Nat.mul_add] at e
        rw [← e, Nat.mul_assoc p 10]
        omega
  have s2 : ∀ (d c : Nat), d + c = 7 ^ n → f_X11_idle_50_n G 87 (nI n) v (nI (7 ^ n)) Q (d + 1) (nI (idP n c).length) (idT n v c) (nI c) S := by
    intro d
    induction d with
    | zero =>
      intro c hc
      have hc : c = 7 ^ n := by omega
      subst hc
      rw [f_X11_idle_50_n]
      refine ite_y (by simp (disch := omega) only [lit, nI_add, pk_mul, leI, ltI, eqI]; omega) ?_
      unfold idA at z
      refine ite_c (fun e => ?_) (fun e => ?_)
      · rw [if_pos e] at z; exact z
      · rw [if_neg e] at z; exact z
    | succ d ih =>
      intro c hc
      rw [f_X11_idle_50_n]
      refine ite_n (by simp (disch := omega) only [lit, nI_add, pk_mul, leI, ltI, eqI]; omega) ⟨n + 1, s3 _ _ _ _ c n 0 0 c 1 (by omega) rfl (by omega) (by omega) (fun hb => ?_) (fun hb => ?_)⟩
      · have w := ih (c + 1) (by omega)
        rw [idP_s, if_pos hb, List.length_append, idT] at w
        rw [nI_1]
        refine ite_c (fun e => ?_) (fun e => ?_)
        · rw [if_pos ⟨hb, e⟩] at w; exact w
        · rw [if_neg (fun c' => e c'.2)] at w; exact w
      · have w := ih (c + 1) (by omega)
        rw [idP_s, if_neg (by rw [hb]; decide), List.append_nil, idT, if_neg (by rw [hb]; exact fun c' => absurd c'.1 (by decide))] at w
        exact w
  have s1 : ∀ (d i : Nat), d + i = n → f_X11_idle_24_n G 87 (nI n) v Q (d + 1) (nI (7 ^ i)) (nI i) S := by
    intro d
    induction d with
    | zero =>
      intro i hi
      have hi : i = n := by omega
      subst hi
      rw [f_X11_idle_24_n]
      exact ite_y (by simp (disch := omega) only [lit, nI_add, pk_mul, leI, ltI, eqI]; omega) ⟨7 ^ i + 1, s2 (7 ^ i) 0 (by omega)⟩
    | succ d ih =>
      intro i hi
      rw [f_X11_idle_24_n, nI_1]
      refine ite_n (by simp (disch := omega) only [lit, nI_add, pk_mul, leI, ltI, eqI]; omega) (nm_p (e' := nI (7 ^ (i + 1))) ?_ (ih (i + 1) (by omega)))
      rw [show (7 : Int32) = nI 7 from rfl, pk_mul, Nat.pow_succ]
  exact ⟨n + 1, s1 n 0 (by omega)⟩
theorem R_30 {v w : Int32} (h : Inv G S) (k : ∀ S', Inv G S' → K G S') : f_X10_idle G 0 v w (fun r S1 => f_X11_idle G 87 v w (fun r2 S2 => r = r2 ∧ K G S2) S1) S := by
  obtain ⟨a, L, I, un, u, T, tn, fl, m, hV, hC, hR⟩ := h
  have fin := k _ (inv hV hC.th hR.th)
  have e1 : (1 : Int32).toInt = 1 := rfl
  have e4 : (4 : Int32).toInt = 4 := rfl
  have em : (-1 : Int32).toInt = -1 := rfl
  unfold f_X10_idle
  by_cases c1 : v < 1
  · refine ite_y c1 (nm_e (m_in (fun hh _ => ?_) (fun _ => ite_y rfl ⟨rfl, fin⟩)))
    rw [i32_lt] at c1
    rw [i32_64] at hh
    have : (1 : Int64).toInt = 1 := rfl
    omega
  refine ite_n c1 ?_
  by_cases c4 : 4 < v
  · refine ite_y c4 (nm_e (m_in (fun _ hh => ?_) (fun _ => ite_y rfl ⟨rfl, fin⟩)))
    rw [i32_lt] at c4
    rw [i32_64] at hh
    have : (4 : Int64).toInt = 4 := rfl
    omega
  refine ite_n c4 ?_
  rw [i32_lt] at c1 c4
  obtain ⟨n, g1, g4, rfl⟩ : ∃ n, 1 ≤ n ∧ n ≤ 4 ∧ v = nI n := ⟨v.toInt.toNat, by omega, by omega, i32n (by omega) (by omega)⟩
  by_cases cm : w < -1
  · refine ite_y cm (nm_e (m_in_y (l := 1) (h := 4) (by omega) rfl rfl (by omega) (by omega) (ite_n (by decide) (M_idle hR.th g1 g4 ⟨?_, fin⟩))))
    unfold idA
    rw [if_neg (fun e => by rw [e] at cm; exact absurd cm (by decide))]
    refine (idT_n (fun c hc hb he => ?_) (7 ^ n) (Nat.le_refl _)).symm
    have l2 := idP_le g1 g4 (show c ≤ 7 ^ n by omega)
    rw [← he, i32_lt, nI_toInt (by omega)] at cm
    omega
  · refine ite_n cm (ex_y hC.1.r0_7 (C_idle hC g1 g4 cm (fun S1 hC1 o1 => nm_e ?_)))
    have hR1 := (hR.offR o1).th
    exact m_in_y (l := 1) (h := 4) (by omega) rfl rfl (by omega) (by omega) (ite_n (by decide) (M_idle hR1 g1 g4 ⟨rfl, k _ (inv hV hC1.th hR1)⟩))
end
