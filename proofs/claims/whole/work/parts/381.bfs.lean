-- needs: 380
/-! The fewest lenses from one number to another, by both ways. -/
def cnN (F : Nat → Nat) : Nat → Nat
  | 0 => 0
  | n + 1 => cnN F n + (if F n = 0 then 0 else 1)
theorem cnN_le (F : Nat → Nat) : ∀ n, cnN F n ≤ n := by
  intro n
  induction n with
  | zero => exact Nat.le_refl 0
  | succ n ih => rw [cnN]; split <;> omega
theorem cnN_lt {F : Nat → Nat} {x : Nat} (h0 : F x = 0) : ∀ n, x < n → cnN F n < n := by
  intro n
  induction n with
  | zero => intro h; exact absurd h (Nat.not_lt_zero _)
  | succ n ih =>
    intro h
    rw [cnN]
    by_cases e : x = n
    · subst e
      have := cnN_le F x
      rw [if_pos h0]; omega
    · have := ih (by omega)
      split <;> omega
theorem cnN_ge {F : Nat → Nat} {x v : Nat} : ∀ n, n ≤ x → cnN (up F x v) n = cnN F n := by
  intro n
  induction n with
  | zero => intro _; rfl
  | succ n ih => intro h; rw [cnN, cnN, ih (by omega), up_n F (by omega)]
theorem cnN_up {F : Nat → Nat} {x v : Nat} (h0 : F x = 0) (hv : v ≠ 0) : ∀ n, x < n → cnN (up F x v) n = cnN F n + 1 := by
  intro n
  induction n with
  | zero => intro h; exact absurd h (Nat.not_lt_zero _)
  | succ n ih =>
    intro h
    rw [cnN, cnN]
    by_cases e : x = n
    · subst e
      rw [cnN_ge x (Nat.le_refl x), up_s, if_neg hv, if_pos h0]
    · rw [ih (by omega), up_n F (by omega)]; omega
def smN (C : Nat → Nat) : Nat → Nat
  | 0 => 0
  | n + 1 => smN C n + C n
theorem smN_ge {C : Nat → Nat} {x v : Nat} : ∀ n, n ≤ x → smN (up C x v) n = smN C n := by
  intro n
  induction n with
  | zero => intro _; rfl
  | succ n ih => intro h; rw [smN, smN, ih (by omega), up_n C (by omega)]
theorem smN_up {C : Nat → Nat} {x v : Nat} : ∀ n, x < n → smN (up C x v) n + C x = smN C n + v := by
  intro n
  induction n with
  | zero => intro h; exact absurd h (Nat.not_lt_zero _)
  | succ n ih =>
    intro h
    rw [smN, smN]
    by_cases e : x = n
    · subst e
      rw [smN_ge x (Nat.le_refl x), up_s]; omega
    · have := ih (by omega)
      rw [up_n C (by omega)]; omega
/-- a way of k lenses to the scene -/
def Pth (sc : Nat) : Nat → Nat → Prop
  | 0, x => x = sc
  | k + 1, x => ∃ l, 1 ≤ l ∧ l < 8 ∧ Pth sc k (bd l x)
/-- what the reference lays -/
def Snd (sc : Nat) (C : Nat → Nat) : Prop := C sc = 0 ∧ ∀ x, x < 256 → C x ≤ 100000000 ∧ (C x < 100000000 → Pth sc (C x) x)
def Fix (C : Nat → Nat) : Prop := ∀ x, x < 256 → ∀ l, l < 8 → C x ≤ C (bd l x) + 1
theorem Snd.step {sc : Nat} {C : Nat → Nat} {x l : Nat} (h : Snd sc C) (hx : x < 256) (hl : l < 8) (hc : C (bd l x) + 1 < C x) : Snd sc (up C x (C (bd l x) + 1)) := by
  have hb := bd_lt hl hx
  have ne : sc ≠ x := by rintro rfl; rw [h.1] at hc; omega
  refine ⟨by rw [up_n C ne]; exact h.1, fun y hy => ?_⟩
  by_cases e : y = x
  · subst e
    rw [up_s]
    have := (h.2 y hy).1
    refine ⟨by omega, fun _ => ⟨l, ?_, hl, (h.2 _ hb).2 (by omega)⟩⟩
    rcases Nat.eq_zero_or_pos l with rfl | h1
    · rw [bd_0] at hc; omega
    · exact h1
  · rw [up_n C e]; exact h.2 y hy
theorem Pth.le {sc : Nat} {C : Nat → Nat} (hS : Snd sc C) (hF : Fix C) : ∀ k x, x < 256 → Pth sc k x → C x ≤ k := by
  intro k
  induction k with
  | zero => intro x hx h; rw [show x = sc from h, hS.1]; exact Nat.le_refl 0
  | succ k ih =>
    intro x hx h
    obtain ⟨l, h1, h8, h⟩ := h
    have := ih _ (bd_lt h8 hx) h
    have := hF x hx l h8
    omega
/-- one comes nearer by one lens -/
theorem Snd.near {sc : Nat} {C : Nat → Nat} (hS : Snd sc C) (hF : Fix C) {x s : Nat} (hx : x < 256) (hc : C x = s + 1) (hi : s + 1 < 100000000) : ∃ l, 1 ≤ l ∧ l < 8 ∧ C (bd l x) = s := by
  have p := (hS.2 x hx).2 (by omega)
  rw [hc] at p
  obtain ⟨l, h1, h8, p⟩ := p
  have a := Pth.le hS hF s _ (bd_lt h8 hx) p
  have b := hF x hx l h8
  exact ⟨l, h1, h8, by omega⟩
def nxF (C : Nat → Nat) (x : Nat) : Nat → Nat
  | 0 => 8
  | n + 1 => if C (bd (7 - n) x) + 1 = C x then 7 - n else nxF C x n
def nxL (C : Nat → Nat) (x : Nat) : Nat := nxF C x 8
theorem nxF_e {C : Nat → Nat} {x l : Nat} (h8 : l < 8) (hl : C (bd l x) + 1 = C x) (hm : ∀ l', l' < l → ¬ C (bd l' x) + 1 = C x) : ∀ n, n ≤ 8 → 8 - n ≤ l → nxF C x n = l := by
  intro n
  induction n with
  | zero => intro _ h; omega
  | succ n ih =>
    intro hn h
    rw [nxF]
    by_cases e : 7 - n = l
    · rw [e, if_pos hl]
    · rw [if_neg (hm _ (by omega))]; exact ih (by omega) (by omega)
theorem nxL_ex {C : Nat → Nat} {x : Nat} : ∀ n, n ≤ 8 → (∃ l, 8 - n ≤ l ∧ l < 8 ∧ C (bd l x) + 1 = C x) → (∀ l', l' < 8 - n → ¬ C (bd l' x) + 1 = C x) → ∃ l, nxF C x n = l ∧ l < 8 ∧ C (bd l x) + 1 = C x ∧ ∀ l', l' < l → ¬ C (bd l' x) + 1 = C x := by
  intro n
  induction n with
  | zero => rintro _ ⟨l, h1, h2, _⟩ _; omega
  | succ n ih =>
    intro hn hex hno
    rw [nxF]
    by_cases e : C (bd (7 - n) x) + 1 = C x
    · rw [if_pos e]; exact ⟨_, rfl, by omega, e, fun l' hl' => hno l' (by omega)⟩
    · rw [if_neg e]
      obtain ⟨l, h1, h2, h3⟩ := hex
      have : l ≠ 7 - n := fun c => e (by rw [← c]; exact h3)
      exact ih (by omega) ⟨l, by omega, h2, h3⟩ (fun l' hl' => by
        by_cases c : l' = 7 - n
        · rw [c]; exact e
        · exact hno l' (by omega))
def wlk (C : Nat → Nat) (x : Nat) : Nat → Nat
  | 0 => x
  | i + 1 => bd (nxL C (wlk C x i)) (wlk C x i)
/-- before, in the order of tries -/
abbrev bef (j b k l : Nat) : Prop := j < k ∨ (j = k ∧ b < l)
/-- what the class's search holds -/
def BI (fr : Nat) (q O B F : Nat → Nat) (n i l : Nat) : Prop :=
  (1 ≤ n ∧ q 0 = fr ∧ F fr = 1) ∧ (∀ j, j < n → q j < 256 ∧ 1 ≤ F (q j)) ∧ (∀ j k, j < n → k < n → q j = q k → j = k) ∧ (∀ x, x < 256 → F x ≠ 0 → ∃ j, j < n ∧ q j = x) ∧
  (∀ j, 0 < j → j < n → ∃ k, k < n ∧ O (q j) = q k ∧ 1 ≤ B (q j) ∧ B (q j) < 8 ∧ bd (B (q j)) (q k) = q j ∧ F (q j) = F (q k) + 1 ∧ bef k (B (q j)) i l ∧ ∀ k' b, 1 ≤ b → b < 8 → bef k' b k (B (q j)) → ∃ m, m < j ∧ q m = bd b (q k')) ∧
  ((∀ j k, j ≤ k → k < n → F (q j) ≤ F (q k)) ∧ (i < n → ∀ j, j < n → F (q j) ≤ F (q i) + 1)) ∧
  (∀ j b, j < n → 1 ≤ b → b < 8 → bef j b i l → ∃ m, m < n ∧ q m = bd b (q j) ∧ F (q m) ≤ F (q j) + 1) ∧ cnN F 256 = n
theorem BI.start {fr : Nat} {q O B F : Nat → Nat} (hf : fr < 256) (hq : q 0 = fr) (h1 : F fr = 1) (h0 : ∀ x, x < 256 → x ≠ fr → F x = 0) (hc : cnN F 256 = 1) : BI fr q O B F 1 0 1 := by
  refine ⟨⟨Nat.le_refl 1, hq, h1⟩, fun j hj => ?_, fun j k hj hk _ => by omega, fun x hx h => ⟨0, by omega, ?_⟩, fun j h h' => by omega, ⟨fun j k h h' => ?_, fun _ j hj => ?_⟩, fun j b hj h1' h8 hb => ?_, hc⟩
  · obtain rfl : j = 0 := by omega
    rw [hq, h1]; exact ⟨hf, Nat.le_refl 1⟩
  · rw [hq]
    by_cases e : x = fr
    · exact e.symm
    · exact absurd (h0 x hx e) h
  · obtain rfl : j = k := by omega
    exact Nat.le_refl _
  · obtain rfl : j = 0 := by omega
    omega
  · rcases hb with h | h <;> omega
theorem BI.no {fr : Nat} {q O B F : Nat → Nat} {n i l : Nat} (h : BI fr q O B F n i l) (hi : i < n) (hl : 1 ≤ l) (h8 : l < 8) (hy : F (bd l (q i)) ≠ 0) : BI fr q O B F n i (l + 1) := by
  obtain ⟨a1, a2, a3, a4, a5, a6, a7, a8⟩ := h
  refine ⟨a1, a2, a3, a4, fun j h0 hj => ?_, a6, fun j b hj h1' h8' hb => ?_, a8⟩
  · obtain ⟨k, k1, k2, k3, k4, k5, k6, k7, k8⟩ := a5 j h0 hj
    exact ⟨k, k1, k2, k3, k4, k5, k6, by rcases k7 with h | h; exact .inl h; exact .inr ⟨h.1, by omega⟩, k8⟩
  · by_cases c : bef j b i l
    · exact a7 j b hj h1' h8' c
    · obtain ⟨rfl, rfl⟩ : j = i ∧ b = l := by
        rcases hb with h | ⟨h, h'⟩
        · exact absurd (.inl h) c
        · refine ⟨h, ?_⟩
          have : ¬ b < l := fun x => c (.inr ⟨h, x⟩)
          omega
      obtain ⟨m, m1, m2⟩ := a4 _ (bd_lt h8 (a2 j hj).1) hy
      exact ⟨m, m1, m2, a6.2 hj m m1⟩
theorem BI.new {fr : Nat} {q O B F : Nat → Nat} {n i l : Nat} (h : BI fr q O B F n i l) (hi : i < n) (hl : 1 ≤ l) (h8 : l < 8) (hy : F (bd l (q i)) = 0) : n < 256 ∧ BI fr (up q n (bd l (q i))) (up O (bd l (q i)) (q i)) (up B (bd l (q i)) l) (up F (bd l (q i)) (F (q i) + 1)) (n + 1) i (l + 1) := by
  obtain ⟨a1, a2, a3, a4, a5, a6, a7, a8⟩ := h
  have yl := bd_lt h8 (a2 i hi).1
  have hn : n < 256 := by rw [← a8]; exact cnN_lt hy 256 yl
  generalize ey : bd l (q i) = y at *
  have nq : ∀ j, j < n → q j ≠ y := fun j hj e => by
    have := (a2 j hj).2
    rw [e] at this; omega
  have qe : ∀ j, j < n → up q n y j = q j := fun j hj => up_n q (by omega)
  have qn : up q n y n = y := up_s q n y
  have Fe : ∀ j, j < n → up F y (F (q i) + 1) (q j) = F (q j) := fun j hj => up_n F (nq j hj)
  have Fn : up F y (F (q i) + 1) y = F (q i) + 1 := up_s F y _
  refine ⟨hn, ⟨by omega, by rw [qe 0 (by omega)]; exact a1.2.1, ?_⟩, fun j hj => ?_, fun j k hj hk e => ?_, fun x hx hF => ?_, fun j h0 hj => ?_, ⟨fun j k hjk hk => ?_, fun _ j hj => ?_⟩, fun j b hj h1' h8' hb => ?_, ?_⟩
  · rw [← a1.2.1, Fe 0 (by omega), a1.2.1]; exact a1.2.2
  · by_cases e : j = n
    · subst e; rw [qn, Fn]; exact ⟨yl, by omega⟩
    · rw [qe j (by omega), Fe j (by omega)]; exact a2 j (by omega)
  · by_cases e1 : j = n
    · by_cases e2 : k = n
      · omega
      · rw [e1, qn, qe k (by omega)] at e
        exact absurd e.symm (nq k (by omega))
    · by_cases e2 : k = n
      · rw [e2, qn, qe j (by omega)] at e
        exact absurd e (nq j (by omega))
      · rw [qe j (by omega), qe k (by omega)] at e
        exact a3 j k (by omega) (by omega) e
  · by_cases e : x = y
    · exact ⟨n, by omega, by rw [qn, e]⟩
    · rw [up_n F e] at hF
      obtain ⟨j, hj, hq⟩ := a4 x hx hF
      exact ⟨j, by omega, by rw [qe j hj]; exact hq⟩
  · by_cases e : j = n
    · subst e
      refine ⟨i, by omega, ?_, ?_, ?_, ?_, ?_, ?_, fun k' b h1' h8' hb => ?_⟩
      · rw [qn, qe i hi, up_s]
      · rw [qn, up_s]; exact hl
      · rw [qn, up_s]; exact h8
      · rw [qn, up_s, qe i hi]; exact ey
      · rw [qn, qe i hi, Fn, Fe i hi]
      · rw [qn, up_s]; exact .inr ⟨rfl, by omega⟩
      · rw [qn, up_s] at hb
        have hk : k' < j := by rcases hb with h | h <;> omega
        obtain ⟨m, m1, m2, _⟩ := a7 k' b hk h1' h8' hb
        exact ⟨m, m1, by rw [qe m m1, qe k' hk]; exact m2⟩
    · obtain ⟨k, k1, k2, k3, k4, k5, k6, k7, k8⟩ := a5 j h0 (by omega)
      have nj := nq j (by omega)
      refine ⟨k, by omega, ?_, ?_, ?_, ?_, ?_, ?_, fun k' b h1' h8' hb => ?_⟩
      · rw [qe j (by omega), qe k k1, up_n O nj]; exact k2
      · rw [qe j (by omega), up_n B nj]; exact k3
      · rw [qe j (by omega), up_n B nj]; exact k4
      · rw [qe j (by omega), qe k k1, up_n B nj]; exact k5
      · rw [qe j (by omega), qe k k1, Fe j (by omega), Fe k k1]; exact k6
      · rw [qe j (by omega), up_n B nj]
        rcases k7 with h | h
        · exact .inl h
        · exact .inr ⟨h.1, by omega⟩
      · rw [qe j (by omega), up_n B nj] at hb
        obtain ⟨m, m1, m2⟩ := k8 k' b h1' h8' hb
        have hk' : k' < n := by rcases hb with h | h <;> omega
        exact ⟨m, m1, by rw [qe m (by omega), qe k' hk']; exact m2⟩
  · by_cases e : k = n
    · subst e
      rw [qn, Fn]
      by_cases e' : j = k
      · subst e'; rw [qn, Fn]; exact Nat.le_refl _
      · rw [qe j (by omega), Fe j (by omega)]; exact a6.2 hi j (by omega)
    · rw [qe j (by omega), qe k (by omega), Fe j (by omega), Fe k (by omega)]; exact a6.1 j k hjk (by omega)
  · rw [qe i hi, Fe i hi]
    by_cases e : j = n
    · subst e; rw [qn, Fn]; exact Nat.le_refl _
    · rw [qe j (by omega), Fe j (by omega)]; exact a6.2 hi j (by omega)
  · by_cases c : bef j b i l
    · have hj' : j < n := by rcases c with h | h <;> omega
      obtain ⟨m, m1, m2, m3⟩ := a7 j b hj' h1' h8' c
      exact ⟨m, by omega, by rw [qe m m1, qe j hj']; exact m2, by rw [qe m m1, qe j hj', Fe m m1, Fe j hj']; exact m3⟩
    · obtain ⟨rfl, rfl⟩ : j = i ∧ b = l := by
        rcases hb with h | ⟨h, h'⟩
        · exact absurd (.inl h) c
        · refine ⟨h, ?_⟩
          have : ¬ b < l := fun x => c (.inr ⟨h, x⟩)
          omega
      refine ⟨n, by omega, by rw [qn, qe j hi]; exact ey.symm, ?_⟩
      rw [qn, qe j hi, Fn, Fe j hi]; exact Nat.le_refl _
  · rw [cnN_up hy (Nat.succ_ne_zero _) 256 yl, a8]
theorem BI.next {fr : Nat} {q O B F : Nat → Nat} {n i : Nat} (h : BI fr q O B F n i 8) (hi : i < n) : BI fr q O B F n (i + 1) 1 := by
  obtain ⟨a1, a2, a3, a4, a5, a6, a7, a8⟩ := h
  refine ⟨a1, a2, a3, a4, fun j h0 hj => ?_, ⟨a6.1, fun hi' j hj => ?_⟩, fun j b hj h1' h8' hb => ?_, a8⟩
  · obtain ⟨k, k1, k2, k3, k4, k5, k6, k7, k8⟩ := a5 j h0 hj
    exact ⟨k, k1, k2, k3, k4, k5, k6, by rcases k7 with h | h <;> exact .inl (by omega), k8⟩
  · have := a6.2 hi j hj
    have := a6.1 i (i + 1) (by omega) hi'
    omega
  · refine a7 j b hj h1' h8' ?_
    rcases hb with h | h
    · by_cases e : j = i
      · exact .inr ⟨e, h8'⟩
      · exact .inl (by omega)
    · omega
def ancO (O : Nat → Nat) (sc : Nat) : Nat → Nat
  | 0 => sc
  | t + 1 => O (ancO O sc t)
/-- both ways find the same -/
theorem BI.both {fr sc : Nat} {q O B F C : Nat → Nat} {n : Nat} (h : BI fr q O B F n n 1) (hfr : fr < 256) (hsc : sc < 256) (hS : Snd sc C) (hF : Fix C) :
    (F sc = 0 → C fr = 100000000) ∧ (F sc ≠ 0 → F sc ≤ 256 ∧ C fr = F sc - 1 ∧ ∀ i, i < C fr → wlk C fr i < 256 ∧ C (wlk C fr i) = C fr - i ∧ (∀ t, t ≤ C fr → ancO O sc t < 256) ∧ nxL C (wlk C fr i) = B (ancO O sc (C fr - 1 - i)) ∧ B (ancO O sc (C fr - 1 - i)) < 8) := by
  obtain ⟨a1, a2, a3, a4, a5, a6, a7, a8⟩ := h
  have n256 : n ≤ 256 := by rw [← a8]; exact cnN_le F 256
  have par : ∀ j, 0 < j → j < n → ∃ k, k < j ∧ O (q j) = q k ∧ 1 ≤ B (q j) ∧ B (q j) < 8 ∧ bd (B (q j)) (q k) = q j ∧ F (q j) = F (q k) + 1 ∧ ∀ k' b, 1 ≤ b → b < 8 → bef k' b k (B (q j)) → ∃ m, m < j ∧ q m = bd b (q k') := by
    intro j h0 hj
    obtain ⟨k, k1, k2, k3, k4, k5, k6, k7, k8⟩ := a5 j h0 hj
    refine ⟨k, ?_, k2, k3, k4, k5, k6, k8⟩
    by_cases c : k < j
    · exact c
    · have := a6.1 j k (by omega) k1
      omega
  have fb : ∀ j, j < n → F (q j) ≤ j + 1 := by
    intro j
    induction j using Nat.strongRecOn with
    | ind j ih =>
      intro hj
      by_cases h0 : j = 0
      · subst h0; rw [a1.2.1, a1.2.2]; exact Nat.le_refl _
      · obtain ⟨k, k1, _, _, _, _, k6, _⟩ := par j (by omega) hj
        have := ih k k1 (by omega)
        omega
  -- a way from the first to any
  have up1 : ∀ j, j < n → C fr + 1 ≤ C (q j) + F (q j) := by
    intro j
    induction j using Nat.strongRecOn with
    | ind j ih =>
      intro hj
      by_cases h0 : j = 0
      · subst h0; rw [a1.2.1, a1.2.2]; exact Nat.le_refl _
      · obtain ⟨k, k1, k2, k3, k4, k5, k6, _⟩ := par j (by omega) hj
        have := ih k k1 (by omega)
        have f := hF (q k) (a2 k (by omega)).1 _ k4
        rw [k5] at f
        omega
  have dn : ∀ k x, Pth sc k x → ∀ j, j < n → q j = x → ∃ m, m < n ∧ q m = sc ∧ F (q m) ≤ F (q j) + k := by
    intro k
    induction k with
    | zero => intro x hp j hj e; exact ⟨j, hj, by rw [e]; exact hp, Nat.le_refl _⟩
    | succ k ih =>
      intro x hp j hj e
      obtain ⟨l, l1, l8, hp⟩ := hp
      obtain ⟨m, m1, m2, m3⟩ := a7 j l hj l1 l8 (.inl hj)
      obtain ⟨m', m1', m2', m3'⟩ := ih _ hp m m1 (by rw [m2, e])
      exact ⟨m', m1', m2', by omega⟩
  refine ⟨fun h0 => ?_, fun h0 => ?_⟩
  · have b := hS.2 fr hfr
    by_cases c : C fr < 100000000
    · obtain ⟨m, m1, m2, _⟩ := dn _ _ (b.2 c) 0 (by omega) a1.2.1
      have := (a2 m m1).2
      rw [m2, h0] at this; omega
    · omega
  obtain ⟨js, js1, js2⟩ := a4 sc hsc h0
  have fs := fb js js1
  rw [js2] at fs
  have cf : C fr = F sc - 1 := by
    have u := up1 js js1
    rw [js2, hS.1] at u
    have : C fr < 100000000 := by omega
    obtain ⟨m, m1, m2, m3⟩ := dn _ _ ((hS.2 fr hfr).2 this) 0 (by omega) a1.2.1
    rw [m2, a1.2.1, a1.2.2] at m3
    omega
  refine ⟨by omega, cf, ?_⟩
  have f1 : 1 ≤ F sc := by omega
  -- the ancestors
  have anc : ∀ t, t ≤ C fr → ∃ j, j < n ∧ q j = ancO O sc t ∧ F (q j) = F sc - t ∧ C (q j) = t := by
    intro t
    induction t with
    | zero => intro _; exact ⟨js, js1, js2, by rw [js2]; omega, by rw [js2]; exact hS.1⟩
    | succ t ih =>
      intro ht
      obtain ⟨j, j1, j2, j3, j4⟩ := ih (by omega)
      have j0 : 0 < j := by
        rcases Nat.eq_zero_or_pos j with rfl | h
        · rw [a1.2.1, a1.2.2] at j3; omega
        · exact h
      obtain ⟨k, k1, k2, k3, k4, k5, k6, _⟩ := par j j0 j1
      have f := hF (q k) (a2 k (by omega)).1 _ k4
      rw [k5] at f
      have u := up1 k (by omega)
      exact ⟨k, by omega, by rw [ancO, ← j2, k2], by omega, by omega⟩
  -- none is nearer by an earlier way
  have none : ∀ s, s < C fr → ∀ m j, m < n → j < n → q j = ancO O sc s → C (q m) = s → m < j → False := by
    intro s
    induction s with
    | zero =>
      intro _ m j hm hj ej cm lt
      have p := (hS.2 (q m) (a2 m hm).1).2 (by omega)
      rw [cm] at p
      have : q m = q j := by rw [ej]; exact p
      have := a3 m j hm hj this
      omega
    | succ s ih =>
      intro hs m j hm hj ej cm lt
      obtain ⟨b, b1, b8, cb⟩ := hS.near hF (a2 m hm).1 cm (by omega)
      obtain ⟨j', j1', j2', j3', j4'⟩ := anc s (by omega)
      have j0 : 0 < j' := by
        rcases Nat.eq_zero_or_pos j' with rfl | h
        · rw [a1.2.1, a1.2.2] at j3'; omega
        · exact h
      obtain ⟨k, k1, k2, k3, k4, k5, k6, k7⟩ := par j' j0 j1'
      have : q k = q j := by rw [ej, ancO, ← j2', k2]
      have ek := a3 k j (by omega) hj this
      obtain ⟨m', m1', m2'⟩ := k7 m b b1 b8 (.inl (by omega))
      exact ih (by omega) m' j' (by omega) j1' j2' (by rw [m2']; exact cb) m1'
  have anc256 : ∀ t, t ≤ C fr → ancO O sc t < 256 := fun t ht => by
    obtain ⟨j, j1, j2, _⟩ := anc t ht
    rw [← j2]; exact (a2 j j1).1
  have lens : ∀ t, t < C fr → nxL C (ancO O sc (t + 1)) = B (ancO O sc t) ∧ B (ancO O sc t) < 8 ∧ bd (B (ancO O sc t)) (ancO O sc (t + 1)) = ancO O sc t := by
    intro t ht
    obtain ⟨j, j1, j2, j3, j4⟩ := anc t (by omega)
    have j0 : 0 < j := by
      rcases Nat.eq_zero_or_pos j with rfl | h
      · rw [a1.2.1, a1.2.2] at j3; omega
      · exact h
    obtain ⟨k, k1, k2, k3, k4, k5, k6, k7⟩ := par j j0 j1
    have ew : ancO O sc (t + 1) = q k := by rw [ancO, ← j2, k2]
    obtain ⟨k', k1', k2', k3', k4'⟩ := anc (t + 1) (by omega)
    have ck : C (q k) = t + 1 := by rw [← ew, ← k2']; exact k4'
    rw [ew, ← j2]
    refine ⟨nxF_e k4 (by rw [k5, j4, ck]) (fun l hl e => ?_) 8 (by omega) (by omega), k4, k5⟩
    rcases Nat.eq_zero_or_pos l with rfl | l1
    · rw [bd_0] at e; omega
    · obtain ⟨m, m1, m2⟩ := k7 k l l1 (by omega) (.inr ⟨rfl, hl⟩)
      exact none t ht m j (by omega) j1 j2 (by rw [m2]; omega) m1
  have wl : ∀ i, i ≤ C fr → wlk C fr i = ancO O sc (C fr - i) := by
    intro i
    induction i with
    | zero =>
      intro _
      obtain ⟨j, j1, j2, j3, j4⟩ := anc (C fr) (Nat.le_refl _)
      show fr = ancO O sc (C fr)
      rw [← j2]
      rcases Nat.eq_zero_or_pos j with rfl | h
      · exact a1.2.1.symm
      · obtain ⟨k, k1, _, _, _, _, k6, _⟩ := par j h j1
        have := (a2 k (by omega)).2
        omega
    | succ i ih =>
      intro hi
      have w := ih (by omega)
      obtain ⟨l1, _, l3⟩ := lens (C fr - (i + 1)) (by omega)
      rw [show C fr - (i + 1) + 1 = C fr - i from by omega] at l1 l3
      rw [wlk, w, l1, l3]
  intro i hi
  obtain ⟨l1, l2, _⟩ := lens (C fr - 1 - i) (by omega)
  rw [show C fr - 1 - i + 1 = C fr - i from by omega] at l1
  obtain ⟨j, j1, j2, j3, j4⟩ := anc (C fr - i) (by omega)
  rw [wl i (by omega)]
  exact ⟨anc256 _ (by omega), by rw [← j2]; exact j4, anc256, l1, l2⟩
