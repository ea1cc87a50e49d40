/-! Clauses and texts. -/
/-- a clause: verb, how often, its first and second sum, its test -/
abbrev Cz : Type := Nat × Nat × Option Fn × Option Fn × Option Fn
def gOpt (b : Bool) (g : Nat → Nat → Ex) (k0 k p : Nat) : Nat ⊕ (Nat × Nat × Option Fn) := if b = true then (match g k p with
  | .inl q => .inl q
  | .inr (k', p', f) => .inr (k', p', some f)) else .inr (k0, p, none)
def gTwo (tk tv : Nat → Nat) (v k p : Nat) : Nat ⊕ (Nat × Nat × Option Fn) := if v = 0 ∨ v = 2 then (if tk k = (if v = 0 then 11 else 12) then gOpt true (gSum tk tv true 8) (k + 1) (k + 1) p else .inl k) else .inr (k, p, none)
def gTms (tk tv : Nat → Nat) (k : Nat) : Nat ⊕ (Nat × Nat) := if tk k = 10 then (if tk (k + 1) = 50 ∧ 1 ≤ tv (k + 1) ∧ tv (k + 1) ≤ 20 then .inr (k + 2, tv (k + 1)) else .inl (k + 1)) else .inr (k, 1)
def gRest (tk tv : Nat → Nat) (od : Bool) (v k p : Nat) : Nat ⊕ (Nat × Nat × Option Fn × Nat) := if od = true then (match gTwo tk tv v k p with
  | .inl q => .inl q
  | .inr (k1, p1, two) => match gTms tk tv k1 with
    | .inl q => .inl q
    | .inr (k2, rep) => .inr (k2, p1, two, rep)) else .inr (k, p, none, 1)
def vbB (od : Bool) : Nat := if od = true then 4 else 0
def vbL (od : Bool) : Nat := if od = true then 4 else 3
def gClause (tk tv : Nat → Nat) (od : Bool) (k p : Nat) : Nat ⊕ (Nat × Nat × Cz) :=
  if vbB od ≤ tk k ∧ tk k ≤ vbB od + vbL od then (match gOpt (decide (tk k - vbB od ≠ vbL od)) (gSum tk tv od 8) (k + 1) (k + 1) p with
    | .inl q => .inl q
    | .inr (k1, p1, one) => match gRest tk tv od (tk k - vbB od) k1 p1 with
      | .inl q => .inl q
      | .inr (k2, p2, two, rep) => match gOpt (decide (tk k2 = 9)) (gTest tk tv od 8) k2 (k2 + 1) p2 with
        | .inl q => .inl q
        | .inr (k3, p3, test) => .inr (k3, p3, (tk k - vbB od, rep, one, two, test))) else .inl k
def updZ (L : Nat → Cz) (n : Nat) (z : Cz) : Nat → Cz := fun i => if i = n then z else L i
def gText (tk tv : Nat → Nat) (od : Bool) : Nat → Nat → Nat → Nat → (Nat → Cz) → Nat ⊕ (Nat × (Nat → Cz))
  | 0, _, k, _, _ => .inl k
  | m + 1, n, k, p, L => match gClause tk tv od k p with
    | .inl q => .inl q
    | .inr (k', p', z) => if tk k' = 159 then (if m = 0 then .inl (k' + 1) else gText tk tv od m (n + 1) (k' + 1) p' (updZ L n z)) else if tk k' = 51 then .inr (n + 1, updZ L n z) else .inl k'
section
variable {tk ts tv : Nat → Nat} {tc : Nat} {od : Bool} {g : Nat → Nat → Ex}
theorem gOpt_ok {b : Bool} {k0 k p : Nat} (hg : gOk tc g) (h0 : k0 ≤ tc) (hk : b = true → k ≤ tc) (h01 : k0 ≤ k) (hp : p ≤ 50) : (∀ q, gOpt b g k0 k p = .inl q → q ≤ tc) ∧ (∀ k' p' f, gOpt b g k0 k p = .inr (k', p', f) → k0 ≤ k' ∧ k' ≤ tc ∧ p' ≤ 50) := by
  unfold gOpt
  cases b with
  | false =>
    rw [if_neg (by simp)]
    refine ⟨fun q h => (by cases h), fun k' p' f h => ?_⟩
    cases h; exact ⟨Nat.le_refl _, h0, hp⟩
  | true =>
    rw [if_pos rfl]
    obtain ⟨a, b⟩ := hg k p (hk rfl) hp
    cases hr : g k p with
    | inl q =>
      refine ⟨fun q' h => ?_, fun k' p' f h => (by cases h)⟩
      cases h; exact a q hr
    | inr r =>
      obtain ⟨k1, p1, f1⟩ := r
      refine ⟨fun q' h => (by cases h), fun k' p' f h => ?_⟩
      cases h
      have := b k1 p1 f1 hr
      exact ⟨by omega, by omega, by omega⟩
theorem gTwo_ok (hA : TkA tk ts tv tc) {v k p : Nat} (hk : k ≤ tc) (hp : p ≤ 50) : (∀ q, gTwo tk tv v k p = .inl q → q ≤ tc) ∧ (∀ k' p' f, gTwo tk tv v k p = .inr (k', p', f) → k ≤ k' ∧ k' ≤ tc ∧ p' ≤ 50) := by
  unfold gTwo
  by_cases hv : v = 0 ∨ v = 2
  · rw [if_pos hv]
    by_cases he : tk k = (if v = 0 then 11 else 12)
    · rw [if_pos he]
      have hk2 : k < tc := tk_lt hA (by rw [he]; split <;> omega)
      obtain ⟨a, b⟩ := gOpt_ok (b := true) (k0 := k + 1) (k := k + 1) (gSum_ok (od := true) hA 8) (by omega) (fun _ => by omega) (Nat.le_refl _) hp
      exact ⟨a, fun k' p' f h => by have := b k' p' f h; omega⟩
    · rw [if_neg he]
      refine ⟨fun q h => ?_, fun k' p' f h => (by cases h)⟩
      cases h; exact hk
  · rw [if_neg hv]
    refine ⟨fun q h => (by cases h), fun k' p' f h => ?_⟩
    cases h; exact ⟨Nat.le_refl _, hk, hp⟩
theorem gTms_ok (hA : TkA tk ts tv tc) {k : Nat} (hk : k ≤ tc) : (∀ q, gTms tk tv k = .inl q → q ≤ tc) ∧ (∀ k' r, gTms tk tv k = .inr (k', r) → k ≤ k' ∧ k' ≤ tc ∧ 1 ≤ r ∧ r ≤ 20) := by
  unfold gTms
  by_cases h : tk k = 10
  · have hk2 : k < tc := tk_lt hA (by omega)
    rw [if_pos h]
    by_cases h2 : tk (k + 1) = 50 ∧ 1 ≤ tv (k + 1) ∧ tv (k + 1) ≤ 20
    · have hk3 : k + 1 < tc := tk_lt hA (by omega)
      rw [if_pos h2]
      refine ⟨fun q h => (by cases h), fun k' r h => ?_⟩
      cases h; omega
    · rw [if_neg h2]
      refine ⟨fun q h => ?_, fun k' r h => (by cases h)⟩
      cases h; omega
  · rw [if_neg h]
    refine ⟨fun q h => (by cases h), fun k' r h => ?_⟩
    cases h; omega
theorem gRest_ok (hA : TkA tk ts tv tc) {v k p : Nat} (hk : k ≤ tc) (hp : p ≤ 50) : (∀ q, gRest tk tv od v k p = .inl q → q ≤ tc) ∧ (∀ k' p' two r, gRest tk tv od v k p = .inr (k', p', two, r) → k ≤ k' ∧ k' ≤ tc ∧ p' ≤ 50 ∧ 1 ≤ r ∧ r ≤ 20) := by
  unfold gRest
  cases od with
  | false =>
    rw [if_neg (by simp)]
    refine ⟨fun q h => (by cases h), fun k' p' t r h => ?_⟩
    cases h; omega
  | true =>
    rw [if_pos rfl]
    obtain ⟨a, b⟩ := gTwo_ok (v := v) hA hk hp
    cases h2 : gTwo tk tv v k p with
    | inl q =>
      refine ⟨fun q' h => ?_, fun k' p' t r h => (by cases h)⟩
      cases h; exact a q h2
    | inr r2 =>
      obtain ⟨k1, p1, t1⟩ := r2
      obtain ⟨b1, b2, b3⟩ := b k1 p1 t1 h2
      obtain ⟨c, d⟩ := gTms_ok (k := k1) hA b2
      simp only []
      cases h3 : gTms tk tv k1 with
      | inl q =>
        refine ⟨fun q' h => ?_, fun k' p' t r h => (by cases h)⟩
        cases h; exact c q h3
      | inr r3 =>
        obtain ⟨k2, rep⟩ := r3
        have := d k2 rep h3
        refine ⟨fun q h => (by cases h), fun k' p' t r h => ?_⟩
        cases h; omega
end
