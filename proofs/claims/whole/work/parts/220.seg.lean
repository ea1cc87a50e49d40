-- needs: 200
/-! Sums and tests: what they come to, and the code that reckons them. -/
def rg (v : Int64) : Option Int64 := if (-1000000000 : Int) ≤ v.toInt ∧ v.toInt ≤ 1000000000 then some v else none
/-- 2 + 3 - 4 * 5 / 6 % 7 < 8 > 9 = -/
def jn (o : Nat) (x y : Int64) : Option Int64 :=
  if o = 2 then rg (x + y) else if o = 3 then rg (x - y) else if o = 4 then rg (x * y)
  else if o = 5 then (if y = 0 then none else rg (x / y))
  else if o = 6 then (if y = 0 then none else rg (x - x / y * y))
  else if o = 7 then some (if x.toInt < y.toInt then 1 else 0)
  else if o = 8 then some (if y.toInt < x.toInt then 1 else 0)
  else some (if x = y then 1 else 0)
abbrev Fn : Type := (Nat → Int64) → Option Int64
def binF (o : Nat) (f g : Fn) : Fn := fun e => match f e with
  | none => none
  | some x => match g e with
    | none => none
    | some y => jn o x y
def notF (f : Fn) : Fn := fun e => match f e with
  | none => none
  | some x => some (1 - x)
def orF (o : Nat) (f g : Fn) : Fn := fun e => match f e with
  | none => none
  | some x => if x = (if o = 11 then 1 else 0) then some x else g e
/-- a code: at each place a step and a number: 0 a number, 1 a word, 2..9 joined, 10 not, 11 or, 12 and (the number: whither) -/
abbrev Cd : Type := Nat → Nat × Nat
def SegP (c : Cd) (U : Nat → Prop) (P : Nat → Nat → Nat → Nat → Fn → Prop) : Prop :=
  (∀ k n, c k = (0, n) → n ≤ 1000 → P 0 k (k + 1) 1 (fun _ => some (lN n))) ∧
  (∀ k w, c k = (1, w) → U w → P 0 k (k + 1) 1 (fun e => some (e w))) ∧
  (∀ i j k o x h1 h2 f g, P 0 i j h1 f → P 0 j k h2 g → c k = (o, x) → 2 ≤ o → o ≤ 6 → P 0 i (k + 1) (max h1 (h2 + 1)) (binF o f g)) ∧
  (∀ i j k o x h1 h2 f g, P 0 i j h1 f → P 0 j k h2 g → c k = (o, x) → 7 ≤ o → o ≤ 9 → P 1 i (k + 1) (max h1 (h2 + 1)) (binF o f g)) ∧
  (∀ i j x h f, P 1 i j h f → c j = (10, x) → P 1 i (j + 1) h (notF f)) ∧
  (∀ i j k o h1 h2 f g, P 1 i j h1 f → c j = (o, k) → o = 11 ∨ o = 12 → P 1 (j + 1) k h2 g → P 1 i k (max h1 h2) (orF o f g))
def Seg (c : Cd) (U : Nat → Prop) (t i j h : Nat) (f : Fn) : Prop := ∀ P, SegP c U P → P t i j h f
section
variable {c c' : Cd} {U U' : Nat → Prop}
theorem Seg.num {k n : Nat} (h : c k = (0, n)) (hn : n ≤ 1000) : Seg c U 0 k (k + 1) 1 (fun _ => some (lN n)) := fun _ hP => hP.1 k n h hn
theorem Seg.word {k w : Nat} (h : c k = (1, w)) (hw : U w) : Seg c U 0 k (k + 1) 1 (fun e => some (e w)) := fun _ hP => hP.2.1 k w h hw
theorem Seg.bin {i j k o x h1 h2 : Nat} {f g : Fn} (a : Seg c U 0 i j h1 f) (b : Seg c U 0 j k h2 g) (h : c k = (o, x)) (h2' : 2 ≤ o) (h6 : o ≤ 6) : Seg c U 0 i (k + 1) (max h1 (h2 + 1)) (binF o f g) :=
  fun P hP => hP.2.2.1 i j k o x h1 h2 f g (a P hP) (b P hP) h h2' h6
theorem Seg.cmp {i j k o x h1 h2 : Nat} {f g : Fn} (a : Seg c U 0 i j h1 f) (b : Seg c U 0 j k h2 g) (h : c k = (o, x)) (h2' : 7 ≤ o) (h6 : o ≤ 9) : Seg c U 1 i (k + 1) (max h1 (h2 + 1)) (binF o f g) :=
  fun P hP => hP.2.2.2.1 i j k o x h1 h2 f g (a P hP) (b P hP) h h2' h6
theorem Seg.not {i j x h : Nat} {f : Fn} (a : Seg c U 1 i j h f) (hc : c j = (10, x)) : Seg c U 1 i (j + 1) h (notF f) :=
  fun P hP => hP.2.2.2.2.1 i j x h f (a P hP) hc
theorem Seg.or {i j k o h1 h2 : Nat} {f g : Fn} (a : Seg c U 1 i j h1 f) (hc : c j = (o, k)) (ho : o = 11 ∨ o = 12) (b : Seg c U 1 (j + 1) k h2 g) : Seg c U 1 i k (max h1 h2) (orF o f g) :=
  fun P hP => hP.2.2.2.2.2 i j k o h1 h2 f g (a P hP) hc ho (b P hP)
/-- a segment goes on, and depends on its own places alone -/
theorem Seg.keep {t i j h : Nat} {f : Fn} (a : Seg c U t i j h f) : i < j ∧ ∀ (c' : Cd) (U' : Nat → Prop), (∀ k, i ≤ k → k < j → c' k = c k) → (∀ x, U x → U' x) → Seg c' U' t i j h f := by
  refine a (fun t i j h f => i < j ∧ ∀ (c' : Cd) (U' : Nat → Prop), (∀ k, i ≤ k → k < j → c' k = c k) → (∀ x, U x → U' x) → Seg c' U' t i j h f) ⟨?_, ?_, ?_, ?_, ?_, ?_⟩
  · intro k n h hn
    exact ⟨by omega, fun c' U' hc hU => Seg.num ((hc k (by omega) (by omega)).trans h) hn⟩
  · intro k n h hn
    exact ⟨by omega, fun c' U' hc hU => Seg.word ((hc k (by omega) (by omega)).trans h) (hU _ hn)⟩
  · rintro i j k o x h1 h2 f g ⟨ha, a⟩ ⟨hb, b⟩ h l1 l2
    exact ⟨by omega, fun c' U' hc hU => Seg.bin (a c' U' (fun q h1 h2 => hc q (by omega) (by omega)) hU) (b c' U' (fun q h1 h2 => hc q (by omega) (by omega)) hU) ((hc k (by omega) (by omega)).trans h) l1 l2⟩
  · rintro i j k o x h1 h2 f g ⟨ha, a⟩ ⟨hb, b⟩ h l1 l2
    exact ⟨by omega, fun c' U' hc hU => Seg.cmp (a c' U' (fun q h1 h2 => hc q (by omega) (by omega)) hU) (b c' U' (fun q h1 h2 => hc q (by omega) (by omega)) hU) ((hc k (by omega) (by omega)).trans h) l1 l2⟩
  · rintro i j x h f ⟨ha, a⟩ h'
    exact ⟨by omega, fun c' U' hc hU => Seg.not (a c' U' (fun q h1 h2 => hc q (by omega) (by omega)) hU) ((hc j (by omega) (by omega)).trans h')⟩
  · rintro i j k o h1 h2 f g ⟨ha, a⟩ h ho ⟨hb, b⟩
    exact ⟨by omega, fun c' U' hc hU => Seg.or (a c' U' (fun q h1 h2 => hc q (by omega) (by omega)) hU) ((hc j (by omega) (by omega)).trans h) ho (b c' U' (fun q h1 h2 => hc q (by omega) (by omega)) hU)⟩
theorem rg_b {v w : Int64} (h : rg v = some w) : -1000000000 ≤ w.toInt ∧ w.toInt ≤ 1000000000 := by
  unfold rg at h
  split at h
  · rename_i h'
    have e : v = w := Option.some.inj h
    subst e; exact h'
  · cases h
theorem jn_b {o : Nat} {x y w : Int64} (h : jn o x y = some w) : -1000000000 ≤ w.toInt ∧ w.toInt ≤ 1000000000 := by
  unfold jn at h
  have z : ∀ {p : Prop} [Decidable p] {w : Int64}, some (if p then (1 : Int64) else 0) = some w → -1000000000 ≤ w.toInt ∧ w.toInt ≤ 1000000000 := by
    intro p _ w h
    have e := Option.some.inj h
    subst e
    split <;> decide
  split at h
  · exact rg_b h
  split at h
  · exact rg_b h
  split at h
  · exact rg_b h
  split at h
  · split at h
    · cases h
    · exact rg_b h
  split at h
  · split at h
    · cases h
    · exact rg_b h
  split at h
  · exact z h
  split at h
  · exact z h
  · exact z h
theorem jn_01 {o : Nat} {x y w : Int64} (ho : 7 ≤ o) (h : jn o x y = some w) : w = 0 ∨ w = 1 := by
  have z : ∀ {p : Prop} [Decidable p] {w : Int64}, some (if p then (1 : Int64) else 0) = some w → w = 0 ∨ w = 1 := by
    intro p _ w h
    have e := Option.some.inj h
    subst e
    split
    · exact .inr rfl
    · exact .inl rfl
  unfold jn at h
  rw [if_neg (by omega), if_neg (by omega), if_neg (by omega), if_neg (by omega), if_neg (by omega)] at h
  split at h
  · exact z h
  split at h
  · exact z h
  · exact z h
/-- what a segment comes to is narrow, a test's 0 or 1; and it asks its own words alone -/
theorem Seg.val {t i j h : Nat} {f : Fn} (a : Seg c U t i j h f) : (∀ e v, (∀ x, U x → -1000000000 ≤ (e x).toInt ∧ (e x).toInt ≤ 1000000000) → f e = some v → (-1000000000 ≤ v.toInt ∧ v.toInt ≤ 1000000000)) ∧ (t = 1 → ∀ e v, f e = some v → v = 0 ∨ v = 1) ∧ (∀ e e', (∀ x, U x → e x = e' x) → f e = f e') := by
  refine a (fun t i j h f => (∀ e v, (∀ x, U x → -1000000000 ≤ (e x).toInt ∧ (e x).toInt ≤ 1000000000) → f e = some v → (-1000000000 ≤ v.toInt ∧ v.toInt ≤ 1000000000)) ∧ (t = 1 → ∀ e v, f e = some v → v = 0 ∨ v = 1) ∧ (∀ e e', (∀ x, U x → e x = e' x) → f e = f e')) ⟨?_, ?_, ?_, ?_, ?_, ?_⟩
  · intro k n h hn
    refine ⟨fun e v _ hv => ?_, fun h => absurd h (by decide), fun _ _ _ => rfl⟩
    have := Option.some.inj hv
    subst this
    rw [lN_toInt (by omega)]; omega
  · intro k n h hn
    refine ⟨fun e v he hv => ?_, fun h => absurd h (by decide), fun e e' he => congrArg some (he _ hn)⟩
    have := Option.some.inj hv
    subst this
    exact he _ hn
  · rintro i j k o x h1 h2 f g ⟨a1, a2, a3⟩ ⟨b1, b2, b3⟩ h l1 l2
    refine ⟨fun e v he hv => ?_, fun h => absurd h (by decide), fun e e' he => ?_⟩
    · unfold binF at hv
      split at hv
      · cases hv
      · split at hv
        · cases hv
        · exact jn_b hv
    · unfold binF; rw [a3 e e' he, b3 e e' he]
  · rintro i j k o x h1 h2 f g ⟨a1, a2, a3⟩ ⟨b1, b2, b3⟩ h l1 l2
    refine ⟨fun e v he hv => ?_, fun _ e v hv => ?_, fun e e' he => ?_⟩
    · unfold binF at hv
      split at hv
      · cases hv
      · split at hv
        · cases hv
        · exact jn_b hv
    · unfold binF at hv
      split at hv
      · cases hv
      · split at hv
        · cases hv
        · exact jn_01 l1 hv
    · unfold binF; rw [a3 e e' he, b3 e e' he]
  · rintro i j x h f ⟨a1, a2, a3⟩ h'
    have z : ∀ e v, notF f e = some v → v = 0 ∨ v = 1 := by
      intro e v hv
      unfold notF at hv
      split at hv
      · cases hv
      · rename_i x hx
        have := Option.some.inj hv
        subst this
        rcases a2 rfl e x hx with rfl | rfl
        · exact .inr rfl
        · exact .inl rfl
    refine ⟨fun e v he hv => ?_, fun _ => z, fun e e' he => ?_⟩
    · rcases z e v hv with rfl | rfl <;> decide
    · unfold notF; rw [a3 e e' he]
  · rintro i j k o h1 h2 f g ⟨a1, a2, a3⟩ h ho ⟨b1, b2, b3⟩
    have z : ∀ e v, orF o f g e = some v → v = 0 ∨ v = 1 := by
      intro e v hv
      unfold orF at hv
      split at hv
      · cases hv
      · rename_i x hx
        by_cases hc : x = (if o = 11 then 1 else 0)
        · rw [if_pos hc] at hv
          have := Option.some.inj hv
          subst this
          exact a2 rfl e x hx
        · rw [if_neg hc] at hv
          exact b2 rfl e v hv
    refine ⟨fun e v he hv => ?_, fun _ => z, fun e e' he => ?_⟩
    · rcases z e v hv with rfl | rfl <;> decide
    · unfold orF; rw [a3 e e' he, b3 e e' he]
end
