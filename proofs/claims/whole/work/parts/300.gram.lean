/-! What a text is: tokens to sums and tests. A fault: .inl of its token; else the token behind, the parts so far, what it comes to. -/
abbrev Ex : Type := Nat ⊕ (Nat × Nat × Fn)
def stp (t : Nat) : Nat := if t = 143 then 2 else if t = 145 then 3 else if t = 142 then 4 else if t = 147 then 5 else if t = 137 then 6 else if t = 160 then 7 else if t = 162 then 8 else if t = 161 then 9 else 0
def opM (t : Nat) : Nat := if 4 ≤ stp t ∧ stp t ≤ 6 then stp t else 0
def opA (t : Nat) : Nat := if 2 ≤ stp t ∧ stp t ≤ 3 then stp t else 0
def opN (t : Nat) : Nat := if t = 14 then 12 else 0
def opO (t : Nat) : Nat := if t = 13 then 11 else 0
def lwW (t : Nat) : Nat := if t = 16 then 1 else if t = 17 then 2 else if t = 4 then 3 else if t = 18 then 4 else if t = 19 then 5 else if t = 20 then 6 else if t = 21 then 7 else if t = 22 then 8 else if t = 23 then 9 else 0
def orW (t : Nat) : Nat := if t = 22 then 1 else if t = 24 then 2 else if t = 25 then 3 else if t = 26 then 4 else if t = 18 then 5 else if t = 19 then 11 else if t = 2 then 17 else 0
def wdW1 (od : Bool) (t : Nat) : Nat := if od = true then orW t else lwW t
def gLoop (tk : Nat → Nat) (op : Nat → Nat) (mk : Nat → Fn → Fn → Fn) (sub : Nat → Nat → Ex) : Nat → Nat → Nat → Fn → Ex
  | 0, k, p, f => .inr (k, p, f)
  | n + 1, k, p, f => if op (tk k) = 0 then .inr (k, p, f) else match sub (k + 1) p with
    | .inl q => .inl q
    | .inr (k', p', g) => gLoop tk op mk sub n k' p' (mk (op (tk k)) f g)
def gLv (tk : Nat → Nat) (op : Nat → Nat) (mk : Nat → Fn → Fn → Fn) (sub : Nat → Nat → Ex) (k p : Nat) : Ex := match sub k p with
  | .inl q => .inl q
  | .inr (k', p', f) => gLoop tk op mk sub 400 k' p' f
def gSimple (tk tv : Nat → Nat) (od : Bool) (k p : Nat) : Ex :=
  if 50 ≤ p then .inl k
  else if tk k = 50 then (if tv k ≤ 1000 then .inr (k + 1, p + 1, fun _ => some (lN (tv k))) else .inl k)
  else if wdW1 od (tk k) = 0 then .inl k
  else if od = true ∧ 5 ≤ wdW1 od (tk k) then (if tk (k + 1) = 50 ∧ tv (k + 1) ≤ 5 then .inr (k + 2, p + 1, fun e => some (e (wdW1 od (tk k) - 1 + tv (k + 1)))) else .inl (k + 1))
  else .inr (k + 1, p + 1, fun e => some (e (wdW1 od (tk k) - 1)))
def gBr (tk : Nat → Nat) (close : Nat) (sub : Option (Nat → Nat → Ex)) (k p : Nat) : Ex := match sub with
  | none => .inl k
  | some s => match s (k + 1) p with
    | .inl q => .inl q
    | .inr (k', p', f) => if tk k' = close then .inr (k' + 1, p', f) else .inl k'
def gPart (tk tv : Nat → Nat) (od : Bool) (sub : Option (Nat → Nat → Ex)) (k p : Nat) : Ex :=
  if tk k = 191 then gBr tk 193 sub k p else gSimple tk tv od k p
def gTerm (tk tv : Nat → Nat) (od : Bool) (sub : Option (Nat → Nat → Ex)) : Nat → Nat → Ex := gLv tk opM binF (gPart tk tv od sub)
def gSum1 (tk tv : Nat → Nat) (od : Bool) (sub : Option (Nat → Nat → Ex)) : Nat → Nat → Ex := gLv tk opA binF (gTerm tk tv od sub)
def gSum (tk tv : Nat → Nat) (od : Bool) : Nat → Nat → Nat → Ex
  | 0 => gSum1 tk tv od none
  | n + 1 => gSum1 tk tv od (some (gSum tk tv od n))
def gCmp (tk : Nat → Nat) (sum : Nat → Nat → Ex) (k p : Nat) : Ex := match sum k p with
  | .inl q => .inl q
  | .inr (k1, p1, f) => if 7 ≤ stp (tk k1) then (match sum (k1 + 1) p1 with
    | .inl q => .inl q
    | .inr (k2, p2, g) => .inr (k2, p2, binF (stp (tk k1)) f g)) else .inl k1
def gPln (tk : Nat → Nat) (sum : Nat → Nat → Ex) (sub : Option (Nat → Nat → Ex)) (k p : Nat) : Ex :=
  if tk k = 140 then gBr tk 141 sub k p else gCmp tk sum k p
def gNot (tk : Nat → Nat) (sub : Nat → Nat → Ex) : Nat → Bool → Nat → Nat → Ex
  | 0, b, k, p => match sub k p with
    | .inl q => .inl q
    | .inr (k', p', f) => .inr (k', p', if b = true then notF f else f)
  | n + 1, b, k, p => if tk k = 15 then gNot tk sub n (!b) (k + 1) p else match sub k p with
    | .inl q => .inl q
    | .inr (k', p', f) => .inr (k', p', if b = true then notF f else f)
def gPlain (tk : Nat → Nat) (sum : Nat → Nat → Ex) (sub : Option (Nat → Nat → Ex)) (k p : Nat) : Ex := gNot tk (gPln tk sum sub) 400 false k p
def gBoth (tk : Nat → Nat) (sum : Nat → Nat → Ex) (sub : Option (Nat → Nat → Ex)) : Nat → Nat → Ex := gLv tk opN orF (gPlain tk sum sub)
def gTest1 (tk : Nat → Nat) (sum : Nat → Nat → Ex) (sub : Option (Nat → Nat → Ex)) : Nat → Nat → Ex := gLv tk opO orF (gBoth tk sum sub)
def gTest (tk tv : Nat → Nat) (od : Bool) : Nat → Nat → Nat → Ex
  | 0 => gTest1 tk (gSum tk tv od 0) none
  | n + 1 => gTest1 tk (gSum tk tv od (n + 1)) (some (gTest tk tv od n))
/-- what holds of tokens -/
def TkA (tk ts tv : Nat → Nat) (tc : Nat) : Prop := tc ≤ 400 ∧ (∀ i, tc ≤ i → tk i = 51) ∧ (∀ i, tk i < 400 ∧ tv i ≤ 1001 ∧ ts i ≤ 400)
def gOk (tc : Nat) (sub : Nat → Nat → Ex) : Prop := ∀ k p, k ≤ tc → p ≤ 50 → (∀ q, sub k p = .inl q → q ≤ tc) ∧ (∀ k' p' f, sub k p = .inr (k', p', f) → k < k' ∧ k' ≤ tc ∧ p' ≤ 50)
def gOkO (tc : Nat) (sub : Option (Nat → Nat → Ex)) : Prop := ∀ s, sub = some s → gOk tc s
section
variable {tk ts tv : Nat → Nat} {tc : Nat} {od : Bool} {op : Nat → Nat} {mk : Nat → Fn → Fn → Fn} {sub : Nat → Nat → Ex} {so : Option (Nat → Nat → Ex)}
theorem tk_lt (hA : TkA tk ts tv tc) {k : Nat} (h : tk k ≠ 51) : k < tc := Nat.lt_of_not_le fun h' => h (hA.2.1 k h')
theorem gLoop_ok (hA : TkA tk ts tv tc) (h51 : op 51 = 0) (hs : gOk tc sub) : ∀ n k p f, k ≤ tc → p ≤ 50 → (∀ q, gLoop tk op mk sub n k p f = .inl q → q ≤ tc) ∧ (∀ k' p' g, gLoop tk op mk sub n k p f = .inr (k', p', g) → k ≤ k' ∧ k' ≤ tc ∧ p' ≤ 50) := by
  intro n
  induction n with
  | zero =>
    intro k p f hk hp
    refine ⟨fun q h => (by cases h), fun k' p' g h => ?_⟩
    cases h
    exact ⟨Nat.le_refl _, hk, hp⟩
  | succ n ih =>
    intro k p f hk hp
    unfold gLoop
    by_cases ho : op (tk k) = 0
    · rw [if_pos ho]
      refine ⟨fun q h => (by cases h), fun k' p' g h => ?_⟩
      cases h
      exact ⟨Nat.le_refl _, hk, hp⟩
    · rw [if_neg ho]
      have hk2 : k < tc := tk_lt hA (fun e => ho (by rw [e]; exact h51))
      obtain ⟨s1, s2⟩ := hs (k + 1) p (by omega) hp
      cases hr : sub (k + 1) p with
      | inl q =>
        simp only []
        refine ⟨fun q' h => ?_, fun k' p' g h => by cases h⟩
        cases h
        exact s1 q hr
      | inr r =>
        obtain ⟨k1, p1, g1⟩ := r
        simp only []
        obtain ⟨b1, b2, b3⟩ := s2 k1 p1 g1 hr
        obtain ⟨i1, i2⟩ := ih k1 p1 (mk (op (tk k)) f g1) b2 b3
        refine ⟨i1, fun k' p' g h => ?_⟩
        obtain ⟨c1, c2, c3⟩ := i2 k' p' g h
        exact ⟨by omega, c2, c3⟩
theorem gLv_ok (hA : TkA tk ts tv tc) (h51 : op 51 = 0) (hs : gOk tc sub) : gOk tc (gLv tk op mk sub) := by
  intro k p hk hp
  unfold gLv
  obtain ⟨s1, s2⟩ := hs k p hk hp
  cases hr : sub k p with
  | inl q =>
    simp only []
    refine ⟨fun q' h => ?_, fun k' p' g h => by cases h⟩
    cases h
    exact s1 q hr
  | inr r =>
    obtain ⟨k1, p1, g1⟩ := r
    simp only []
    obtain ⟨b1, b2, b3⟩ := s2 k1 p1 g1 hr
    obtain ⟨i1, i2⟩ := gLoop_ok (mk := mk) hA h51 hs 400 k1 p1 g1 b2 b3
    refine ⟨i1, fun k' p' g h => ?_⟩
    obtain ⟨c1, c2, c3⟩ := i2 k' p' g h
    exact ⟨by omega, c2, c3⟩
theorem wd51 : wdW1 od 51 = 0 := by cases od <;> rfl
theorem gSimple_ok (hA : TkA tk ts tv tc) : gOk tc (gSimple tk tv od) := by
  intro k p hk hp
  unfold gSimple
  by_cases h50 : 50 ≤ p
  · rw [if_pos h50]
    refine ⟨fun q' h => ?_, fun k' p' g h => by cases h⟩
    cases h; exact hk
  rw [if_neg h50]
  by_cases hn : tk k = 50
  · have hk2 : k < tc := tk_lt hA (by omega)
    rw [if_pos hn]
    by_cases hv : tv k ≤ 1000
    · rw [if_pos hv]
      refine ⟨fun q' h => (by cases h), fun k' p' g h => ?_⟩
      cases h; exact ⟨by omega, by omega, by omega⟩
    · rw [if_neg hv]
      refine ⟨fun q' h => ?_, fun k' p' g h => by cases h⟩
      cases h; exact hk
  rw [if_neg hn]
  by_cases hw : wdW1 od (tk k) = 0
  · rw [if_pos hw]
    refine ⟨fun q' h => ?_, fun k' p' g h => by cases h⟩
    cases h; exact hk
  rw [if_neg hw]
  have hk2 : k < tc := tk_lt hA (fun e => hw (by rw [e]; exact wd51))
  by_cases h5 : od = true ∧ 5 ≤ wdW1 od (tk k)
  · rw [if_pos h5]
    by_cases h6 : tk (k + 1) = 50 ∧ tv (k + 1) ≤ 5
    · have hk3 : k + 1 < tc := tk_lt hA (by omega)
      rw [if_pos h6]
      refine ⟨fun q' h => (by cases h), fun k' p' g h => ?_⟩
      cases h; exact ⟨by omega, by omega, by omega⟩
    · rw [if_neg h6]
      refine ⟨fun q' h => ?_, fun k' p' g h => by cases h⟩
      cases h; omega
  · rw [if_neg h5]
    refine ⟨fun q' h => (by cases h), fun k' p' g h => ?_⟩
    cases h; exact ⟨by omega, by omega, by omega⟩
theorem gBr_ok {close : Nat} (hA : TkA tk ts tv tc) (hc : close ≠ 51) (hs : gOkO tc so) {k p : Nat} (hk : k < tc) (hp : p ≤ 50) : (∀ q, gBr tk close so k p = .inl q → q ≤ tc) ∧ (∀ k' p' f, gBr tk close so k p = .inr (k', p', f) → k < k' ∧ k' ≤ tc ∧ p' ≤ 50) := by
  unfold gBr
  cases so with
  | none =>
    refine ⟨fun q' h => ?_, fun k' p' g h => by cases h⟩
    cases h; omega
  | some s =>
    simp only []
    obtain ⟨s1, s2⟩ := hs s rfl (k + 1) p (by omega) hp
    cases hr : s (k + 1) p with
    | inl q =>
      simp only []
      refine ⟨fun q' h => ?_, fun k' p' g h => by cases h⟩
      cases h; exact s1 q hr
    | inr r =>
      obtain ⟨k1, p1, g1⟩ := r
      simp only []
      obtain ⟨b1, b2, b3⟩ := s2 k1 p1 g1 hr
      by_cases hcl : tk k1 = close
      · have hk3 : k1 < tc := tk_lt hA (by omega)
        rw [if_pos hcl]
        refine ⟨fun q' h => (by cases h), fun k' p' g h => ?_⟩
        cases h; exact ⟨by omega, by omega, by omega⟩
      · rw [if_neg hcl]
        refine ⟨fun q' h => ?_, fun k' p' g h => by cases h⟩
        cases h; omega
theorem gPart_ok (hA : TkA tk ts tv tc) (hs : gOkO tc so) : gOk tc (gPart tk tv od so) := by
  intro k p hk hp
  unfold gPart
  by_cases h : tk k = 191
  · rw [if_pos h]
    exact gBr_ok hA (by omega) hs (tk_lt hA (by omega)) hp
  · rw [if_neg h]
    exact gSimple_ok hA k p hk hp
theorem gTerm_ok (hA : TkA tk ts tv tc) (hs : gOkO tc so) : gOk tc (gTerm tk tv od so) := gLv_ok hA rfl (gPart_ok hA hs)
theorem gSum1_ok (hA : TkA tk ts tv tc) (hs : gOkO tc so) : gOk tc (gSum1 tk tv od so) := gLv_ok hA rfl (gTerm_ok hA hs)
theorem gSum_ok (hA : TkA tk ts tv tc) : ∀ n, gOk tc (gSum tk tv od n) := by
  intro n
  induction n with
  | zero => exact gSum1_ok hA (fun s h => by cases h)
  | succ n ih => exact gSum1_ok hA (fun s h => by cases h; exact ih)
theorem gCmp_ok (hA : TkA tk ts tv tc) (hs : gOk tc sub) : gOk tc (gCmp tk sub) := by
  intro k p hk hp
  unfold gCmp
  obtain ⟨s1, s2⟩ := hs k p hk hp
  cases hr : sub k p with
  | inl q =>
    simp only []
    refine ⟨fun q' h => ?_, fun k' p' g h => by cases h⟩
    cases h; exact s1 q hr
  | inr r =>
    obtain ⟨k1, p1, g1⟩ := r
    simp only []
    obtain ⟨b1, b2, b3⟩ := s2 k1 p1 g1 hr
    by_cases h7 : 7 ≤ stp (tk k1)
    · have hk3 : k1 < tc := tk_lt hA (fun e => by rw [e] at h7; exact absurd h7 (by decide))
      rw [if_pos h7]
      obtain ⟨t1, t2⟩ := hs (k1 + 1) p1 (by omega) b3
      cases hr2 : sub (k1 + 1) p1 with
      | inl q =>
        simp only []
        refine ⟨fun q' h => ?_, fun k' p' g h => by cases h⟩
        cases h; exact t1 q hr2
      | inr r2 =>
        obtain ⟨k2, p2, g2⟩ := r2
        simp only []
        obtain ⟨c1, c2, c3⟩ := t2 k2 p2 g2 hr2
        refine ⟨fun q' h => (by cases h), fun k' p' g h => ?_⟩
        cases h; exact ⟨by omega, by omega, by omega⟩
    · rw [if_neg h7]
      refine ⟨fun q' h => ?_, fun k' p' g h => by cases h⟩
      cases h; omega
theorem gPln_ok (hA : TkA tk ts tv tc) (hs : gOk tc sub) (ho : gOkO tc so) : gOk tc (gPln tk sub so) := by
  intro k p hk hp
  unfold gPln
  by_cases h : tk k = 140
  · rw [if_pos h]
    exact gBr_ok hA (by omega) ho (tk_lt hA (by omega)) hp
  · rw [if_neg h]
    exact gCmp_ok hA hs k p hk hp
theorem gNot_ok (hA : TkA tk ts tv tc) (hs : gOk tc sub) : ∀ n b k p, k ≤ tc → p ≤ 50 → (∀ q, gNot tk sub n b k p = .inl q → q ≤ tc) ∧ (∀ k' p' f, gNot tk sub n b k p = .inr (k', p', f) → k < k' ∧ k' ≤ tc ∧ p' ≤ 50) := by
  have base : ∀ (b : Bool) k p, k ≤ tc → p ≤ 50 → (∀ q, (match sub k p with | .inl q => (.inl q : Ex) | .inr (k', p', f) => .inr (k', p', if b = true then notF f else f)) = .inl q → q ≤ tc) ∧ (∀ k' p' f, (match sub k p with | .inl q => (.inl q : Ex) | .inr (k', p', f) => .inr (k', p', if b = true then notF f else f)) = .inr (k', p', f) → k < k' ∧ k' ≤ tc ∧ p' ≤ 50) := by
    intro b k p hk hp
    obtain ⟨s1, s2⟩ := hs k p hk hp
    cases hr : sub k p with
    | inl q =>
      simp only []
      refine ⟨fun q' h => ?_, fun k' p' g h => by cases h⟩
      cases h; exact s1 q hr
    | inr r =>
      obtain ⟨k1, p1, g1⟩ := r
      simp only []
      refine ⟨fun q' h => (by cases h), fun k' p' g h => ?_⟩
      cases h; exact s2 k1 p1 g1 hr
  intro n
  induction n with
  | zero => intro b k p hk hp; exact base b k p hk hp
  | succ n ih =>
    intro b k p hk hp
    unfold gNot
    by_cases h : tk k = 15
    · rw [if_pos h]
      have hk2 : k < tc := tk_lt hA (by omega)
      obtain ⟨i1, i2⟩ := ih (!b) (k + 1) p (by omega) hp
      refine ⟨i1, fun k' p' g h => ?_⟩
      obtain ⟨c1, c2, c3⟩ := i2 k' p' g h
      exact ⟨by omega, c2, c3⟩
    · rw [if_neg h]
      exact base b k p hk hp
theorem gPlain_ok (hA : TkA tk ts tv tc) (hs : gOk tc sub) (ho : gOkO tc so) : gOk tc (gPlain tk sub so) := fun k p hk hp => gNot_ok hA (gPln_ok hA hs ho) 400 false k p hk hp
theorem gBoth_ok (hA : TkA tk ts tv tc) (hs : gOk tc sub) (ho : gOkO tc so) : gOk tc (gBoth tk sub so) := gLv_ok hA rfl (gPlain_ok hA hs ho)
theorem gTest1_ok (hA : TkA tk ts tv tc) (hs : gOk tc sub) (ho : gOkO tc so) : gOk tc (gTest1 tk sub so) := gLv_ok hA rfl (gBoth_ok hA hs ho)
theorem gTest_ok (hA : TkA tk ts tv tc) : ∀ n, gOk tc (gTest tk tv od n) := by
  intro n
  induction n with
  | zero => exact gTest1_ok hA (gSum_ok hA 0) (fun s h => by cases h)
  | succ n ih => exact gTest1_ok hA (gSum_ok hA (n + 1)) (fun s h => by cases h; exact ih)
end
