-- needs: 200 201 202 203
/-! Writing into a parish. -/
def pos (p q i x : Nat) : Prop := (q = p + 4 ∧ i < 4 ∧ x = 4 + i) ∨ (q = p + 1 ∧ i < 24 ∧ x = 8 + i) ∨ (q = p + 2 ∧ i < 6 ∧ x = 32 + i) ∨ (q = p + 3 ∧ i < 6 ∧ x = 38 + i) ∨ (q = p + 5 ∧ i < 8 ∧ x = 44 + i) ∨ (q = p + 6 ∧ i < 8 ∧ x = 52 + i) ∨ (q = p ∧ i = 0 ∧ x = 0) ∨ (q = p ∧ i = 5 ∧ x = 1) ∨ (q = p ∧ i = 8 ∧ x = 2)
theorem rd_eq {S : St} {q i v q' i' x x' : Nat} {a : Nat → Nat} (hr : S.1 q' i' = nI (a x')) (hi : (q' = q ∧ i' = i) ↔ x' = x) : (uI S q i (nI v)).1 q' i' = nI (up a x v x') := by
  unfold uI up
  show (if q' = q ∧ i' = i then nI v else S.1 q' i') = _
  by_cases h : x' = x
  · rw [if_pos (hi.mpr h), if_pos h]
  · rw [if_neg (fun e => h (hi.mp e)), if_neg h]; exact hr
theorem ParC.set {S : St} {p q i v x : Nat} {a : Nat → Nat} (hP : ParC S p a) (h : pos p q i x) : ParC (uI S q i (nI v)) p (up a x v) := by
  obtain ⟨h0, h1, h2, h3, h4, h5, h6, h7, h8, h9⟩ := hP
  unfold pos at h
  refine ⟨rd_eq h0 (by omega), rd_eq h1 (by omega), rd_eq h2 (by omega), ?_, fun k hk => rd_eq (h4 k hk) (by omega), fun k hk => rd_eq (h5 k hk) (by omega), fun k hk => rd_eq (h6 k hk) (by omega), fun k hk => rd_eq (h7 k hk) (by omega), fun k hk => rd_eq (h8 k hk) (by omega), fun k hk => rd_eq (h9 k hk) (by omega)⟩
  rw [up_n a (by omega)]
  unfold uI
  show (if p = q ∧ 10 = i then nI v else S.1 p 10) = _
  rw [if_neg (by omega)]; exact h3
theorem ParC.force {S : St} {p f : Nat} {a : Nat → Nat} (hP : ParC S p a) : ParC (uI S p 10 (nI f - 1)) p (up a 3 f) := by
  obtain ⟨h0, h1, h2, h3, h4, h5, h6, h7, h8, h9⟩ := hP
  have e : ∀ q' i', ¬ (q' = p ∧ i' = 10) → (uI S p 10 (nI f - 1)).1 q' i' = S.1 q' i' := fun q' i' h => if_neg h
  refine ⟨?_, ?_, ?_, ?_, fun k hk => ?_, fun k hk => ?_, fun k hk => ?_, fun k hk => ?_, fun k hk => ?_, fun k hk => ?_⟩
  · rw [e _ _ (by omega), up_n a (by omega)]; exact h0
  · rw [e _ _ (by omega), up_n a (by omega)]; exact h1
  · rw [e _ _ (by omega), up_n a (by omega)]; exact h2
  · rw [up_s]; exact if_pos ⟨rfl, rfl⟩
  · rw [e _ _ (by omega), up_n a (by omega)]; exact h4 k hk
  · rw [e _ _ (by omega), up_n a (by omega)]; exact h5 k hk
  · rw [e _ _ (by omega), up_n a (by omega)]; exact h6 k hk
  · rw [e _ _ (by omega), up_n a (by omega)]; exact h7 k hk
  · rw [e _ _ (by omega), up_n a (by omega)]; exact h8 k hk
  · rw [e _ _ (by omega), up_n a (by omega)]; exact h9 k hk
theorem ParC.ag {S S' : St} {p : Nat} {a : Nat → Nat} (hP : ParC S p a) (h : ∀ i, p ≤ i → i ≤ p + 6 → S'.1 i = S.1 i) : ParC S' p a := by
  obtain ⟨h0, h1, h2, h3, h4, h5, h6, h7, h8, h9⟩ := hP
  have e0 := h p (by omega) (by omega)
  refine ⟨?_, ?_, ?_, ?_, fun k hk => ?_, fun k hk => ?_, fun k hk => ?_, fun k hk => ?_, fun k hk => ?_, fun k hk => ?_⟩
  · rw [e0]; exact h0
  · rw [e0]; exact h1
  · rw [e0]; exact h2
  · rw [e0]; exact h3
  · rw [h _ (by omega) (by omega)]; exact h4 k hk
  · rw [h _ (by omega) (by omega)]; exact h5 k hk
  · rw [h _ (by omega) (by omega)]; exact h6 k hk
  · rw [h _ (by omega) (by omega)]; exact h7 k hk
  · rw [h _ (by omega) (by omega)]; exact h8 k hk
  · rw [h _ (by omega) (by omega)]; exact h9 k hk
theorem ParC.fr {S S' : St} {p : Nat} {a : Nat → Nat} {X : Nat → Prop} (hP : ParC S p a) (h : Fr X S S') (hX : ∀ i, p ≤ i → i ≤ p + 6 → ¬ X i) : ParC S' p a :=
  hP.ag (fun i h1 h2 => (h.2 i (hX i h1 h2)).1)
/-- the same below 60 -/
def eq60 (a b : Nat → Nat) : Prop := ∀ i, i < 60 → a i = b i
theorem ParC.eq {S : St} {p : Nat} {a b : Nat → Nat} (hP : ParC S p a) (h : eq60 a b) : ParC S p b := by
  obtain ⟨h0, h1, h2, h3, h4, h5, h6, h7, h8, h9⟩ := hP
  refine ⟨?_, ?_, ?_, ?_, fun k hk => ?_, fun k hk => ?_, fun k hk => ?_, fun k hk => ?_, fun k hk => ?_, fun k hk => ?_⟩
  · rw [← h _ (by omega)]; exact h0
  · rw [← h _ (by omega)]; exact h1
  · rw [← h _ (by omega)]; exact h2
  · rw [← h _ (by omega)]; exact h3
  · rw [← h _ (by omega)]; exact h4 k hk
  · rw [← h _ (by omega)]; exact h5 k hk
  · rw [← h _ (by omega)]; exact h6 k hk
  · rw [← h _ (by omega)]; exact h7 k hk
  · rw [← h _ (by omega)]; exact h8 k hk
  · rw [← h _ (by omega)]; exact h9 k hk
theorem Va.eq {a b : Nat → Nat} (hV : Va a) (h : eq60 a b) : Va b := by
  obtain ⟨h0, h1, h2, h3, h4, h5, h6, h7, h8, h9, h10, h11, h12, h13⟩ := hV
  refine ⟨?_, ?_, ?_, ?_, ?_, ?_, ?_, ?_, fun k hk => ?_, fun k hk => ?_, fun k hk => ?_, fun k hk => ?_, fun k hk => ?_, fun k hk => ?_⟩
  · rw [← h _ (by omega)]; exact h0
  · rw [← h _ (by omega)]; exact h1
  · rw [← h _ (by omega)]; exact h2
  · rw [← h _ (by omega), ← h _ (by omega)]; exact h3
  · rw [← h _ (by omega)]; exact h4
  · rw [← h _ (by omega)]; exact h5
  · rw [← h _ (by omega)]; exact h6
  · rw [← h _ (by omega)]; exact h7
  · rw [← h _ (by omega)]; exact h8 k hk
  · rw [← h _ (by omega)]; exact h9 k hk
  · rw [← h _ (by omega)]; exact h10 k hk
  · rw [← h _ (by omega)]; exact h11 k hk
  · rw [← h _ (by omega)]; exact h12 k hk
  · rw [← h _ (by omega)] at hk; rw [← h _ (by omega), ← h _ (by omega)]; exact h13 k hk
theorem Va.ups {a : Nat → Nat} {x v : Nat} (hV : Va a) (h : (4 ≤ x ∧ x ≤ 4 ∧ v ≤ 999) ∨ (x = 5 ∧ v ≤ 10) ∨ (x = 6 ∧ v ≤ 9) ∨ (x = 7 ∧ v ≤ 255) ∨ (8 ≤ x ∧ x < 32 ∧ v ≤ 8) ∨ (32 ≤ x ∧ x < 38 ∧ vG v) ∨ (38 ≤ x ∧ x < 44 ∧ v ≤ 3)) : Va (up a x v) := by
  obtain ⟨h0, h1, h2, h3, h4, h5, h6, h7, h8, h9, h10, h11, h12, h13⟩ := hV
  have e : ∀ i, up a x v i = if i = x then v else a i := fun i => rfl
  have x4 : 4 ≤ x ∧ x < 44 := by
    rcases h with ⟨_, _, _⟩ | ⟨_, _⟩ | ⟨_, _⟩ | ⟨_, _⟩ | ⟨_, _, _⟩ | ⟨_, _, _⟩ | ⟨_, _, _⟩ <;> omega
  have en : ∀ i, i ≠ x → up a x v i = a i := fun i hi => up_n a hi
  refine ⟨?_, ?_, ?_, ?_, ?_, ?_, ?_, ?_, fun k hk => ?_, fun k hk => ?_, fun k hk => ?_, fun k hk => ?_, fun k hk => ?_, fun k hk => ?_⟩
  · rw [en _ (by omega)]; exact h0
  · rw [en _ (by omega)]; exact h1
  · rw [en _ (by omega)]; exact h2
  · rw [en _ (by omega), en _ (by omega)]; exact h3
  · rw [e]; split
    · rcases h with ⟨_, _, _⟩ | ⟨_, _⟩ | ⟨_, _⟩ | ⟨_, _⟩ | ⟨_, _, _⟩ | ⟨_, _, _⟩ | ⟨_, _, _⟩ <;> omega
    · exact h4
  · rw [e]; split
    · rcases h with ⟨_, _, _⟩ | ⟨_, _⟩ | ⟨_, _⟩ | ⟨_, _⟩ | ⟨_, _, _⟩ | ⟨_, _, _⟩ | ⟨_, _, _⟩ <;> omega
    · exact h5
  · rw [e]; split
    · rcases h with ⟨_, _, _⟩ | ⟨_, _⟩ | ⟨_, _⟩ | ⟨_, _⟩ | ⟨_, _, _⟩ | ⟨_, _, _⟩ | ⟨_, _, _⟩ <;> omega
    · exact h6
  · rw [e]; split
    · rcases h with ⟨_, _, _⟩ | ⟨_, _⟩ | ⟨_, _⟩ | ⟨_, _⟩ | ⟨_, _, _⟩ | ⟨_, _, _⟩ | ⟨_, _, _⟩ <;> omega
    · exact h7
  · rw [e]; split
    · rcases h with ⟨_, _, _⟩ | ⟨_, _⟩ | ⟨_, _⟩ | ⟨_, _⟩ | ⟨_, _, _⟩ | ⟨_, _, _⟩ | ⟨_, _, _⟩ <;> omega
    · exact h8 k hk
  · rw [e]; split
    · rcases h with ⟨_, _, _⟩ | ⟨_, _⟩ | ⟨_, _⟩ | ⟨_, _⟩ | ⟨_, _, _⟩ | ⟨_, _, hv⟩ | ⟨_, _, _⟩ <;> first | omega | exact hv
    · exact h9 k hk
  · rw [e]; split
    · rcases h with ⟨_, _, _⟩ | ⟨_, _⟩ | ⟨_, _⟩ | ⟨_, _⟩ | ⟨_, _, _⟩ | ⟨_, _, _⟩ | ⟨_, _, _⟩ <;> omega
    · exact h10 k hk
  · rw [en _ (by omega)]; exact h11 k hk
  · rw [en _ (by omega)]; exact h12 k hk
  · rw [en _ (by omega)] at hk
    rw [en _ (by omega), en _ (by omega)]; exact h13 k hk
