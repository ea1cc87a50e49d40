-- needs:
/-! PART B: pure facts of the f_ predicates. Numbers are nI of naturals. -/
theorem lit (n : Nat) : (OfNat.ofNat n : Int32) = nI (OfNat.ofNat n) := rfl
theorem li64 (n : Nat) : (OfNat.ofNat n : Int64) = lN (OfNat.ofNat n) := rfl
theorem in_iff {k N : Nat} (h : k < 2147483648) : vp_in (nI k) N ↔ k < N := by
  unfold vp_in
  rw [nI_clamp (by omega)]
  have := nI_pos (n := k) (by omega)
  constructor
  · intro h; omega
  · intro h1 h2
    rcases h2 with h2 | h2
    · exact this h2
    · omega
theorem leI {a b : Nat} (ha : a < 2147483648) (hb : b < 2147483648) : nI a ≤ nI b ↔ a ≤ b := nI_leI (by omega) (by omega)
theorem ltI {a b : Nat} (ha : a < 2147483648) (hb : b < 2147483648) : nI a < nI b ↔ a < b := nI_ltI (by omega) (by omega)
theorem eqI {a b : Nat} (ha : a < 2147483648) (hb : b < 2147483648) : nI a = nI b ↔ a = b := nI_eq (by omega) (by omega)
theorem clI {a : Nat} (ha : a < 2147483648) : (nI a).toNatClampNeg = a := nI_clamp (by omega)
theorem dvI {a d : Nat} (ha : a < 2147483648) (h0 : 0 < d) (hd : d < 2147483648) : nI a / nI d = nI (a / d) := pk_div (by omega) h0 (by omega)
theorem rmI {a d : Nat} (ha : a < 2147483648) (h0 : 0 < d) (hd : d < 2147483648) : nI a - nI a / nI d * nI d = nI (a % d) := pk_rem (by omega) h0 (by omega)
theorem sbI {a b : Nat} (h : b ≤ a) : nI a - nI b = nI (a - b) := pk_sub h
theorem uI_2 (S : St) (i j : Nat) (v : Int32) : (uI S i j v).2 = S.2 := rfl
theorem uI_s (S : St) (i j k : Nat) (v : Int32) : (uI S i j v).1 i k = if k = j then v else S.1 i k := by simp [uI]
theorem uI_n (S : St) (i j : Nat) (v : Int32) {a : Nat} (h : a ≠ i) : (uI S i j v).1 a = S.1 a := by
  funext k; simp [uI, h]
theorem uI_p (S : St) (i j : Nat) (v : Int32) {a k : Nat} (h : k ≠ j) : (uI S i j v).1 a k = S.1 a k := by simp [uI, h]
theorem uJ_1 (S : St) (i j : Nat) (v : Int64) : (uJ S i j v).1 = S.1 := rfl
theorem uJ_22 (S : St) (i j : Nat) (v : Int64) : (uJ S i j v).2.2 = S.2.2 := rfl
theorem uJ_s (S : St) (i j k : Nat) (v : Int64) : (uJ S i j v).2.1 i k = if k = j then v else S.2.1 i k := by simp [uJ]
theorem uJ_n (S : St) (i j : Nat) (v : Int64) {a : Nat} (h : a ≠ i) : (uJ S i j v).2.1 a = S.2.1 a := by
  funext k; simp [uJ, h]
/-- an argument is one of the first n, or not -/
theorem ar_c (n : Nat) (hn : n < 2147483648) (x : Int32) : (∃ j, j < n ∧ x = nI j) ∨ (x < 0 ∨ nI n ≤ x) := by
  rcases pk_ix x (n := n) (by omega) with h | h | h
  · exact .inr (.inl h)
  · exact .inr (.inr h)
  · exact .inl h
theorem ar_no {n : Nat} (hn : n < 2147483648) {x : Int32} (h : x < 0 ∨ nI n ≤ x) : ¬ ∃ j, j < n ∧ x = nI j := by
  rintro ⟨j, hj, rfl⟩
  rcases h with h | h
  · exact nI_pos (n := j) (by omega) h
  · rw [leI (by omega) (by omega)] at h; omega
/-- an argument in a range of naturals, or not -/
def isI (n : Nat) (x : Int32) : Prop := ∃ j, j < n ∧ x = nI j
theorem i64_lt {x y : Int64} : x < y ↔ x.toInt < y.toInt := Int64.lt_iff_toInt_lt
theorem i64_le {x y : Int64} : x ≤ y ↔ x.toInt ≤ y.toInt := Int64.le_iff_toInt_le
theorem i32_lt {x y : Int32} : x < y ↔ x.toInt < y.toInt := Int32.lt_iff_toInt_lt
theorem i32_le {x y : Int32} : x ≤ y ↔ x.toInt ≤ y.toInt := Int32.le_iff_toInt_le
theorem cmp_lt (x y : Int64) : lg_cmp x y < 0 ↔ x.toInt < y.toInt := by
  unfold lg_cmp
  split
  · rename_i g
    have g : y.toInt < x.toInt := i64_lt.mp g
    exact ⟨fun h => absurd h (by decide), fun h => by omega⟩
  · rename_i g
    have g : ¬ y.toInt < x.toInt := fun h => g (i64_lt.mpr h)
    split
    · rename_i e
      subst e
      exact ⟨fun h => absurd h (by decide), fun h => by omega⟩
    · rename_i e
      have e : ¬ x.toInt = y.toInt := fun h => e (Int64.toInt_inj.mp h)
      exact ⟨fun h => by omega, fun h => by decide⟩
theorem cmp_gt (x y : Int64) : 0 < lg_cmp x y ↔ y.toInt < x.toInt := by
  unfold lg_cmp
  split
  · rename_i g
    have g : y.toInt < x.toInt := i64_lt.mp g
    exact ⟨fun h => g, fun h => by decide⟩
  · rename_i g
    have g : ¬ y.toInt < x.toInt := fun h => g (i64_lt.mpr h)
    split
    · exact ⟨fun h => absurd h (by decide), fun h => absurd h g⟩
    · exact ⟨fun h => absurd h (by decide), fun h => absurd h g⟩
theorem cmp_ge (x y : Int64) : 0 ≤ lg_cmp x y ↔ y.toInt ≤ x.toInt := by
  have h := cmp_lt x y
  rw [i32_le, show (0 : Int32).toInt = 0 from rfl]
  rw [i32_lt, show (0 : Int32).toInt = 0 from rfl] at h
  omega
theorem cmp_le (x y : Int64) : lg_cmp x y ≤ 0 ↔ x.toInt ≤ y.toInt := by
  have h := cmp_gt x y
  rw [i32_le, show (0 : Int32).toInt = 0 from rfl]
  rw [i32_lt, show (0 : Int32).toInt = 0 from rfl] at h
  omega
theorem cmp_eq (x y : Int64) : lg_cmp x y = 0 ↔ x = y := by
  have h := cmp_gt x y
  have h2 := cmp_lt x y
  rw [i32_lt, show (0 : Int32).toInt = 0 from rfl] at h h2
  rw [← Int64.toInt_inj, ← Int32.toInt_inj, show (0 : Int32).toInt = 0 from rfl]
  omega
/-- what a method leaves: all but some cells -/
def Fr (X : Nat → Prop) (S S' : St) : Prop := S'.2.2 = S.2.2 ∧ ∀ i, ¬ X i → S'.1 i = S.1 i ∧ S'.2.1 i = S.2.1 i
theorem Fr.refl {X : Nat → Prop} (S : St) : Fr X S S := ⟨rfl, fun _ _ => ⟨rfl, rfl⟩⟩
theorem Fr.trans {X : Nat → Prop} {S S' S'' : St} (h : Fr X S S') (h' : Fr X S' S'') : Fr X S S'' :=
  ⟨h'.1.trans h.1, fun i hi => ⟨((h'.2 i hi).1).trans (h.2 i hi).1, ((h'.2 i hi).2).trans (h.2 i hi).2⟩⟩
theorem Fr.mono {X Y : Nat → Prop} {S S' : St} (h : Fr X S S') (hX : ∀ i, X i → Y i) : Fr Y S S' :=
  ⟨h.1, fun i hi => h.2 i (fun hx => hi (hX i hx))⟩
theorem Fr.uI {X : Nat → Prop} {S S' : St} (h : Fr X S S') {i j : Nat} {v : Int32} (hx : X i) : Fr X S (uI S' i j v) :=
  ⟨h.1, fun a ha => ⟨(uI_n S' i j v (fun e => ha (by rw [e]; exact hx))).trans (h.2 a ha).1, (h.2 a ha).2⟩⟩
theorem Fr.uJ {X : Nat → Prop} {S S' : St} (h : Fr X S S') {i j : Nat} {v : Int64} (hx : X i) : Fr X S (uJ S' i j v) :=
  ⟨h.1, fun a ha => ⟨(h.2 a ha).1, (uJ_n S' i j v (fun e => ha (by rw [e]; exact hx))).trans (h.2 a ha).2⟩⟩
theorem i32_64 (x : Int32) : x.toInt64.toInt = x.toInt := Int32.toInt_toInt64 x
theorem ite_y {c A B : Prop} {_ : Decidable c} (hc : c) (h : A) : if c then A else B := by rw [if_pos hc]; exact h
theorem ite_n {c A B : Prop} {_ : Decidable c} (hc : ¬ c) (h : B) : if c then A else B := by rw [if_neg hc]; exact h
theorem ite_c {c A B : Prop} {_ : Decidable c} (h : c → A) (h' : ¬ c → B) : if c then A else B := by
  by_cases hc : c
  · rw [if_pos hc]; exact h hc
  · rw [if_neg hc]; exact h' hc
/-- a reference that is there -/
theorem ex_y {x : Option Nat} {B : Nat → Prop} {i : Nat} (hx : x = some i) (h : B i) : ∃ a, x = some a ∧ B a := ⟨i, hx, h⟩
theorem nm_p {α : Sort _} {e e' : α} {P : α → Prop} (he : e = e') (h : P e') : ∀ x, x = e → P x := by
  intro x hx; rw [hx, he]; exact h
theorem fin_pow9 {g m : Nat} (hg : g < 10 ^ m) (hm : m ≤ 9) : g < 1000000000 := Nat.lt_of_lt_of_le hg (Nat.pow_le_pow_right (by decide) hm)
