-- needs: 382
/-! Glasses given to people: sets of glasses, the best that is left. -/
abbrev hb (m c : Nat) : Prop := m ||| (1 <<< c) = m
theorem t2_dec {N M : Nat} {P : Nat → Nat → Prop} [∀ i j, Decidable (P i j)] (h : ((List.range N).all fun i => (List.range M).all fun j => decide (P i j)) = true) {i j : Nat} (hi : i < N) (hj : j < M) : P i j :=
  of_decide_eq_true (List.all_eq_true.mp (List.all_eq_true.mp h i (List.mem_range.mpr hi)) j (List.mem_range.mpr hj))
theorem t3_dec {N M O : Nat} {P : Nat → Nat → Nat → Prop} [∀ i j k, Decidable (P i j k)] (h : ((List.range N).all fun i => (List.range M).all fun j => (List.range O).all fun k => decide (P i j k)) = true) {i j k : Nat} (hi : i < N) (hj : j < M) (hk : k < O) : P i j k :=
  of_decide_eq_true (List.all_eq_true.mp (List.all_eq_true.mp (List.all_eq_true.mp h i (List.mem_range.mpr hi)) j (List.mem_range.mpr hj)) k (List.mem_range.mpr hk))
set_option maxRecDepth 100000 in
theorem or_i {m g : Nat} (hm : m < 64) (hg : g < 6) : nI m ||| ((1 : Int32) <<< (nI g &&& 31)) = nI (m ||| (1 <<< g)) := t2_dec (P := fun m g => nI m ||| ((1 : Int32) <<< (nI g &&& 31)) = nI (m ||| (1 <<< g))) (by decide +kernel) hm hg
set_option maxRecDepth 100000 in
theorem or_n {m g : Nat} (hm : m < 64) (hg : g < 6) : ¬ hb m g → m < m ||| (1 <<< g) ∧ litN (m ||| (1 <<< g)) = litN m + 1 := t2_dec (P := fun m g => ¬ hb m g → m < m ||| (1 <<< g) ∧ litN (m ||| (1 <<< g)) = litN m + 1) (by decide +kernel) hm hg
set_option maxRecDepth 100000 in
theorem or_lt {n m g : Nat} (hn : n ≤ 6) (hm : m < 2 ^ n) (hg : g < n) : m ||| (1 <<< g) < 2 ^ n := by
  have h6 : 2 ^ n ≤ 64 := by
    have h : n = 0 ∨ n = 1 ∨ n = 2 ∨ n = 3 ∨ n = 4 ∨ n = 5 ∨ n = 6 := by omega
    rcases h with rfl | rfl | rfl | rfl | rfl | rfl | rfl <;> omega
  exact t3_dec (P := fun n m g => m < 2 ^ n → g < n → m ||| (1 <<< g) < 2 ^ n) (N := 7) (M := 64) (O := 6) (by decide +kernel) (show n < 7 by omega) (show m < 64 by omega) (show g < 6 by omega) hm hg
theorem p2 {n : Nat} (hn : n ≤ 6) : 2 ^ n ≤ 64 ∧ 1 ≤ 2 ^ n := by
  have h : n = 0 ∨ n = 1 ∨ n = 2 ∨ n = 3 ∨ n = 4 ∨ n = 5 ∨ n = 6 := by omega
  rcases h with rfl | rfl | rfl | rfl | rfl | rfl | rfl <;> omega
set_option maxRecDepth 100000 in
theorem or_ex {n m : Nat} (hn : n ≤ 6) (hm : m + 1 < 2 ^ n) : litN m < n ∧ ∃ g, g < n ∧ ¬ hb m g := by
  have h6 := (p2 hn).1
  have h := t2_dec (P := fun n m => m + 1 < 2 ^ n → litN m < n ∧ (List.range n).any (fun g => decide (¬ hb m g)) = true) (N := 7) (M := 64) (by decide +kernel) (show n < 7 by omega) (show m < 64 by omega) hm
  refine ⟨h.1, ?_⟩
  obtain ⟨g, h1, h2⟩ := List.any_eq_true.mp h.2
  exact ⟨g, List.mem_range.mp h1, of_decide_eq_true h2⟩
set_option maxRecDepth 100000 in
theorem or_hb {m x c : Nat} (hm : m < 64) (hx : x < 6) (hc : c < 6) : hb (m ||| (1 <<< x)) c ↔ hb m c ∨ c = x := t3_dec (P := fun m x c => hb (m ||| (1 <<< x)) c ↔ hb m c ∨ c = x) (by decide +kernel) hm hx hc
set_option maxRecDepth 100000 in
theorem lit_all {n : Nat} (hn : n ≤ 6) : litN (2 ^ n - 1) = n ∧ (1 : Int32) <<< (nI n &&& 31) - 1 = nI (2 ^ n - 1) := all_dec (N := 7) (P := fun n => litN (2 ^ n - 1) = n ∧ (1 : Int32) <<< (nI n &&& 31) - 1 = nI (2 ^ n - 1)) (by decide +kernel) (by omega)
set_option maxRecDepth 100000 in
theorem hb_0 {c : Nat} (hc : c < 6) : ¬ hb 0 c := all_dec (N := 6) (P := fun c => ¬ hb 0 c) (by decide +kernel) hc
theorem lit_lt {n m : Nat} (hn : n ≤ 6) (hm : m < 2 ^ n) : litN m ≤ n := by
  by_cases c : m + 1 < 2 ^ n
  · exact Nat.le_of_lt (or_ex hn c).1
  · have := (p2 hn).2
    rw [show m = 2 ^ n - 1 from by omega, (lit_all hn).1]; exact Nat.le_refl n
/-- the best with the first glasses, and one; the first that gives it -/
def tzF (w : Nat → Nat → Nat) (k : Nat) (T : Nat → Nat) (m : Nat) : Nat → Nat
  | 0 => 0
  | c + 1 => if hb m c then tzF w k T m c else max (tzF w k T m c) (w k c + T (m ||| (1 <<< c)) + 1)
def gzF (w : Nat → Nat → Nat) (k : Nat) (T : Nat → Nat) (m : Nat) : Nat → Nat
  | 0 => 0
  | c + 1 => if hb m c then gzF w k T m c else if tzF w k T m c < w k c + T (m ||| (1 <<< c)) + 1 then c else gzF w k T m c
def tbF (n : Nat) (w : Nat → Nat → Nat) : Nat → Nat → Nat
  | 0, _ => 0
  | d + 1, m => tzF w (n - (d + 1)) (tbF n w d) m n - 1
theorem tzF_le {w : Nat → Nat → Nat} {k m B : Nat} {T : Nat → Nat} (hw : ∀ p g, w p g ≤ 1) (hT : ∀ x, T x ≤ B) : ∀ c, tzF w k T m c ≤ B + 2 := by
  intro c
  induction c with
  | zero => exact Nat.zero_le _
  | succ c ih =>
    rw [tzF]
    have := hw k c
    have := hT (m ||| (1 <<< c))
    split <;> omega
theorem tbF_le {n : Nat} {w : Nat → Nat → Nat} (hw : ∀ p g, w p g ≤ 1) : ∀ d m, tbF n w d m ≤ d := by
  intro d
  induction d with
  | zero => intro m; exact Nat.le_refl 0
  | succ d ih =>
    intro m
    have := tzF_le (k := n - (d + 1)) (m := m) hw ih n
    rw [tbF]; omega
theorem gzF_ok {w : Nat → Nat → Nat} {k m : Nat} {T : Nat → Nat} : ∀ c, (∀ c', c' < c → ¬ hb m c' → w k c' + T (m ||| (1 <<< c')) + 1 ≤ tzF w k T m c) ∧ (tzF w k T m c ≠ 0 → gzF w k T m c < c ∧ ¬ hb m (gzF w k T m c) ∧ w k (gzF w k T m c) + T (m ||| (1 <<< gzF w k T m c)) + 1 = tzF w k T m c ∧ ∀ c', c' < gzF w k T m c → ¬ hb m c' → w k c' + T (m ||| (1 <<< c')) + 1 < tzF w k T m c) := by
  intro c
  induction c with
  | zero => exact ⟨fun c' h => absurd h (Nat.not_lt_zero _), fun h => absurd rfl h⟩
  | succ c ih =>
    obtain ⟨i1, i2⟩ := ih
    rw [tzF, gzF]
    by_cases b : hb m c
    · rw [if_pos b, if_pos b]
      refine ⟨fun c' h hn => ?_, fun h => ?_⟩
      · by_cases e : c' = c
        · rw [e] at hn; exact absurd b hn
        · exact i1 c' (by omega) hn
      · obtain ⟨a1, a2, a3, a4⟩ := i2 h
        exact ⟨by omega, a2, a3, a4⟩
    · rw [if_neg b, if_neg b]
      by_cases l : tzF w k T m c < w k c + T (m ||| (1 <<< c)) + 1
      · rw [if_pos l, Nat.max_eq_right (Nat.le_of_lt l)]
        refine ⟨fun c' h hn => ?_, fun _ => ⟨by omega, b, rfl, fun c' h hn => ?_⟩⟩
        · by_cases e : c' = c
          · rw [e]; exact Nat.le_refl _
          · exact Nat.le_of_lt (Nat.lt_of_le_of_lt (i1 c' (by omega) hn) l)
        · exact Nat.lt_of_le_of_lt (i1 c' h hn) l
      · rw [if_neg l, Nat.max_eq_left (by omega)]
        refine ⟨fun c' h hn => ?_, fun h => ?_⟩
        · by_cases e : c' = c
          · rw [e]; omega
          · exact i1 c' (by omega) hn
        · obtain ⟨a1, a2, a3, a4⟩ := i2 h
          exact ⟨by omega, a2, a3, a4⟩
/-- what is given to the first, each the first best -/
def gvS (n : Nat) (w : Nat → Nat → Nat) : Nat → Nat
  | 0 => 0
  | p + 1 => gvS n w p ||| (1 <<< gzF w p (tbF n w (n - (p + 1))) (gvS n w p) n)
def gsq (n : Nat) (w : Nat → Nat → Nat) (p : Nat) : Nat := gzF w p (tbF n w (n - (p + 1))) (gvS n w p) n
theorem gv_ok {n : Nat} {w : Nat → Nat → Nat} (hn : n ≤ 6) : ∀ p, p ≤ n → gvS n w p < 2 ^ n ∧ litN (gvS n w p) = p := by
  intro p
  induction p with
  | zero => intro _; exact ⟨(p2 hn).2, by rw [gvS]; decide⟩
  | succ p ih =>
    intro hp
    obtain ⟨h1, h2⟩ := ih (by omega)
    have h64 := (p2 hn).1
    have ne : gvS n w p + 1 < 2 ^ n := by
      by_cases c : gvS n w p + 1 < 2 ^ n
      · exact c
      · rw [show gvS n w p = 2 ^ n - 1 from by omega, (lit_all hn).1] at h2; omega
    obtain ⟨_, g, g1, g2⟩ := or_ex hn ne
    obtain ⟨a1, a2⟩ := gzF_ok (w := w) (k := p) (m := gvS n w p) (T := tbF n w (n - (p + 1))) n
    have := a1 g g1 g2
    obtain ⟨b1, b2, _, _⟩ := a2 (by omega)
    have := or_n (m := gvS n w p) (by omega) (show gzF w p (tbF n w (n - (p + 1))) (gvS n w p) n < 6 by omega) b2
    rw [gvS]
    exact ⟨or_lt hn h1 b1, by rw [this.2, h2]⟩
theorem gs_ok {n : Nat} {w : Nat → Nat → Nat} (hn : n ≤ 6) {p : Nat} (hp : p < n) : gsq n w p < n ∧ ¬ hb (gvS n w p) (gsq n w p) ∧ w p (gsq n w p) + tbF n w (n - (p + 1)) (gvS n w p ||| (1 <<< gsq n w p)) = tbF n w (n - p) (gvS n w p) ∧ ∀ c', c' < gsq n w p → ¬ hb (gvS n w p) c' → w p c' + tbF n w (n - (p + 1)) (gvS n w p ||| (1 <<< c')) ≠ tbF n w (n - p) (gvS n w p) := by
  obtain ⟨h1, h2⟩ := gv_ok (w := w) hn p (by omega)
  have h64 := (p2 hn).1
  have ne : gvS n w p + 1 < 2 ^ n := by
    by_cases c : gvS n w p + 1 < 2 ^ n
    · exact c
    · rw [show gvS n w p = 2 ^ n - 1 from by omega, (lit_all hn).1] at h2; omega
  obtain ⟨_, g, g1, g2⟩ := or_ex hn ne
  obtain ⟨a1, a2⟩ := gzF_ok (w := w) (k := p) (m := gvS n w p) (T := tbF n w (n - (p + 1))) n
  have := a1 g g1 g2
  obtain ⟨b1, b2, b3, b4⟩ := a2 (by omega)
  have et : tbF n w (n - p) (gvS n w p) = tzF w p (tbF n w (n - (p + 1))) (gvS n w p) n - 1 := by
    rw [show n - p = (n - (p + 1)) + 1 from by omega, tbF, show n - (n - (p + 1) + 1) = p from by omega]
  unfold gsq
  refine ⟨b1, b2, by rw [et]; omega, fun c' hc hn' => ?_⟩
  have := b4 c' hc hn'
  rw [et]; omega
/-- those that are tried -/
def mkS (t : Nat → Nat) : Nat → Nat
  | 0 => 0
  | k + 1 => mkS t k ||| (1 <<< t k)
theorem mkS_up {t : Nat → Nat} {c : Nat} : ∀ k j, j ≤ k → mkS (up t k c) j = mkS t j := by
  intro k j
  induction j with
  | zero => intro _; rfl
  | succ j ih => intro h; rw [mkS, mkS, ih (by omega), up_n t (by omega)]
theorem mkS_hb {n : Nat} {t : Nat → Nat} (hn : n ≤ 6) {c : Nat} (hc : c < 6) : ∀ k, (∀ i, i < k → t i < n) → mkS t k < 2 ^ n ∧ (hb (mkS t k) c ↔ ∃ i, i < k ∧ t i = c) := by
  intro k
  induction k with
  | zero => intro _; exact ⟨(p2 hn).2, ⟨fun h => absurd h (hb_0 hc), fun ⟨i, h, _⟩ => absurd h (Nat.not_lt_zero _)⟩⟩
  | succ k ih =>
    intro ht
    obtain ⟨h1, h2⟩ := ih (fun i hi => ht i (by omega))
    have h64 := (p2 hn).1
    have := ht k (by omega)
    rw [mkS]
    refine ⟨or_lt hn h1 (ht k (by omega)), ?_⟩
    rw [or_hb (by omega) (by omega) hc, h2]
    constructor
    · rintro (⟨i, i1, i2⟩ | h)
      · exact ⟨i, by omega, i2⟩
      · exact ⟨k, by omega, h.symm⟩
    · rintro ⟨i, i1, i2⟩
      by_cases e : i = k
      · right; rw [← i2, e]
      · left; exact ⟨i, by omega, i2⟩
/-- the rest given by the first best -/
def cmS (n : Nat) (w : Nat → Nat → Nat) : Nat → (Nat → Nat) → Nat → Nat → Nat
  | 0, t, _ => t
  | d + 1, t, k => cmS n w d (up t k (gzF w k (tbF n w d) (mkS t k) n)) (k + 1)
theorem cm_gs {n : Nat} {w : Nat → Nat → Nat} : ∀ d t k, d + k = n → (∀ i, i < k → t i = gsq n w i) → ∀ p, p < n → cmS n w d t k p = gsq n w p := by
  intro d
  induction d with
  | zero => intro t k hk ht p hp; exact ht p (by omega)
  | succ d ih =>
    intro t k hk ht p hp
    rw [cmS]
    have em : ∀ j, j ≤ k → mkS t j = gvS n w j := by
      intro j
      induction j with
      | zero => intro _; rfl
      | succ j ihj => intro h; rw [mkS, gvS, ihj (by omega), ht j (by omega)]; rfl
    refine ih _ (k + 1) (by omega) (fun i hi => ?_) p hp
    by_cases e : i = k
    · subst e
      rw [up_s, em i (Nat.le_refl i), show d = n - (i + 1) from by omega]; rfl
    · rw [up_n t e]; exact ht i (by omega)
/-- how many DO what is wanted, of the first -/
def vsS (w : Nat → Nat → Nat) (t : Nat → Nat) : Nat → Nat
  | 0 => 0
  | k + 1 => vsS w t k + w k (t k)
theorem vsS_up {w : Nat → Nat → Nat} {t : Nat → Nat} {c : Nat} : ∀ k j, j ≤ k → vsS w (up t k c) j = vsS w t j := by
  intro k j
  induction j with
  | zero => intro _; rfl
  | succ j ih => intro h; rw [vsS, vsS, ih (by omega), up_n t (by omega)]
theorem vsS_le {w : Nat → Nat → Nat} {t : Nat → Nat} (hw : ∀ p g, w p g ≤ 1) : ∀ k, vsS w t k ≤ k := by
  intro k
  induction k with
  | zero => exact Nat.le_refl 0
  | succ k ih => rw [vsS]; have := hw k (t k); omega
/-- who does what is wanted with whose glass -/
def wF (a : Rw) (L : Nat → Lw) (p g : Nat) : Nat := if ddA (frc a L) a p (sgt a g) = a (38 + p) then 1 else 0
theorem wF_le {a : Rw} {L : Nat → Lw} : ∀ p g, wF a L p g ≤ 1 := by
  intro p g; unfold wF; split <;> omega
