/-! Tokens of a tape. -/
def nof : List Nat := [0, 7, 13, 18, 23, 27, 33, 38, 44, 49, 52, 58, 61, 66, 69, 73, 77, 84, 89, 94, 100, 104, 110, 114, 119, 124, 131, 137]
def nle : List Nat := [6, 5, 4, 4, 3, 5, 4, 5, 4, 2, 5, 2, 4, 2, 3, 3, 6, 4, 4, 5, 3, 5, 3, 4, 4, 6, 5]
def nmN (i j : Nat) : Nat := (byS.getD (nof.getD i 0 + j) 0).toNatClampNeg
def srt (b : Nat) : Nat := if 97 ≤ b ∧ b ≤ 122 then 1 else if 48 ≤ b ∧ b ≤ 57 then 2 else 0
def skp (T : Nat → Nat) (tn : Nat) : Nat → Nat → Nat
  | 0, i => i
  | n + 1, i => if i < tn ∧ T i = 32 then skp T tn n (i + 1) else i
def rnE (T : Nat → Nat) (tn s : Nat) : Nat → Nat → Nat
  | 0, i => i
  | n + 1, i => if i < tn ∧ srt (T i) = s then rnE T tn s n (i + 1) else i
def enO (T : Nat → Nat) (tn i : Nat) : Nat := if tn ≤ i then i else if srt (T i) = 0 then i + 1 else rnE T tn (srt (T i)) 400 (i + 1)
def stT (T : Nat → Nat) (tn : Nat) : Nat → Nat
  | 0 => skp T tn 400 0
  | k + 1 => skp T tn 400 (enO T tn (stT T tn k))
def teT (T : Nat → Nat) (tn k : Nat) : Nat := enO T tn (stT T tn k)
def eqW (T : Nat → Nat) (s i l : Nat) : Prop := nle.getD i 0 = l ∧ ∀ j, j < l → nmN i j = T (s + j)
def eqB (T : Nat → Nat) (s i l : Nat) : Bool := decide (nle.getD i 0 = l) && (List.range l).all (fun j => decide (nmN i j = T (s + j)))
theorem eqB_e {T : Nat → Nat} {s i l : Nat} : eqB T s i l = true ↔ eqW T s i l := by
  unfold eqB eqW
  rw [Bool.and_eq_true, decide_eq_true_iff, List.all_eq_true]
  constructor
  · rintro ⟨h1, h2⟩
    exact ⟨h1, fun j hj => of_decide_eq_true (h2 j (List.mem_range.mpr hj))⟩
  · rintro ⟨h1, h2⟩
    exact ⟨h1, fun j hj => decide_eq_true (h2 j (List.mem_range.mp hj))⟩
def nmF (T : Nat → Nat) (s l : Nat) : Nat → Nat → Nat
  | 0, _ => 99
  | n + 1, i => if eqB T s i l = true then i else nmF T s l n (i + 1)
def nvC (T : Nat → Nat) (s : Nat) : Nat → Nat
  | 0 => 0
  | j + 1 => min (nvC T s j * 10 + (T (s + j) - 48)) 1001
def tkT (T : Nat → Nat) (tn k : Nat) : Nat := if tn ≤ stT T tn k then 51 else if srt (T (stT T tn k)) = 0 then 100 + T (stT T tn k) else if srt (T (stT T tn k)) = 2 then 50 else nmF T (stT T tn k) (teT T tn k - stT T tn k) 27 0
def tvT (T : Nat → Nat) (tn k : Nat) : Nat := if tn ≤ stT T tn k then 0 else if srt (T (stT T tn k)) = 2 then nvC T (stT T tn k) (teT T tn k - stT T tn k) else 0
def tcF (T : Nat → Nat) (tn : Nat) : Nat → Nat → Nat
  | 0, k => k
  | n + 1, k => if tn ≤ stT T tn k then k else tcF T tn n (k + 1)
def tcT (T : Nat → Nat) (tn : Nat) : Nat := tcF T tn 400 0
section
variable {T : Nat → Nat} {tn : Nat}
theorem srt_le (b : Nat) : srt b = 0 ∨ srt b = 1 ∨ srt b = 2 := by
  unfold srt
  by_cases h1 : 97 ≤ b ∧ b ≤ 122
  · rw [if_pos h1]; omega
  · rw [if_neg h1]
    by_cases h2 : 48 ≤ b ∧ b ≤ 57
    · rw [if_pos h2]; omega
    · rw [if_neg h2]; omega
theorem srt_1 {b : Nat} : srt b = 1 ↔ 97 ≤ b ∧ b ≤ 122 := by
  unfold srt
  by_cases h1 : 97 ≤ b ∧ b ≤ 122
  · rw [if_pos h1]; exact ⟨fun _ => h1, fun _ => rfl⟩
  · rw [if_neg h1]
    by_cases h2 : 48 ≤ b ∧ b ≤ 57
    · rw [if_pos h2]; omega
    · rw [if_neg h2]; omega
theorem srt_2 {b : Nat} : srt b = 2 ↔ 48 ≤ b ∧ b ≤ 57 := by
  unfold srt
  by_cases h1 : 97 ≤ b ∧ b ≤ 122
  · rw [if_pos h1]; omega
  · rw [if_neg h1]
    by_cases h2 : 48 ≤ b ∧ b ≤ 57
    · rw [if_pos h2]; exact ⟨fun _ => h2, fun _ => rfl⟩
    · rw [if_neg h2]; omega
theorem skp_f : ∀ n i, i ≤ tn → tn ≤ i + n → i ≤ skp T tn n i ∧ skp T tn n i ≤ tn ∧ (∀ j, i ≤ j → j < skp T tn n i → T j = 32) ∧ (skp T tn n i < tn → T (skp T tn n i) ≠ 32) := by
  intro n
  induction n with
  | zero =>
    intro i h1 h2
    refine ⟨Nat.le_refl _, h1, fun j a b => ?_, fun h => ?_⟩
    · have : skp T tn 0 i = i := rfl
      omega
    · have : skp T tn 0 i = i := rfl
      omega
  | succ n ih =>
    intro i h1 h2
    unfold skp
    by_cases h : i < tn ∧ T i = 32
    · rw [if_pos h]
      obtain ⟨a, b, c, d⟩ := ih (i + 1) (by omega) (by omega)
      refine ⟨by omega, b, fun j x y => ?_, d⟩
      by_cases e : j = i
      · rw [e]; exact h.2
      · exact c j (by omega) y
    · rw [if_neg h]
      refine ⟨Nat.le_refl _, h1, fun j x y => by omega, fun h' he => h ⟨h', he⟩⟩
theorem rnE_f {s : Nat} : ∀ n i, i ≤ tn → tn ≤ i + n → i ≤ rnE T tn s n i ∧ rnE T tn s n i ≤ tn ∧ (∀ j, i ≤ j → j < rnE T tn s n i → srt (T j) = s) ∧ (rnE T tn s n i < tn → srt (T (rnE T tn s n i)) ≠ s) := by
  intro n
  induction n with
  | zero =>
    intro i h1 h2
    have e : rnE T tn s 0 i = i := rfl
    exact ⟨Nat.le_refl _, h1, fun j a b => by omega, fun h => by omega⟩
  | succ n ih =>
    intro i h1 h2
    unfold rnE
    by_cases h : i < tn ∧ srt (T i) = s
    · rw [if_pos h]
      obtain ⟨a, b, c, d⟩ := ih (i + 1) (by omega) (by omega)
      refine ⟨by omega, b, fun j x y => ?_, d⟩
      by_cases e : j = i
      · rw [e]; exact h.2
      · exact c j (by omega) y
    · rw [if_neg h]
      exact ⟨Nat.le_refl _, h1, fun j x y => by omega, fun h' he => h ⟨h', he⟩⟩
theorem enO_f (h4 : tn ≤ 400) {i : Nat} (hi : i < tn) : i < enO T tn i ∧ enO T tn i ≤ tn ∧ (srt (T i) ≠ 0 → (∀ j, i ≤ j → j < enO T tn i → srt (T j) = srt (T i)) ∧ (enO T tn i < tn → srt (T (enO T tn i)) ≠ srt (T i))) ∧ (srt (T i) = 0 → enO T tn i = i + 1) := by
  unfold enO
  rw [if_neg (by omega)]
  by_cases h : srt (T i) = 0
  · rw [if_pos h]
    exact ⟨by omega, by omega, fun h' => absurd h h', fun _ => rfl⟩
  · rw [if_neg h]
    obtain ⟨a, b, c, d⟩ := rnE_f (T := T) (tn := tn) (s := srt (T i)) 400 (i + 1) (by omega) (by omega)
    refine ⟨by omega, b, fun _ => ⟨fun j x y => ?_, d⟩, fun h' => absurd h' h⟩
    by_cases e : j = i
    · rw [e]
    · exact c j (by omega) y
theorem stT_le (h4 : tn ≤ 400) : ∀ k, stT T tn k ≤ tn := by
  intro k
  induction k with
  | zero => exact (skp_f 400 0 (by omega) (by omega)).2.1
  | succ k ih =>
    show skp T tn 400 (enO T tn (stT T tn k)) ≤ tn
    have he : enO T tn (stT T tn k) ≤ tn := by
      by_cases h : stT T tn k < tn
      · exact (enO_f h4 h).2.1
      · unfold enO; rw [if_pos (by omega)]; exact ih
    exact (skp_f 400 _ he (by omega)).2.1
theorem stT_s (h4 : tn ≤ 400) (k : Nat) : teT T tn k ≤ stT T tn (k + 1) ∧ (∀ j, teT T tn k ≤ j → j < stT T tn (k + 1) → T j = 32) ∧ (stT T tn k < tn → stT T tn k < teT T tn k ∧ teT T tn k ≤ tn) ∧ (tn ≤ stT T tn k → stT T tn (k + 1) = tn) := by
  have he : enO T tn (stT T tn k) ≤ tn := by
    by_cases h : stT T tn k < tn
    · exact (enO_f h4 h).2.1
    · unfold enO; rw [if_pos (by omega)]; exact stT_le h4 k
  obtain ⟨a, b, c, d⟩ := skp_f (T := T) 400 _ he (by omega)
  refine ⟨a, c, fun h => ⟨(enO_f h4 h).1, he⟩, fun h => ?_⟩
  have e : enO T tn (stT T tn k) = stT T tn k := by unfold enO; rw [if_pos h]
  have b : stT T tn (k + 1) ≤ tn := b
  have a : enO T tn (stT T tn k) ≤ stT T tn (k + 1) := a
  omega
theorem stT_nb (h4 : tn ≤ 400) (k : Nat) (h : stT T tn k < tn) : T (stT T tn k) ≠ 32 := by
  cases k with
  | zero => exact (skp_f 400 0 (by omega) (by omega)).2.2.2 h
  | succ k =>
    have he : enO T tn (stT T tn k) ≤ tn := by
      by_cases h : stT T tn k < tn
      · exact (enO_f h4 h).2.1
      · unfold enO; rw [if_pos (by omega)]; exact stT_le h4 k
    exact (skp_f (T := T) 400 _ he (by omega)).2.2.2 h
theorem stT_k (h4 : tn ≤ 400) : ∀ k, (stT T tn k < tn → k ≤ stT T tn k) := by
  intro k
  induction k with
  | zero => intro _; omega
  | succ k ih =>
    intro h
    obtain ⟨a, b, c, d⟩ := stT_s (T := T) h4 k
    by_cases h' : stT T tn k < tn
    · have := ih h'
      have := c h'
      omega
    · have := d (by omega); omega
theorem tcF_f (h4 : tn ≤ 400) : ∀ n k, tn ≤ k + n → (∀ j, j < k → stT T tn j < tn) → tn ≤ stT T tn (tcF T tn n k) ∧ (∀ j, j < tcF T tn n k → stT T tn j < tn) := by
  intro n
  induction n with
  | zero =>
    intro k h1 h2
    refine ⟨?_, h2⟩
    show tn ≤ stT T tn k
    apply Classical.byContradiction
    intro h
    have := stT_k (T := T) h4 k (by omega)
    omega
  | succ n ih =>
    intro k h1 h2
    unfold tcF
    by_cases h : tn ≤ stT T tn k
    · rw [if_pos h]; exact ⟨h, h2⟩
    · rw [if_neg h]
      refine ih (k + 1) (by omega) (fun j hj => ?_)
      by_cases e : j = k
      · rw [e]; omega
      · exact h2 j (by omega)
theorem tcT_f (h4 : tn ≤ 400) : stT T tn (tcT T tn) = tn ∧ (∀ j, j < tcT T tn → stT T tn j < tn) ∧ tcT T tn ≤ tn := by
  obtain ⟨a, b⟩ := tcF_f (T := T) h4 400 0 (by omega) (fun j hj => absurd hj (by omega))
  have l := stT_le (T := T) h4 (tcT T tn)
  refine ⟨Nat.le_antisymm l a, b, ?_⟩
  by_cases h0 : tcT T tn = 0
  · omega
  · have h1 := b (tcT T tn - 1) (by have : tcT T tn = tcF T tn 400 0 := rfl; omega)
    have h2 := stT_k (T := T) h4 (tcT T tn - 1) h1
    omega
theorem stT_tc (h4 : tn ≤ 400) : ∀ k, tcT T tn ≤ k → stT T tn k = tn := by
  intro k
  induction k with
  | zero =>
    intro h
    have : tcT T tn = 0 := by omega
    rw [← this]; exact (tcT_f h4).1
  | succ k ih =>
    intro h
    by_cases e : tcT T tn = k + 1
    · rw [← e]; exact (tcT_f h4).1
    · exact (stT_s h4 k).2.2.2 (by rw [ih (by omega)]; omega)
theorem nmF_le {s l : Nat} : ∀ n i, i + n = 27 → nmF T s l n i = 99 ∨ nmF T s l n i < 27 := by
  intro n
  induction n with
  | zero => intro i _; exact .inl rfl
  | succ n ih =>
    intro i hi
    unfold nmF
    split
    · right; omega
    · exact ih (i + 1) (by omega)
theorem nmF_y {s l : Nat} : ∀ n i, i + n = 27 → ∀ r, nmF T s l n i = r → r < 27 → eqW T s r l := by
  intro n
  induction n with
  | zero => intro i _ r h hr; have : (99 : Nat) = r := h; omega
  | succ n ih =>
    intro i hi r h hr
    unfold nmF at h
    split at h
    · rename_i he; rw [← h]; exact eqB_e.mp he
    · exact ih (i + 1) (by omega) r h hr
theorem nmF_n {s l : Nat} : ∀ n i, i + n = 27 → nmF T s l n i = 99 → ∀ r, i ≤ r → r < 27 → ¬ eqW T s r l := by
  intro n
  induction n with
  | zero => intro i hi _ r h1 h2; omega
  | succ n ih =>
    intro i hi h r h1 h2
    unfold nmF at h
    split at h
    · omega
    · rename_i he
      by_cases e : r = i
      · rw [e]; exact fun hw => he (eqB_e.mpr hw)
      · exact ih (i + 1) (by omega) h r (by omega) h2
theorem nvC_le {s : Nat} : ∀ j, nvC T s j ≤ 1001 := by
  intro j
  cases j with
  | zero => show (0 : Nat) ≤ 1001; omega
  | succ j => show min _ 1001 ≤ 1001; omega
theorem TkA_T (h4 : tn ≤ 400) (hT : ∀ i, i < tn → T i ≤ 255) : TkA (tkT T tn) (stT T tn) (tvT T tn) (tcT T tn) := by
  refine ⟨by have := (tcT_f (T := T) h4).2.2; omega, fun i hi => ?_, fun i => ⟨?_, ?_, ?_⟩⟩
  · unfold tkT; rw [stT_tc h4 i hi, if_pos (Nat.le_refl _)]
  · unfold tkT
    by_cases h : tn ≤ stT T tn i
    · rw [if_pos h]; omega
    · rw [if_neg h]
      have := hT (stT T tn i) (by omega)
      by_cases h0 : srt (T (stT T tn i)) = 0
      · rw [if_pos h0]; omega
      · rw [if_neg h0]
        by_cases h2 : srt (T (stT T tn i)) = 2
        · rw [if_pos h2]; omega
        · rw [if_neg h2]
          rcases nmF_le (T := T) (s := stT T tn i) (l := teT T tn i - stT T tn i) 27 0 rfl with h | h <;> omega
  · unfold tvT
    split
    · omega
    · split
      · exact nvC_le _
      · omega
  · have := stT_le (T := T) h4 i; omega
end
