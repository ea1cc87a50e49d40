/-! The reference's reader: its state, its smallest steps. -/
def wcL : List Int64 := [254064787, 7945971, 146611, 67155, 19758, 7939524, 646192, 3554952, 525939, 294, 21279923, 486, 763528, 498, 1476, 14836, 542723566, 370116, 632275, 20225300, 12596, 6605428, 4153, 441828, 146885, 404362868, 20026821]
def wcd (t : Nat) : Int64 := wcL.getD t 0
def TokW (t v : Nat) (so : Int32) (w : Int64) : Prop :=
  (t = 51 ∧ so = 0) ∨ (t < 27 ∧ so = 1 ∧ w = wcd t) ∨ (t = 99 ∧ so = 1 ∧ ∀ i, i < 27 → w ≠ wcd i) ∨ (t = 50 ∧ so = 2 ∧ 0 ≤ w.toInt ∧ ((v ≤ 1000 ∧ w = lN v) ∨ (v = 1001 ∧ 1000 < w.toInt))) ∨ (100 ≤ t ∧ t < 356 ∧ so = 3 ∧ w = lN (t - 100))
/-- what next changes -/
def FrN (S S' : St) : Prop := S'.2.2 = S.2.2 ∧ (∀ i, i ≠ 87 → S'.1 i = S.1 i ∧ S'.2.1 i = S.2.1 i) ∧ (∀ j, j ≠ 15 → j ≠ 16 → j ≠ 17 → S'.1 87 j = S.1 87 j) ∧ (∀ j, j ≠ 18 → S'.2.1 87 j = S.2.1 87 j)
/-- what reading an expression changes -/
def FrE (B S : St) : Prop := S.2.2 = B.2.2 ∧ (∀ i, i ≠ 87 → i ≠ 99 → i ≠ 100 → i ≠ 101 → i ≠ 102 → S.1 i = B.1 i) ∧ (∀ i, i ≠ 87 → S.2.1 i = B.2.1 i) ∧ (∀ j, j ≠ 15 → j ≠ 16 → j ≠ 17 → j ≠ 19 → j ≠ 20 → j ≠ 24 → j ≠ 27 → j ≠ 30 → j ≠ 31 → S.1 87 j = B.1 87 j) ∧ (∀ j, j ≠ 18 → S.2.1 87 j = B.2.1 87 j)
theorem FrE.refl (B : St) : FrE B B := ⟨rfl, fun _ _ _ _ _ _ => rfl, fun _ _ => rfl, fun _ _ _ _ _ _ _ _ _ _ => rfl, fun _ _ => rfl⟩
theorem FrE.trans {B S S' : St} (h : FrE B S) (h' : FrE S S') : FrE B S' :=
  ⟨h'.1.trans h.1, fun i a b c d e => (h'.2.1 i a b c d e).trans (h.2.1 i a b c d e), fun i a => (h'.2.2.1 i a).trans (h.2.2.1 i a), fun j a b c d e f g i k => (h'.2.2.2.1 j a b c d e f g i k).trans (h.2.2.2.1 j a b c d e f g i k), fun j a => (h'.2.2.2.2 j a).trans (h.2.2.2.2 j a)⟩
theorem FrN.toE {S S' : St} (h : FrN S S') : FrE S S' := ⟨h.1, fun i a _ _ _ _ => (h.2.1 i a).1, fun i a => (h.2.1 i a).2, fun j a b c _ _ _ _ _ _ => h.2.2.1 j a b c, h.2.2.2⟩
theorem FrE.u87 {B S : St} {j : Nat} {v : Int32} (h : FrE B S) (hj : j = 15 ∨ j = 16 ∨ j = 17 ∨ j = 19 ∨ j = 20 ∨ j = 24 ∨ j = 27 ∨ j = 30 ∨ j = 31) : FrE B (uI S 87 j v) :=
  h.trans ⟨rfl, fun i a _ _ _ _ => uI_n _ _ _ _ a, fun _ _ => rfl, fun i a b c d e f g k l => uI_p _ _ _ _ (by omega), fun _ _ => rfl⟩
theorem FrE.ua {B S : St} {i j : Nat} {v : Int32} (h : FrE B S) (hi : i = 99 ∨ i = 100 ∨ i = 101 ∨ i = 102) : FrE B (uI S i j v) :=
  h.trans ⟨rfl, fun k a b c d e => uI_n _ _ _ _ (by omega), fun _ _ => rfl, fun k _ _ _ _ _ _ _ _ _ => by rw [uI_n _ _ _ _ (by omega)], fun _ _ => rfl⟩
def po (o : Nat) : Nat := if o = 11 then 30 else if o = 12 then 29 else o + 18
def bn (o : Nat) : Nat := if 13 ≤ o then 0 else if o = 11 then 1 else if o = 12 then 2 else if o = 10 then 3 else if 7 ≤ o then 4 else if 4 ≤ o then 6 else 5
/-- how many of a pile will be emitted, how many are brackets -/
def emN : List (Nat × Nat) → Nat
  | [] => 0
  | x :: l => (if x.1 ≤ 10 then 1 else 0) + emN l
def brk : List (Nat × Nat) → Nat
  | [] => 0
  | x :: l => (if 13 ≤ x.1 then 1 else 0) + brk l
theorem emN_app (l m : List (Nat × Nat)) : emN (l ++ m) = emN l + emN m := by
  induction l with
  | nil => simp [emN]
  | cons x l ih => simp only [List.cons_append, emN, ih]; omega
theorem brk_app (l m : List (Nat × Nat)) : brk (l ++ m) = brk l + brk m := by
  induction l with
  | nil => simp [brk]
  | cons x l ih => simp only [List.cons_append, brk, ih]; omega
theorem emN_le (l : List (Nat × Nat)) : emN l ≤ l.length := by
  induction l with
  | nil => exact Nat.le_refl _
  | cons x l ih => simp only [emN, List.length_cons]; split <;> omega
def PlR (S : St) (pl : List (Nat × Nat)) : Prop := S.1 87 30 = nI pl.length ∧ ∀ i x, pl[i]? = some x → S.1 101 i = nI (po x.1) ∧ S.1 102 i = nI x.2
/-- a pile as it must be: operators, the places of those that leap -/
def PlW (N : Nat) (pl : List (Nat × Nat)) : Prop := ∀ x, x ∈ pl → 2 ≤ x.1 ∧ x.1 ≤ 14 ∧ (x.1 = 11 ∨ x.1 = 12 → x.2 < N)
def CdR (S : St) (od : Bool) (N : Nat) (c : Cd) : Prop := ∀ i, i < N → S.1 99 i = nI (opR od (c i)) ∧ S.1 100 i = nI (agR od (c i))
def RT (tk ts te tv : Nat → Nat) (k : Nat) (S : St) : Prop := S.1 87 15 = nI (ts k) ∧ S.1 87 16 = nI (te k) ∧ TokW (tk k) (tv k) (S.1 87 17) (S.2.1 87 18)
def EnvR (G : Gm) (B : St) (tk ts te tv : Nat → Nat) (tc : Nat) (od : Bool) : Prop :=
  ShR G B.2.2 ∧ TkA tk ts tv tc ∧ B.1 87 21 = (if od = true then 1 else 0) ∧ CoR B ∧
  ∀ (S : St) (k : Nat) (K : St → Prop), FrE B S → k < tc → RT tk ts te tv k S → (∀ S', RT tk ts te tv (k + 1) S' → FrN S S' → K S') → f_X11_next G 87 K S
def RSt (B : St) (tk ts te tv : Nat → Nat) (od : Bool) (k p N : Nat) (c : Cd) (pl : List (Nat × Nat)) (S : St) : Prop :=
  FrE B S ∧ RT tk ts te tv k S ∧ S.1 87 19 = -1 ∧ S.1 87 20 = 0 ∧ S.1 87 24 = nI N ∧ S.1 87 27 = nI p ∧ CdR S od N c ∧ PlR S pl ∧ S.1 87 31 = nI (brk pl) ∧ PlW N pl ∧ pl.length ≤ k ∧ N + emN pl ≤ k
def RBd (B : St) (x : Nat) (S : St) : Prop := FrE B S ∧ S.1 87 19 = nI x ∧ S.1 87 20 = 1 ∧ ∃ N pl, S.1 87 24 = nI N ∧ PlR S pl ∧ PlW N pl ∧ pl.length ≤ 400 ∧ N + emN pl ≤ 400
def REn (B : St) (x : Nat) (S : St) : Prop := FrE B S ∧ S.1 87 19 = nI x ∧ S.1 87 20 = 1 ∧ ∃ N, S.1 87 24 = nI N ∧ N ≤ 400
section
variable {G : Gm} {B S S' : St} {tk ts te tv : Nat → Nat} {tc : Nat} {od : Bool} {Q : Int32 → St → Prop} {K : St → Prop} {k p N : Nat} {c : Cd} {pl : List (Nat × Nat)}
theorem PlR.ag (h : PlR S pl) (h1 : S'.1 87 30 = S.1 87 30) (h2 : S'.1 101 = S.1 101) (h3 : S'.1 102 = S.1 102) : PlR S' pl := by
  unfold PlR; rw [h1, h2, h3]; exact h
theorem CdR.ag (h : CdR S od N c) (h1 : S'.1 99 = S.1 99) (h2 : S'.1 100 = S.1 100) : CdR S' od N c := by
  unfold CdR; rw [h1, h2]; exact h
theorem RSt.nx (h : RSt B tk ts te tv od k p N c pl S) (ht : RT tk ts te tv (k + 1) S') (f : FrN S S') : RSt B tk ts te tv od (k + 1) p N c pl S' := by
  obtain ⟨h1, h2, h3, h4, h5, h6, h7, h8, h9, h10, h11, h12⟩ := h
  refine ⟨h1.trans f.toE, ht, ?_, ?_, ?_, ?_, h7.ag (f.2.1 99 (by omega)).1 (f.2.1 100 (by omega)).1, h8.ag (f.2.2.1 30 (by omega) (by omega) (by omega)) (f.2.1 101 (by omega)).1 (f.2.1 102 (by omega)).1, ?_, h10, by omega, by omega⟩
  · rw [f.2.2.1 19 (by omega) (by omega) (by omega)]; exact h3
  · rw [f.2.2.1 20 (by omega) (by omega) (by omega)]; exact h4
  · rw [f.2.2.1 24 (by omega) (by omega) (by omega)]; exact h5
  · rw [f.2.2.1 27 (by omega) (by omega) (by omega)]; exact h6
  · rw [f.2.2.1 31 (by omega) (by omega) (by omega)]; exact h9
theorem m_next (hE : EnvR G B tk ts te tv tc od) (h : RSt B tk ts te tv od k p N c pl S) (hk : k < tc) (z : ∀ S', RSt B tk ts te tv od (k + 1) p N c pl S' → K S') : f_X11_next G 87 K S :=
  hE.2.2.2.2 S k K h.1 hk h.2.1 (fun S' h' f => z S' (h.nx h' f))
theorem RSt.sh (hE : EnvR G B tk ts te tv tc od) (h : RSt B tk ts te tv od k p N c pl S) : ShR G S.2.2 := by rw [h.1.1]; exact hE.1
theorem m_must_y (hE : EnvR G B tk ts te tv tc od) (h : RSt B tk ts te tv od k p N c pl S) (hk : k < tc) (z : ∀ S', RSt B tk ts te tv od (k + 1) p N c pl S' → K S') : f_X11_must G 87 1 K S :=
  ite_y h.2.2.2.1 (ite_n (by decide) (ite_y h.2.2.2.1 (m_next hE h hk z)))
theorem RSt.bd (hE : EnvR G B tk ts te tv tc od) (h : RSt B tk ts te tv od k p N c pl S) (hk : k ≤ tc) : RBd B (ts k) (uI (uI S 87 20 1) 87 19 (S.1 87 15)) := by
  have t4 := hE.2.1.1
  obtain ⟨h1, h2, h3, h4, h5, h6, h7, h8, h9, h10, h11, h12⟩ := h
  refine ⟨(h1.u87 (by omega)).u87 (by omega), ?_, ?_, N, pl, ?_, h8.ag ?_ ?_ ?_, h10, by omega, by omega⟩
  · rw [uI_s, if_pos rfl]; exact h2.1
  · rw [uI_s, if_neg (by omega), uI_s, if_pos rfl]
  · rw [uI_s, if_neg (by omega), uI_s, if_neg (by omega)]; exact h5
  · rw [uI_s, if_neg (by omega), uI_s, if_neg (by omega)]
  · rw [uI_n _ _ _ _ (by omega), uI_n _ _ _ _ (by omega)]
  · rw [uI_n _ _ _ _ (by omega), uI_n _ _ _ _ (by omega)]
theorem m_must_n (hE : EnvR G B tk ts te tv tc od) (h : RSt B tk ts te tv od k p N c pl S) (hk : k ≤ tc) (z : ∀ S', RBd B (ts k) S' → S'.1 87 20 = 1 → K S') : f_X11_must G 87 0 K S := by
  refine ite_y h.2.2.2.1 (ite_y rfl (nm_e (nm_e (ite_n ?_ (z _ ?_ ?_)))))
  · rw [uI_s, if_neg (by omega), uI_s, if_pos rfl]; decide
  · have := h.bd hE hk
    rw [show (uI S 87 20 1).1 87 15 = S.1 87 15 from by rw [uI_s, if_neg (by omega)]]
    exact this
  · rw [uI_s, if_neg (by omega), uI_s, if_pos rfl]
/-- what stands here -/
theorem m_sign {t : Nat} (h : RSt B tk ts te tv od k p N c pl S) (ht : t < 256) (y : tk k = 100 + t → Q 1 S) (n : ¬ tk k = 100 + t → Q 0 S) : f_X11_isSign G 87 (nI t) Q S := by
  unfold f_X11_isSign
  have hw := h.2.1.2.2
  refine ite_c (fun d => ?_) (fun d => n (fun e => d ?_))
  · rcases hw with ⟨h1, h2⟩ | ⟨h1, h2, _⟩ | ⟨h1, h2, _⟩ | ⟨h1, h2, _⟩ | ⟨h1, h2, h3, h4⟩
    · rw [h2] at d; exact absurd d (by decide)
    · rw [h2] at d; exact absurd d (by decide)
    · rw [h2] at d; exact absurd d (by decide)
    · rw [h2] at d; exact absurd d (by decide)
    · rw [h4, nI_l (by omega)]
      refine ite_c (fun e => y ?_) (fun e => n ?_)
      · rw [cmp_eq, ← Int64.toInt_inj, lN_toInt (by omega), lN_toInt (by omega)] at e; omega
      · intro e'
        apply e
        rw [cmp_eq, e', show 100 + t - 100 = t from by omega]
  · rcases hw with ⟨h1, h2⟩ | ⟨h1, h2, _⟩ | ⟨h1, h2, _⟩ | ⟨h1, h2, _⟩ | ⟨h1, h2, h3, h4⟩
    · omega
    · omega
    · omega
    · omega
    · exact h3
theorem wcd_inj {i j : Nat} (hi : i < 27) (hj : j < 27) (h : wcd i = wcd j) : i = j := by
  have ht : ((List.range 27).all fun i => (List.range 27).all fun j => decide (wcd i = wcd j → i = j)) = true := by decide +kernel
  have h1 := List.all_eq_true.mp (List.all_eq_true.mp ht i (List.mem_range.mpr hi)) j (List.mem_range.mpr hj)
  exact of_decide_eq_true h1 h
theorem m_word {t : Nat} (h : RSt B tk ts te tv od k p N c pl S) (ht : t < 27) (y : tk k = t → Q 1 S) (n : ¬ tk k = t → Q 0 S) : f_X11_isWord G 87 (wcd t) Q S := by
  unfold f_X11_isWord
  have hw := h.2.1.2.2
  refine ite_c (fun d => ?_) (fun d => n (fun e => d ?_))
  · rcases hw with ⟨h1, h2⟩ | ⟨h1, h2, h3⟩ | ⟨h1, h2, h3⟩ | ⟨h1, h2, _⟩ | ⟨h1, h2, h3, h4⟩
    · rw [h2] at d; exact absurd d (by decide)
    · refine ite_c (fun e => y ?_) (fun e => n ?_)
      · rw [cmp_eq, h3] at e; exact wcd_inj h1 ht e
      · intro e'; apply e; rw [cmp_eq, h3, e']
    · refine ite_c (fun e => ?_) (fun e => n (by omega))
      rw [cmp_eq] at e; exact absurd e (h3 t ht)
    · rw [h2] at d; exact absurd d (by decide)
    · rw [h3] at d; exact absurd d (by decide)
  · rcases hw with ⟨h1, h2⟩ | ⟨h1, h2, h3⟩ | ⟨h1, h2, h3⟩ | ⟨h1, h2, _⟩ | ⟨h1, h2, h3, h4⟩
    · omega
    · exact h2
    · omega
    · omega
    · omega
/-- push and emit -/
theorem getE_app {α : Type} {l : List α} {x y : α} {i : Nat} (h : (l ++ [x])[i]? = some y) : (i = l.length ∧ y = x) ∨ (i < l.length ∧ l[i]? = some y) := by
  rcases Nat.lt_trichotomy i l.length with h1 | h1 | h1
  · right
    rw [List.getElem?_append_left h1] at h
    exact ⟨h1, h⟩
  · left
    subst h1
    simp at h
    exact ⟨rfl, h.symm⟩
  · rw [List.getElem?_eq_none (by simp; omega)] at h
    cases h
theorem m_push {o x : Nat} (hE : EnvR G B tk ts te tv tc od) (h : RSt B tk ts te tv od k p N c pl S) (hk : pl.length < 400) (ho : 2 ≤ o ∧ o ≤ 14) (z : ∀ S', FrE B S' → RT tk ts te tv k S' → S'.1 87 19 = -1 → S'.1 87 20 = 0 → S'.1 87 24 = nI N → S'.1 87 27 = nI p → CdR S' od N c → PlR S' (pl ++ [(o, x)]) → S'.1 87 31 = nI (brk pl) → K S') : f_X11_push G 87 (nI (po o)) (nI x) K S := by
  have hS := h.sh hE
  obtain ⟨h1, h2, h3, h4, h5, h6, h7, h8, h9, h10, h11, h12⟩ := h
  unfold f_X11_push
  refine ex_y hS.pile ?_
  rw [h8.1, hS.pile_l, in_iff (by omega), clI (by omega)]
  refine ⟨by omega, nm_e (ex_y (by exact hS.pileAt) ?_)⟩
  rw [uI_n _ _ _ _ (by omega), h8.1, hS.pileAt_l, in_iff (by omega), clI (by omega)]
  refine ⟨by omega, nm_e (nm_e ?_)⟩
  rw [uI_n _ _ _ _ (by omega), uI_n _ _ _ _ (by omega), h8.1]
  refine z _ (((h1.ua (by omega)).ua (by omega)).u87 (by omega)) ⟨?_, ?_, ?_⟩ ?_ ?_ ?_ ?_ (h7.ag ?_ ?_) ⟨?_, ?_⟩ ?_
  · rw [uI_s, if_neg (by omega), uI_n _ _ _ _ (by omega), uI_n _ _ _ _ (by omega)]; exact h2.1
  · rw [uI_s, if_neg (by omega), uI_n _ _ _ _ (by omega), uI_n _ _ _ _ (by omega)]; exact h2.2.1
  · rw [uI_s, if_neg (by omega), uI_n _ _ _ _ (by omega), uI_n _ _ _ _ (by omega)]; exact h2.2.2
  · rw [uI_s, if_neg (by omega), uI_n _ _ _ _ (by omega), uI_n _ _ _ _ (by omega)]; exact h3
  · rw [uI_s, if_neg (by omega), uI_n _ _ _ _ (by omega), uI_n _ _ _ _ (by omega)]; exact h4
  · rw [uI_s, if_neg (by omega), uI_n _ _ _ _ (by omega), uI_n _ _ _ _ (by omega)]; exact h5
  · rw [uI_s, if_neg (by omega), uI_n _ _ _ _ (by omega), uI_n _ _ _ _ (by omega)]; exact h6
  · rw [uI_n _ _ _ _ (by omega), uI_n _ _ _ _ (by omega), uI_n _ _ _ _ (by omega)]
  · rw [uI_n _ _ _ _ (by omega), uI_n _ _ _ _ (by omega), uI_n _ _ _ _ (by omega)]
  · rw [uI_s, if_pos rfl, nI_1]; simp
  · intro i y hy
    have r1 : (uI (uI (uI S 101 pl.length (nI (po o))) 102 pl.length (nI x)) 87 30 (nI pl.length + 1)).1 101 i = if i = pl.length then nI (po o) else S.1 101 i := by
      rw [uI_n _ 87 _ _ (by omega), uI_n _ 102 _ _ (by omega), uI_s]
    have r2 : (uI (uI (uI S 101 pl.length (nI (po o))) 102 pl.length (nI x)) 87 30 (nI pl.length + 1)).1 102 i = if i = pl.length then nI x else S.1 102 i := by
      rw [uI_n _ 87 _ _ (by omega), uI_s, uI_n _ 101 _ _ (by omega)]
    rw [r1, r2]
    rcases getE_app hy with ⟨e1, e2⟩ | ⟨e1, e2⟩
    · rw [if_pos e1, if_pos e1, e2]
      exact ⟨rfl, rfl⟩
    · rw [if_neg (by omega), if_neg (by omega)]
      exact h8.2 i y e2
  · rw [uI_s, if_neg (by omega), uI_n _ _ _ _ (by omega), uI_n _ _ _ _ (by omega)]; exact h9
end
