/-! The reference reads a part. -/
def UU (od : Bool) (w : Nat) : Prop := w < (if od = true then 22 else 9)
def RSim (G : Gm) (B : St) (tk ts te tv : Nat → Nat) (tc : Nat) (od : Bool) (v1 : Int32) (K : St → Prop) (L t hb nb : Nat) (Go : Nat → St → Prop) (Tout : Int32) (cout : Nat) (cx : List (Nat × Nat) → Prop) (st : Nat → Prop) (g : Nat → Nat → Ex) : Prop :=
  ∀ (P : List (Nat × Nat)) (k p N : Nat) (c : Cd) (S : St), k ≤ tc → p ≤ 50 → stopL P L → brk P + nb = 8 → cx P → RSt B tk ts te tv od k p N c P S →
   (∀ k' p' F, g k p = .inr (k', p', F) → ∀ S' N' c' ps h, RSt B tk ts te tv od k' p' N' c' (P ++ ps) S' → Rep c' (UU od) N' ps t N h F → h ≤ hb → (∀ x, x ∈ ps → L ≤ bn x.1) → (∀ j, j < N → c' j = c j) → st (tk k') → El G v1 K tc cout Tout k' S') →
   (∀ x, g k p = .inl x → ∀ S', REn B (ts x) S' → K S') → Go k S
def GoP (G : Gm) (v1 : Int32) (K : St → Prop) (tc k : Nat) (S : St) : Prop := ∀ n', 3 * (tc - k) + 1 ≤ n' → f_X11_readPart G 87 (fun r S' => f_X11_readExpression_20_n G 87 v1 K n' r S') S
/-- the last of some words that stands here -/
def acF (pw : List Nat) (val : Nat → Int32) (t : Nat) : Nat → Int32
  | 0 => -1
  | j + 1 => if t = pw.getD j 0 then val j else acF pw val t j
def pwL : List Nat := [16, 17, 4, 18, 19, 20, 21, 22, 23]
def pwO : List Nat := [22, 24, 25, 26, 18, 19, 2]
def orR (t : Nat) : Nat := if orW t = 11 then 6 else if orW t = 17 then 7 else orW t
def wdR (od : Bool) (t : Nat) : Nat := if od = true then orR t else lwW t
def itI (n : Nat) : Int32 := if n = 0 then -1 else nI n
set_option maxRecDepth 100000 in
theorem pwL_t {t : Nat} (ht : t < 400) : acF pwL (fun j => nI (j + 1)) t 9 = itI (lwW t) := all_dec (P := fun t => acF pwL (fun j => nI (j + 1)) t 9 = itI (lwW t)) (by decide +kernel) ht
set_option maxRecDepth 100000 in
theorem pwO_t {t : Nat} (ht : t < 400) : acF pwO (fun j => nI (j + 1)) t 7 = itI (orR t) := all_dec (P := fun t => acF pwO (fun j => nI (j + 1)) t 7 = itI (orR t)) (by decide +kernel) ht
section
variable {G : Gm} {B S S' : St} {tk ts te tv : Nat → Nat} {tc : Nat} {od : Bool} {Q : Int32 → St → Prop} {K : St → Prop} {k p N : Nat} {c : Cd} {pl : List (Nat × Nat)} {v1 : Int32}
theorem FrE.co (h : FrE B S) (hB : CoR B) : CoR S := by
  unfold CoR; rw [h.2.2.1 103 (by omega), h.2.2.1 104 (by omega), h.2.2.1 105 (by omega), h.2.2.1 118 (by omega)]; exact hB
theorem wdW_c : ∀ j, j < 9 → wdW.getD j 0 = wcd (pwL.getD j 0) ∧ pwL.getD j 0 < 27 := fun j hj => all_dec (N := 9) (P := fun j => wdW.getD j 0 = wcd (pwL.getD j 0) ∧ pwL.getD j 0 < 27) (by decide +kernel) hj
theorem wdO_c : ∀ j, j < 7 → wdO.getD j 0 = wcd (pwO.getD j 0) ∧ pwO.getD j 0 < 27 := fun j hj => all_dec (N := 7) (P := fun j => wdO.getD j 0 = wcd (pwO.getD j 0) ∧ pwO.getD j 0 < 27) (by decide +kernel) hj
theorem m_partAt (hE : EnvR G B tk ts te tv tc od) (h : RSt B tk ts te tv od k p N c pl S) (z : Q (itI (lwW (tk k))) S) : f_X11_partAt G 87 Q S := by
  have hS := h.sh hE
  have hc := h.1.co hE.2.2.2.1
  have main : ∀ n j, j + n = 9 → f_X11_partAt_4_n G 87 Q (n + 1) (acF pwL (fun j => nI (j + 1)) (tk k) j) (nI j) S := by
    intro n
    induction n with
    | zero =>
      intro j hj
      rw [f_X11_partAt_4_n]
      refine ite_y (by simp (disch := omega) only [lit, nI_add, pk_mul, leI, ltI, eqI]; omega) ?_
      rw [show j = 9 from by omega, pwL_t (hE.2.1.2.2 k).1]; exact z
    | succ n ih =>
      intro j hj
      have w := ih (j + 1) (by omega)
      rw [f_X11_partAt_4_n]
      obtain ⟨c1, c2⟩ := wdW_c j (by omega)
      refine ite_n (by simp (disch := omega) only [lit, nI_add, pk_mul, leI, ltI, eqI]; omega) (ex_y hS.words ?_)
      rw [hS.words_l, in_iff (by omega), clI (by omega), hc.1 j (by omega), c1, nI_1]
      unfold acF at w
      refine ⟨by omega, m_word h c2 (fun e => ?_) (fun e => ?_)⟩
      · rw [if_pos e] at w; exact ite_n (by decide) (nm_e w)
      · rw [if_neg e] at w; exact ite_y rfl w
  exact ⟨10, main 9 0 rfl⟩
theorem m_orderPartAt (hE : EnvR G B tk ts te tv tc od) (h : RSt B tk ts te tv od k p N c pl S) (z : Q (itI (orR (tk k))) S) : f_X11_orderPartAt G 87 Q S := by
  have hS := h.sh hE
  have hc := h.1.co hE.2.2.2.1
  have main : ∀ n j, j + n = 7 → f_X11_orderPartAt_4_n G 87 Q (n + 1) (acF pwO (fun j => nI (j + 1)) (tk k) j) (nI j) S := by
    intro n
    induction n with
    | zero =>
      intro j hj
      rw [f_X11_orderPartAt_4_n]
      refine ite_y (by simp (disch := omega) only [lit, nI_add, pk_mul, leI, ltI, eqI]; omega) ?_
      rw [show j = 7 from by omega, pwO_t (hE.2.1.2.2 k).1]; exact z
    | succ n ih =>
      intro j hj
      have w := ih (j + 1) (by omega)
      rw [f_X11_orderPartAt_4_n]
      obtain ⟨c1, c2⟩ := wdO_c j (by omega)
      refine ite_n (by simp (disch := omega) only [lit, nI_add, pk_mul, leI, ltI, eqI]; omega) (ex_y hS.orderWords ?_)
      rw [hS.orderWords_l, in_iff (by omega), clI (by omega), hc.2.1 j (by omega), c1, nI_1]
      unfold acF at w
      refine ⟨by omega, m_word h c2 (fun e => ?_) (fun e => ?_)⟩
      · rw [if_pos e] at w; exact ite_n (by decide) (nm_e w)
      · rw [if_neg e] at w; exact ite_y rfl w
  exact ⟨8, main 7 0 rfl⟩
theorem RSt.ord (hE : EnvR G B tk ts te tv tc od) (h : RSt B tk ts te tv od k p N c pl S) : S.1 87 21 = (if od = true then 1 else 0) := (h.1.2.2.2.1 21 (by omega) (by omega) (by omega) (by omega) (by omega) (by omega) (by omega) (by omega) (by omega)).trans hE.2.2.1
theorem m_leafN {u v2 v3 : Int32} (hE : EnvR G B tk ts te tv tc od) (h : RSt B tk ts te tv od k p N c pl S) (hk : k ≤ tc) (hp : p ≤ 50) (hu : u = 0 ∨ 50 ≤ p) (z : ∀ S', RBd B (ts k) S' → K S') : f_X11_leaf G 87 u v2 v3 K S := by
  have go : f_X11_leaf_18 G 87 v2 v3 87 K S := m_must_n hE h hk (fun S' hB h20 => ite_n (by rw [h20]; decide) (z S' hB))
  unfold f_X11_leaf
  rcases hu with hu | hu
  · exact ite_y hu go
  · refine ite_c (fun _ => go) (fun _ => ite_y ?_ go)
    rw [h.2.2.2.2.2.1, lit, leI (by omega) (by omega)]; exact hu
theorem RSt.lf (h : RSt B tk ts te tv od k p N c pl S) : RSt B tk ts te tv od k (p + 1) N c pl (uI S 87 27 (S.1 87 27 + 1)) := by
  obtain ⟨h1, ⟨g1, g2, g3⟩, h3, h4, h5, h6, h7, h8, h9, h10, h11, h12⟩ := h
  refine ⟨h1.u87 (by omega), ⟨?_, ?_, ?_⟩, ?_, ?_, ?_, ?_, h7.ag (uI_n _ _ _ _ (by omega)) (uI_n _ _ _ _ (by omega)), h8.ag (uI_p _ _ _ _ (by omega)) (uI_n _ _ _ _ (by omega)) (uI_n _ _ _ _ (by omega)), ?_, h10, h11, h12⟩
  · rw [uI_p _ _ _ _ (by omega)]; exact g1
  · rw [uI_p _ _ _ _ (by omega)]; exact g2
  · rw [uI_p _ _ _ _ (by omega)]; exact g3
  · rw [uI_p _ _ _ _ (by omega)]; exact h3
  · rw [uI_p _ _ _ _ (by omega)]; exact h4
  · rw [uI_p _ _ _ _ (by omega)]; exact h5
  · rw [uI_s, if_pos rfl, h6, nI_1]
  · rw [uI_p _ _ _ _ (by omega)]; exact h9
theorem m_leafY {o x : Nat} {u v2 v3 : Int32} (hE : EnvR G B tk ts te tv tc od) (h : RSt B tk ts te tv od k p N c pl S) (hk : k < tc) (hp : p < 50) (hu : ¬ u = 0) (e1 : v2 = nI (opR od (o, x))) (e2 : v3 = nI (agR od (o, x))) (z : ∀ S', RSt B tk ts te tv od (k + 1) (p + 1) (N + 1) (updC c N (o, x)) pl S' → K S') : f_X11_leaf G 87 u v2 v3 K S := by
  have t4 := hE.2.1.1
  have em := h.2.2.2.2.2.2.2.2.2.2.2
  unfold f_X11_leaf
  refine ite_n hu (ite_n (by rw [h.2.2.2.2.2.1, lit, leI (by omega) (by omega)]; omega) (m_must_y hE h hk (fun S1 h1 => ite_y h1.2.2.2.1 ?_)))
  exact m_emit hE h1 (by omega) (by omega) e1 e2 (fun S2 h2 => nm_e (z _ h2.lf))
theorem tok50 {t v : Nat} {so : Int32} {w : Int64} (h : TokW t v so w) : so = 2 ↔ t = 50 := by
  rcases h with ⟨h1, h2⟩ | ⟨h1, h2, _⟩ | ⟨h1, h2, _⟩ | ⟨h1, h2, _⟩ | ⟨h1, h2, h3, _⟩
  · rw [h2]; exact ⟨fun h => absurd h (by decide), fun h => by omega⟩
  · rw [h2]; exact ⟨fun h => absurd h (by decide), fun h => by omega⟩
  · rw [h2]; exact ⟨fun h => absurd h (by decide), fun h => by omega⟩
  · exact ⟨fun _ => h1, fun _ => h2⟩
  · rw [h3]; exact ⟨fun h => absurd h (by decide), fun h => by omega⟩
theorem tok50w {t v : Nat} {so : Int32} {w : Int64} (h : TokW t v so w) (h5 : t = 50) : 0 ≤ w.toInt ∧ ((v ≤ 1000 ∧ w = lN v) ∨ (v = 1001 ∧ 1000 < w.toInt)) := by
  rcases h with ⟨h1, h2⟩ | ⟨h1, h2, _⟩ | ⟨h1, h2, _⟩ | ⟨h1, h2, h3⟩ | ⟨h1, h2, h3, _⟩
  · omega
  · omega
  · omega
  · exact h3
  · omega
theorem lN32 {n : Nat} (h : n < 2147483648) : (lN n).toInt32 = nI n := by
  apply Int32.toInt_inj.mp
  rw [Int64.toInt_toInt32, lN_toInt (by omega), nI_toInt (by omega)]
  exact Int.bmod_eq_of_le (by omega) (by omega)
theorem wdR_0 {t : Nat} : wdR od t = 0 ↔ wdW1 od t = 0 := by
  unfold wdR wdW1
  split
  · unfold orR
    split
    · omega
    · split <;> omega
  · exact Iff.rfl
theorem itI_0 {n : Nat} (h : n = 0) : itI n = -1 := if_pos h
theorem itI_p {n : Nat} (h : ¬ n = 0) : itI n = nI n := if_neg h
theorem m_number {lo hi : Nat} (hE : EnvR G B tk ts te tv tc od) (h : RSt B tk ts te tv od k p N c pl S) (hk : k ≤ tc) (hh : hi ≤ 20) (hlo : lo ≤ 20) (y : tk k = 50 → lo ≤ tv k → tv k ≤ hi → ∀ S', RSt B tk ts te tv od (k + 1) p N c pl S' → Q (nI (tv k)) S') (n : ¬ (tk k = 50 ∧ lo ≤ tv k ∧ tv k ≤ hi) → ∀ S' r, RBd B (ts k) S' → S'.1 87 20 = 1 → Q r S') : f_X11_number G 87 (lN lo) (lN hi) Q S := by
  have hw := h.2.1.2.2
  unfold f_X11_number
  refine nm_e (ite_c (fun d => ?_) (fun d => ?_))
  · have h50 := (tok50 hw).mp d
    have hk2 : k < tc := tk_lt hE.2.1 (by omega)
    obtain ⟨w0, hww⟩ := tok50w hw h50
    have tvb := (hE.2.1.2.2 k).2.1
    refine m_in (fun h1 h2 => ite_n (by decide) ?_) (fun h1 => ite_y rfl ?_)
    · rcases hww with ⟨a1, a2⟩ | ⟨a1, a2⟩
      · rw [a2, lN_toInt (by omega), lN_toInt (by omega)] at h1 h2
        refine m_must_y hE h hk2 (fun S1 hS1 => ?_)
        rw [a2, lN32 (by omega)]
        exact y h50 (by omega) (by omega) S1 hS1
      · exfalso
        rw [lN_toInt (by omega)] at h2; omega
    · refine m_must_n hE h hk (fun S1 hB h20 => n (fun hn => ?_) S1 _ hB h20)
      apply h1
      rcases hww with ⟨a1, a2⟩ | ⟨a1, a2⟩
      · rw [a2, lN_toInt (by omega), lN_toInt (by omega), lN_toInt (by omega)]; omega
      · omega
  · exact m_must_n hE h hk (fun S1 hB h20 => n (fun hn => d ((tok50 hw).mpr hn.1)) S1 _ hB h20)
end
