/-! The reference settles, and ends. -/
section
variable {c : Cd} {U : Nat → Prop} {N : Nat}
theorem Rep.atc : ∀ {ps : List (Nat × Nat)} {x : Nat × Nat} {t i h : Nat} {F : Fn}, Rep c U N (ps ++ [x]) t i h F → (x.1 = 11 ∨ x.1 = 12) → (c x.2).1 = x.1 := by
  intro ps
  induction ps with
  | nil =>
    intro x t i h F hr hx
    rcases hr with ⟨a1, a2, a3, j, h1, h2, f, g, s, r, e1, e2⟩ | ⟨a1, a2, a3, j, h1, h2, f, g, s, r, e1, e2⟩ | ⟨a1, a2, g, r, e1⟩ | ⟨a1, a2, h1, h2, f, g, s, b, r, e1, e2⟩
    · omega
    · omega
    · omega
    · exact b
  | cons y ps ih =>
    intro x t i h F hr hx
    rcases hr with ⟨a1, a2, a3, j, h1, h2, f, g, s, r, e1, e2⟩ | ⟨a1, a2, a3, j, h1, h2, f, g, s, r, e1, e2⟩ | ⟨a1, a2, g, r, e1⟩ | ⟨a1, a2, h1, h2, f, g, s, b, r, e1, e2⟩
    · exact ih r hx
    · exact ih r hx
    · exact ih r hx
    · exact ih r hx
end
theorem lst_c {α : Type} (l : List α) : l = [] ∨ ∃ l' x, l = l' ++ [x] := by
  rcases List.eq_nil_or_concat l with h | ⟨l', x, h⟩
  · exact .inl h
  · exact .inr ⟨l', x, by rw [h, List.concat_eq_append]⟩
def stopL (P : List (Nat × Nat)) (L : Nat) : Prop := P = [] ∨ ∃ P' y, P = P' ++ [y] ∧ bn y.1 < L
section
variable {G : Gm} {B S S' : St} {tk ts te tv : Nat → Nat} {tc : Nat} {od : Bool} {Q : Int32 → St → Prop} {K : St → Prop} {k p N : Nat} {c : Cd} {pl : List (Nat × Nat)}
theorem m_stop {P : List (Nat × Nat)} {least n : Nat} (hS : ShR G S.2.2) (hP : PlR S P) (hl : P.length ≤ 400) (hw : ∀ x, x ∈ P → 2 ≤ x.1 ∧ x.1 ≤ 14) (h6 : least ≤ 6) (hs : stopL P least) (z : K S) : f_X11_settle_0_n G 87 (nI least) K (n + 1) S := by
  rw [f_X11_settle_0_n]
  rcases hs with rfl | ⟨P', y, rfl, hy⟩
  · exact ite_y (by rw [hP.1]; decide) z
  · obtain ⟨p1, p2⟩ := hP
    rw [List.length_append, List.length_singleton] at p1 hl
    obtain ⟨q1, q2⟩ := p2 P'.length y (by simp)
    have b6 := bn_le y.1
    refine ite_n (by rw [p1, lit, leI (by omega) (by omega)]; omega) (ex_y hS.pile ?_)
    rw [p1, nI_pred, hS.pile_l, in_iff (by omega), clI (by omega), q1]
    exact ⟨by omega, m_binds (hw y (by simp)) (ite_y (by rw [ltI (by omega) (by omega)]; exact hy) z)⟩
theorem RSt.pop {x : Nat × Nat} {ps : List (Nat × Nat)} (h : RSt B tk ts te tv od k p N c (ps ++ [x]) S) (hx : 2 ≤ x.1 ∧ x.1 ≤ 12) (h2 : 11 ≤ x.1 → (c x.2).1 = x.1) : RSt B tk ts te tv od k p (popN x N) (popC x N c) ps (popS x ps.length N S) := by
  obtain ⟨h1, ⟨g1, g2, g3⟩, h3, h4, h5, h6, h7, h8, h9, h10, h11, h12⟩ := h
  have f := popS_f (S := S) (N := N) (x := x) (n := ps.length)
  have hxw := h10 x (by simp)
  have nN : N ≤ popN x N := by unfold popN; split <;> omega
  rw [List.length_append, List.length_singleton] at h11
  rw [emN_app] at h12
  rw [brk_app] at h9
  have b0 : brk [x] = 0 := by unfold brk; rw [if_neg (by omega)]; rfl
  have e1 : popN x N + emN ps ≤ N + (emN ps + emN [x]) := by
    unfold popN emN
    split <;> simp [emN] <;> omega
  refine ⟨h1.trans f.toE, ⟨?_, ?_, ?_⟩, ?_, ?_, popS_24 h5, ?_, popS_cd h7 hx (fun h => ⟨hxw.2.2 (by omega), h2 h⟩), popS_pl h8, ?_, ?_, by omega, by omega⟩
  · rw [f.2.2 15 (by omega) (by omega)]; exact g1
  · rw [f.2.2 16 (by omega) (by omega)]; exact g2
  · rw [f.2.2 17 (by omega) (by omega), f.1]; exact g3
  · rw [f.2.2 19 (by omega) (by omega)]; exact h3
  · rw [f.2.2 20 (by omega) (by omega)]; exact h4
  · rw [f.2.2 27 (by omega) (by omega)]; exact h6
  · rw [f.2.2 31 (by omega) (by omega), h9, b0]; rfl
  · intro y hy
    obtain ⟨w1, w2, w3⟩ := h10 y (by simp [hy])
    exact ⟨w1, w2, fun h => by have := w3 h; omega⟩
theorem bn_12 {o : Nat} (h : 1 ≤ bn o) : o ≤ 12 := by
  apply Classical.byContradiction
  intro h'
  unfold bn at h; rw [if_pos (by omega)] at h; omega
theorem m_settle {P ps : List (Nat × Nat)} {least t i hh : Nat} {U : Nat → Prop} {F : Fn} (hE : EnvR G B tk ts te tv tc od) (h : RSt B tk ts te tv od k p N c (P ++ ps) S) (hk : k ≤ 400) (h1 : 1 ≤ least) (h6 : least ≤ 6) (hr : Rep c U N ps t i hh F) (hb : ∀ x, x ∈ ps → least ≤ bn x.1) (hs : stopL P least) (z : ∀ S' N' c', RSt B tk ts te tv od k p N' c' P S' → Seg c' U t i N' hh F → N' = N + emN ps → (∀ j, j < i → c' j = c j) → K S') : f_X11_settle G 87 (nI least) K S := by
  have main : ∀ n (ps : List (Nat × Nat)) (N0 : Nat) (c0 : Cd) (S0 : St), ps.length = n → RSt B tk ts te tv od k p N0 c0 (P ++ ps) S0 → Rep c0 U N0 ps t i hh F → (∀ x, x ∈ ps → least ≤ bn x.1) → N0 + emN ps = N + emN ps + (N0 - N) → N ≤ N0 → (∀ S' N' c', RSt B tk ts te tv od k p N' c' P S' → Seg c' U t i N' hh F → N' = N0 + emN ps → (∀ j, j < i → c' j = c0 j) → K S') → f_X11_settle_0_n G 87 (nI least) K (n + 1) S0 := by
    intro n
    induction n with
    | zero =>
      intro ps N0 c0 S0 hl h0 hr0 hb0 _ _ z0
      have : ps = [] := List.length_eq_zero_iff.mp hl
      subst this
      rw [List.append_nil] at h0
      exact m_stop (h0.sh hE) h0.2.2.2.2.2.2.2.1 (by have := h0.2.2.2.2.2.2.2.2.2.2.1; omega) (fun x hx => ⟨(h0.2.2.2.2.2.2.2.2.2.1 x hx).1, (h0.2.2.2.2.2.2.2.2.2.1 x hx).2.1⟩) h6 hs (z0 S0 N0 c0 h0 hr0 rfl (fun _ _ => rfl))
    | succ n ih =>
      intro ps N0 c0 S0 hl h0 hr0 hb0 _ _ z0
      rcases lst_c ps with rfl | ⟨ps', x, rfl⟩
      · exact absurd hl (by simp)
      · rw [List.length_append, List.length_singleton] at hl
        have hbx := hb0 x (by simp)
        have h0' : RSt B tk ts te tv od k p N0 c0 ((P ++ ps') ++ [x]) S0 := by rw [List.append_assoc]; exact h0
        have hw := h0'.2.2.2.2.2.2.2.2.2.1 x (by simp)
        have x12 := bn_12 (o := x.1) (by omega)
        have hlen := h0'.2.2.2.2.2.2.2.2.2.2.1
        have hem := h0'.2.2.2.2.2.2.2.2.2.2.2
        rw [List.length_append, List.length_singleton] at hlen
        have hN4 : N0 ≤ 400 := by omega
        refine m_pop (x := x) (ps := P ++ ps') (N := N0) (h0'.sh hE) h0'.2.2.2.2.2.2.2.1 (by omega) h0'.2.2.2.2.1 ⟨hw.1, x12⟩ (fun h10 => ?_) (fun h11 => ?_) hbx ?_
        · rw [emN_app] at hem
          have : emN [x] = 1 := by simp [emN, h10]
          omega
        · have := hw.2.2 (by omega); omega
        · have rp := hr0.pop hw.1 x12
          have np : popN x N0 + emN ps' = N0 + emN (ps' ++ [x]) := by
            rw [emN_app]
            unfold popN
            by_cases h10 : x.1 ≤ 10
            · rw [if_pos h10]; simp [emN, h10]; omega
            · rw [if_neg h10]; simp [emN, h10]
          refine ih ps' (popN x N0) (popC x N0 c0) _ (by omega) (h0'.pop ⟨hw.1, x12⟩ (fun h11 => hr0.atc (by omega))) rp (fun y hy => hb0 y (by simp [hy])) (by unfold popN; split <;> omega) (by unfold popN; split <;> omega) ?_
          intro S' N' c' hS' hseg hN' hc'
          refine z0 S' N' c' hS' hseg (by omega) (fun j hj => ?_)
          rw [hc' j hj]
          have l := hr0.lt
          refine popC_n (by omega) (fun h11 => ?_)
          have := hr0.at (by omega)
          omega
  exact ⟨ps.length + 1, main ps.length ps N c S rfl h hr hb (by omega) (Nat.le_refl _) z⟩
theorem m_settleB {x : Nat} (hE : EnvR G B tk ts te tv tc od) (h : RBd B x S) (z : ∀ S', REn B x S' → K S') : f_X11_settle G 87 1 K S := by
  have main : ∀ n (pl : List (Nat × Nat)) (N : Nat) (S : St), pl.length = n → FrE B S → S.1 87 19 = nI x → S.1 87 20 = 1 → S.1 87 24 = nI N → PlR S pl → PlW N pl → pl.length ≤ 400 → N + emN pl ≤ 400 → f_X11_settle_0_n G 87 (nI 1) K (n + 1) S := by
    intro n
    induction n with
    | zero =>
      intro pl N S hl hF h19 h20 h24 hP hW h4 hm
      have : pl = [] := List.length_eq_zero_iff.mp hl
      subst this
      have hS : ShR G S.2.2 := by rw [hF.1]; exact hE.1
      exact m_stop hS hP (by omega) (fun x hx => ⟨(hW x hx).1, (hW x hx).2.1⟩) (by omega) (.inl rfl) (z S ⟨hF, h19, h20, N, h24, by omega⟩)
    | succ n ih =>
      intro pl N S hl hF h19 h20 h24 hP hW h4 hm
      have hS : ShR G S.2.2 := by rw [hF.1]; exact hE.1
      rcases lst_c pl with rfl | ⟨pl', y, rfl⟩
      · exact absurd hl (by simp)
      · have hl0 := hl
        rw [List.length_append, List.length_singleton] at hl h4
        have hw := hW y (by simp)
        by_cases hb : bn y.1 < 1
        · exact m_stop hS hP (by rw [List.length_append, List.length_singleton]; omega) (fun x hx => ⟨(hW x hx).1, (hW x hx).2.1⟩) (by omega) (.inr ⟨pl', y, rfl, hb⟩) (z S ⟨hF, h19, h20, N, h24, by omega⟩)
        · have y12 := bn_12 (o := y.1) (by omega)
          have f := popS_f (S := S) (N := N) (x := y) (n := pl'.length)
          rw [emN_app] at hm
          refine m_pop (N := N) hS hP (by omega) h24 ⟨hw.1, y12⟩ (fun h10 => ?_) (fun h11 => ?_) (by omega) ?_
          · have : emN [y] = 1 := by simp [emN, h10]
            omega
          · have := hw.2.2 (by omega); omega
          · refine ih pl' (popN y N) _ (by omega) (hF.trans f.toE) ?_ ?_ (popS_24 h24) (popS_pl hP) ?_ (by omega) ?_
            · rw [f.2.2 19 (by omega) (by omega)]; exact h19
            · rw [f.2.2 20 (by omega) (by omega)]; exact h20
            · intro v hv
              obtain ⟨w1, w2, w3⟩ := hW v (by simp [hv])
              refine ⟨w1, w2, fun h => ?_⟩
              have := w3 h
              unfold popN; split <;> omega
            · unfold popN
              by_cases h10 : y.1 ≤ 10
              · rw [if_pos h10]
                have : emN [y] = 1 := by simp [emN, h10]
                omega
              · rw [if_neg h10]; omega
  obtain ⟨hF, h19, h20, N, pl, h24, hP, hW, h4, hm⟩ := h
  exact ⟨pl.length + 1, main pl.length pl N S rfl hF h19 h20 h24 hP hW h4 hm⟩
/-- the loop of an expression, with turns enough for what is left -/
def El (G : Gm) (v1 : Int32) (K : St → Prop) (tc a : Nat) (T : Int32) (k : Nat) (S : St) : Prop := ∀ n, 3 * (tc - k) + a ≤ n → f_X11_readExpression_20_n G 87 v1 K n T S
theorem m_badEnd {x n : Nat} {v1 T : Int32} (hE : EnvR G B tk ts te tv tc od) (h : RBd B x S) (z : ∀ S', REn B x S' → K S') (hn : 1 ≤ n) : f_X11_readExpression_20_n G 87 v1 K n T S := by
  obtain ⟨n1, rfl⟩ : ∃ n1, n = n1 + 1 := ⟨n - 1, by omega⟩
  rw [f_X11_readExpression_20_n]
  exact ite_n (by rw [h.2.2.1]; decide) (m_settleB hE h z)
/-- emit -/
theorem m_emit {o x : Nat} {v1 v2 : Int32} (hE : EnvR G B tk ts te tv tc od) (h : RSt B tk ts te tv od k p N c pl S) (hk : k ≤ 400) (hN : N + emN pl < k) (e1 : v1 = nI (opR od (o, x))) (e2 : v2 = nI (agR od (o, x))) (z : ∀ S', RSt B tk ts te tv od k p (N + 1) (updC c N (o, x)) pl S' → K S') : f_X11_emit G 87 v1 v2 K S := by
  have hS := h.sh hE
  obtain ⟨h1, ⟨g1, g2, g3⟩, h3, h4, h5, h6, h7, h8, h9, h10, h11, h12⟩ := h
  unfold f_X11_emit
  refine ex_y hS.nOp ?_
  rw [h5, hS.nOp_l, in_iff (by omega), clI (by omega)]
  refine ⟨by omega, nm_e (ex_y (by exact hS.nArg) ?_)⟩
  rw [show (uI S 99 N v1).1 87 24 = nI N from by rw [uI_n _ _ _ _ (by omega)]; exact h5, hS.nArg_l, in_iff (by omega), clI (by omega)]
  refine ⟨by omega, nm_e (nm_e ?_)⟩
  rw [show (uI (uI S 99 N v1) 100 N v2).1 87 24 = nI N from by rw [uI_n _ _ _ _ (by omega), uI_n _ _ _ _ (by omega)]; exact h5]
  have q : ∀ j, j ≠ 24 → (uI (uI (uI S 99 N v1) 100 N v2) 87 24 (nI N + 1)).1 87 j = S.1 87 j := by
    intro j hj
    rw [uI_p _ _ _ _ hj, uI_n _ _ _ _ (by omega), uI_n _ _ _ _ (by omega)]
  have q2 : ∀ i, i ≠ 87 → i ≠ 99 → i ≠ 100 → (uI (uI (uI S 99 N v1) 100 N v2) 87 24 (nI N + 1)).1 i = S.1 i := by
    intro i a b c
    rw [uI_n _ _ _ _ a, uI_n _ _ _ _ c, uI_n _ _ _ _ b]
  refine z _ ⟨((h1.ua (by omega)).ua (by omega)).u87 (by omega), ⟨?_, ?_, ?_⟩, ?_, ?_, ?_, ?_, ?_, h8.ag (q 30 (by omega)) (q2 101 (by omega) (by omega) (by omega)) (q2 102 (by omega) (by omega) (by omega)), ?_, ?_, h11, by omega⟩
  · rw [q 15 (by omega)]; exact g1
  · rw [q 16 (by omega)]; exact g2
  · rw [q 17 (by omega)]; exact g3
  · rw [q 19 (by omega)]; exact h3
  · rw [q 20 (by omega)]; exact h4
  · rw [uI_s, if_pos rfl, nI_1]
  · rw [q 27 (by omega)]; exact h6
  · intro i hi
    have r1 : (uI (uI (uI S 99 N v1) 100 N v2) 87 24 (nI N + 1)).1 99 i = if i = N then v1 else S.1 99 i := by
      rw [uI_n _ 87 _ _ (by omega), uI_n _ 100 _ _ (by omega), uI_s]
    have r2 : (uI (uI (uI S 99 N v1) 100 N v2) 87 24 (nI N + 1)).1 100 i = if i = N then v2 else S.1 100 i := by
      rw [uI_n _ 87 _ _ (by omega), uI_s, uI_n _ 99 _ _ (by omega)]
    rw [r1, r2]
    by_cases e : i = N
    · subst e
      rw [if_pos rfl, if_pos rfl, updC_s]
      exact ⟨e1, e2⟩
    · rw [if_neg e, if_neg e, updC_n e]
      exact h7 i (by omega)
  · rw [q 31 (by omega)]; exact h9
  · intro y hy
    obtain ⟨w1, w2, w3⟩ := h10 y hy
    exact ⟨w1, w2, fun h => by have := w3 h; omega⟩
/-- the innermost bracket -/
def inn : List (Nat × Nat) → Nat → Nat
  | [], a => a
  | x :: l, a => inn l (if 13 ≤ x.1 then x.1 else a)
theorem inn_app (l m : List (Nat × Nat)) : ∀ a, inn (l ++ m) a = inn m (inn l a) := by
  induction l with
  | nil => intro a; rfl
  | cons x l ih => intro a; exact ih _
theorem inn_no {l : List (Nat × Nat)} (h : ∀ x, x ∈ l → x.1 ≤ 12) : ∀ a, inn l a = a := by
  induction l with
  | nil => intro a; rfl
  | cons x l ih =>
    intro a
    show inn l _ = a
    rw [if_neg (by have := h x (by simp); omega)]
    exact ih (fun y hy => h y (by simp [hy])) a
theorem m_inner (hE : EnvR G B tk ts te tv tc od) (h : RSt B tk ts te tv od k p N c pl S) (hk : k ≤ 400) (z : Q (if inn pl 0 = 0 then -1 else nI (po (inn pl 0))) S) : f_X11_inner G 87 Q S := by
  have hS := h.sh hE
  obtain ⟨h1, _, h3, h4, h5, h6, h7, h8, h9, h10, h11, h12⟩ := h
  have main : ∀ n i a, i + n = pl.length → inn (pl.drop i) a = inn pl 0 → (a = 0 ∨ a = 13 ∨ a = 14) → f_X11_inner_4_n G 87 Q (n + 1) (if a = 0 then -1 else nI (po a)) (nI i) S := by
    intro n
    induction n with
    | zero =>
      intro i a hi he _
      rw [f_X11_inner_4_n]
      refine ite_y (by rw [h8.1, leI (by omega) (by omega)]; omega) ?_
      rw [List.drop_eq_nil_of_le (by omega)] at he
      have he : a = inn pl 0 := he
      rw [he]; exact z
    | succ n ih =>
      intro i a hi he ha
      rw [f_X11_inner_4_n]
      have hlt : i < pl.length := by omega
      have hget : pl[i]? = some pl[i] := List.getElem?_eq_getElem hlt
      obtain ⟨q1, q2⟩ := h8.2 i _ hget
      obtain ⟨w1, w2, w3⟩ := h10 pl[i] (List.getElem_mem hlt)
      rw [List.drop_eq_getElem_cons hlt] at he
      have he : inn (pl.drop (i + 1)) (if 13 ≤ pl[i].1 then pl[i].1 else a) = inn pl 0 := he
      refine ite_n (by rw [h8.1, leI (by omega) (by omega)]; omega) (ex_y hS.pile ?_)
      rw [hS.pile_l, in_iff (by omega), clI (by omega), q1, nI_1]
      refine ⟨by omega, ?_⟩
      have pl' : po pl[i].1 < 31 ↔ ¬ 13 ≤ pl[i].1 := by
        unfold po
        split
        · omega
        · split <;> omega
      have pl2 : po pl[i].1 ≤ 32 := by
        unfold po
        split
        · omega
        · split <;> omega
      by_cases h13 : 13 ≤ pl[i].1
      · rw [if_pos h13] at he
        refine ite_n ?_ (ex_y hS.pile ?_)
        · rw [lit, ltI (by omega) (by omega)]; omega
        · rw [hS.pile_l, in_iff (by omega)]
          refine ⟨by omega, nm_p q1 ?_⟩
          have w := ih (i + 1) pl[i].1 (by omega) he (by omega)
          rw [if_neg (by omega)] at w
          exact w
      · rw [if_neg h13] at he
        refine ite_y ?_ (ih (i + 1) a (by omega) he ha)
        rw [lit, ltI (by omega) (by omega)]; omega
  exact ⟨pl.length + 1, main pl.length 0 0 (by omega) rfl (.inl rfl)⟩
end
