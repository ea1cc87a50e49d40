/-! The reference: brackets, levels, sums. -/
section
variable {G : Gm} {B S S' : St} {tk ts te tv : Nat → Nat} {tc : Nat} {od : Bool} {Q : Int32 → St → Prop} {K : St → Prop} {k p N : Nat} {c : Cd} {pl : List (Nat × Nat)} {v1 : Int32} {so : Option (Nat → Nat → Ex)}
theorem RSt.psh {o x : Nat} (h : RSt B tk ts te tv od k p N c pl S) (hl : pl.length < k) (hem : N + emN pl + (if o ≤ 10 then 1 else 0) ≤ k) (ho : 2 ≤ o ∧ o ≤ 14) (hx : o = 11 ∨ o = 12 → x < N) (h1 : FrE B S') (h2 : RT tk ts te tv k S') (h3 : S'.1 87 19 = -1) (h4 : S'.1 87 20 = 0) (h5 : S'.1 87 24 = nI N) (h6 : S'.1 87 27 = nI p) (h7 : CdR S' od N c) (h8 : PlR S' (pl ++ [(o, x)])) (h9 : S'.1 87 31 = nI (brk (pl ++ [(o, x)]))) : RSt B tk ts te tv od k p N c (pl ++ [(o, x)]) S' := by
  refine ⟨h1, h2, h3, h4, h5, h6, h7, h8, h9, ?_, ?_, ?_⟩
  · intro y hy
    rw [List.mem_append, List.mem_singleton] at hy
    rcases hy with hy | rfl
    · exact h.2.2.2.2.2.2.2.2.2.1 y hy
    · exact ⟨ho.1, ho.2, hx⟩
  · rw [List.length_append, List.length_singleton]; omega
  · rw [emN_app]
    have : emN [(o, x)] = (if o ≤ 10 then 1 else 0) := by simp [emN]
    rw [this]; omega
/-- an operator is pushed -/
theorem m_pushO {o : Nat} (hE : EnvR G B tk ts te tv tc od) (h : RSt B tk ts te tv od k p N c pl S) (hk : k ≤ 400) (ho : 2 ≤ o ∧ o ≤ 10) (hl : pl.length < k) (hem : N + emN pl < k) (z : ∀ S', RSt B tk ts te tv od k p N c (pl ++ [(o, 0)]) S' → K S') : f_X11_push G 87 (nI (po o)) 0 K S := by
  refine m_push (x := 0) hE h (by omega) (by omega) (fun S' h1 h2 h3 h4 h5 h6 h7 h8 h9 => z S' (h.psh hl (by rw [if_pos (by omega)]; omega) (by omega) (by omega) h1 h2 h3 h4 h5 h6 h7 h8 ?_))
  rw [h9, brk_app]
  have : brk [(o, 0)] = 0 := by unfold brk; rw [if_neg (by show ¬ 13 ≤ o; omega)]; rfl
  rw [this]; rfl
theorem m_open {o : Nat} (hE : EnvR G B tk ts te tv tc od) (h : RSt B tk ts te tv od k p N c pl S) (hk : k < tc) (ho : o = 13 ∨ o = 14) (y : brk pl < 8 → ∀ S', RSt B tk ts te tv od (k + 1) p N c (pl ++ [(o, 0)]) S' → K S') (n : 8 ≤ brk pl → ∀ S', RBd B (ts k) S' → K S') : f_X11_openBracket G 87 (nI (po o)) K S := by
  have t4 := hE.2.1.1
  have bl : brk pl ≤ pl.length := by
    clear y n h
    induction pl with
    | nil => exact Nat.le_refl _
    | cons x l ih => simp only [brk, List.length_cons]; split <;> omega
  have hln := h.2.2.2.2.2.2.2.2.2.2.1
  unfold f_X11_openBracket
  rw [h.2.2.2.2.2.2.2.2.1]
  refine ite_c (fun d => ?_) (fun d => ?_)
  · rw [lit, leI (by omega) (by omega)] at d
    exact m_must_n hE h (by omega) (fun S1 hB h20 => ite_n (by rw [h20]; decide) (n d S1 hB))
  · rw [lit, leI (by omega) (by omega)] at d
    refine m_must_y hE h hk (fun S1 h1 => ite_y h1.2.2.2.1 (nm_e ?_))
    have h31 : S1.1 87 31 = nI (brk pl) := h1.2.2.2.2.2.2.2.2.1
    rw [h31, nI_1]
    -- the state with one more opened
    have hS := h1.sh hE
    obtain ⟨g1, g2, g3, g4, g5, g6, g7, g8, g9, g10, g11, g12⟩ := id h1
    have q : ∀ j, j ≠ 31 → (uI S1 87 31 (nI (brk pl + 1))).1 87 j = S1.1 87 j := fun j hj => uI_p _ _ _ _ hj
    have q2 : ∀ i, i ≠ 87 → (uI S1 87 31 (nI (brk pl + 1))).1 i = S1.1 i := fun i hi => uI_n _ _ _ _ hi
    unfold f_X11_push
    refine ex_y (by exact hS.pile) ?_
    rw [q 30 (by omega), g8.1, hS.pile_l, in_iff (by omega), clI (by omega)]
    refine ⟨by omega, nm_e (ex_y (by exact hS.pileAt) ?_)⟩
    rw [uI_n _ 101 _ _ (by omega), q 30 (by omega), g8.1, hS.pileAt_l, in_iff (by omega), clI (by omega)]
    refine ⟨by omega, nm_e (nm_e ?_)⟩
    rw [uI_n _ 102 _ _ (by omega), uI_n _ 101 _ _ (by omega), q 30 (by omega), g8.1]
    have r87 : ∀ j, j ≠ 30 → j ≠ 31 → (uI (uI (uI (uI S1 87 31 (nI (brk pl + 1))) 101 pl.length (nI (po o))) 102 pl.length 0) 87 30 (nI pl.length + 1)).1 87 j = S1.1 87 j := by
      intro j a b
      rw [uI_p _ _ _ _ a, uI_n _ 102 _ _ (by omega), uI_n _ 101 _ _ (by omega), q j b]
    have ri : ∀ i, i ≠ 87 → i ≠ 101 → i ≠ 102 → (uI (uI (uI (uI S1 87 31 (nI (brk pl + 1))) 101 pl.length (nI (po o))) 102 pl.length 0) 87 30 (nI pl.length + 1)).1 i = S1.1 i := by
      intro i a b c
      rw [uI_n _ _ _ _ a, uI_n _ _ _ _ c, uI_n _ _ _ _ b, q2 i a]
    refine y (by omega) _ (h1.psh (by omega) (by rw [if_neg (by omega)]; omega) (by omega) (by omega) ((((g1.u87 (by omega)).ua (by omega)).ua (by omega)).u87 (by omega)) ?_ ?_ ?_ ?_ ?_ (g7.ag (ri 99 (by omega) (by omega) (by omega)) (ri 100 (by omega) (by omega) (by omega))) ⟨?_, ?_⟩ ?_)
    · unfold RT; rw [r87 15 (by omega) (by omega), r87 16 (by omega) (by omega), r87 17 (by omega) (by omega)]; exact g2
    · rw [r87 19 (by omega) (by omega)]; exact g3
    · rw [r87 20 (by omega) (by omega)]; exact g4
    · rw [r87 24 (by omega) (by omega)]; exact g5
    · rw [r87 27 (by omega) (by omega)]; exact g6
    · rw [uI_s, if_pos rfl, nI_1]; simp
    · intro i x hx
      have r1 : (uI (uI (uI (uI S1 87 31 (nI (brk pl + 1))) 101 pl.length (nI (po o))) 102 pl.length 0) 87 30 (nI pl.length + 1)).1 101 i = if i = pl.length then nI (po o) else S1.1 101 i := by
        rw [uI_n _ 87 _ _ (by omega), uI_n _ 102 _ _ (by omega), uI_s, q2 101 (by omega)]
      have r2 : (uI (uI (uI (uI S1 87 31 (nI (brk pl + 1))) 101 pl.length (nI (po o))) 102 pl.length 0) 87 30 (nI pl.length + 1)).1 102 i = if i = pl.length then 0 else S1.1 102 i := by
        rw [uI_n _ 87 _ _ (by omega), uI_s, uI_n _ 101 _ _ (by omega), q2 102 (by omega)]
      rw [r1, r2]
      rcases getE_app hx with ⟨e1, e2⟩ | ⟨e1, e2⟩
      · rw [if_pos e1, if_pos e1, e2]
        exact ⟨rfl, rfl⟩
      · rw [if_neg (by omega), if_neg (by omega)]
        exact g8.2 i x e2
    · rw [uI_s, if_neg (by omega), uI_n _ 102 _ _ (by omega), uI_n _ 101 _ _ (by omega), uI_s, if_pos rfl, brk_app]
      have : brk [(o, 0)] = 1 := by unfold brk; rw [if_pos (by show 13 ≤ o; omega)]; rfl
      rw [this]
/-- a bracket is taken off the pile -/
theorem RSt.cls {o x : Nat} (h : RSt B tk ts te tv od k p N c (pl ++ [(o, x)]) S) (ho : o = 13 ∨ o = 14) (hk : k ≤ 400) : RSt B tk ts te tv od k p N c pl (uI (uI S 87 30 (S.1 87 30 - 1)) 87 31 ((uI S 87 30 (S.1 87 30 - 1)).1 87 31 - 1)) := by
  obtain ⟨h1, ⟨g1, g2, g3⟩, h3, h4, h5, h6, h7, h8, h9, h10, h11, h12⟩ := h
  have b1 : brk (pl ++ [(o, x)]) = brk pl + 1 := by
    rw [brk_app]
    have : brk [(o, x)] = 1 := by unfold brk; rw [if_pos (by show 13 ≤ o; omega)]; rfl
    rw [this]
  have e1 : emN (pl ++ [(o, x)]) = emN pl := by
    rw [emN_app]
    have : emN [(o, x)] = 0 := by unfold emN; rw [if_neg (by show ¬ o ≤ 10; omega)]; rfl
    rw [this]; rfl
  have l1 : (pl ++ [(o, x)]).length = pl.length + 1 := by simp
  rw [l1] at h11
  rw [e1] at h12
  rw [b1] at h9
  have r87 : ∀ j, j ≠ 30 → j ≠ 31 → (uI (uI S 87 30 (S.1 87 30 - 1)) 87 31 ((uI S 87 30 (S.1 87 30 - 1)).1 87 31 - 1)).1 87 j = S.1 87 j := fun j a b => by rw [uI_p _ _ _ _ b, uI_p _ _ _ _ a]
  have ri : ∀ i, i ≠ 87 → (uI (uI S 87 30 (S.1 87 30 - 1)) 87 31 ((uI S 87 30 (S.1 87 30 - 1)).1 87 31 - 1)).1 i = S.1 i := fun i a => by rw [uI_n _ _ _ _ a, uI_n _ _ _ _ a]
  refine ⟨(h1.u87 (by omega)).u87 (by omega), ⟨?_, ?_, ?_⟩, ?_, ?_, ?_, ?_, h7.ag (ri 99 (by omega)) (ri 100 (by omega)), ⟨?_, ?_⟩, ?_, ?_, by omega, by omega⟩
  · rw [r87 15 (by omega) (by omega)]; exact g1
  · rw [r87 16 (by omega) (by omega)]; exact g2
  · rw [r87 17 (by omega) (by omega)]; exact g3
  · rw [r87 19 (by omega) (by omega)]; exact h3
  · rw [r87 20 (by omega) (by omega)]; exact h4
  · rw [r87 24 (by omega) (by omega)]; exact h5
  · rw [r87 27 (by omega) (by omega)]; exact h6
  · rw [uI_p _ _ _ _ (by omega), uI_s, if_pos rfl, h8.1, l1, nI_pred]
  · intro i y hy
    rw [ri 101 (by omega), ri 102 (by omega)]
    refine h8.2 i y ?_
    have hi : i < pl.length := by
      apply Classical.byContradiction
      intro h
      rw [List.getElem?_eq_none (by omega)] at hy
      cases hy
    rw [List.getElem?_append_left hi]; exact hy
  · rw [uI_s, if_pos rfl, uI_p _ _ _ _ (by omega), h9, nI_pred]
  · intro y hy
    exact h10 y (by simp [hy])
/-- behind a sum: an operator, or none -/
theorem m_bsum (h : RSt B tk ts te tv od k p N c pl S) (y : ∀ o, stp (tk k) = o → 2 ≤ o → o ≤ 6 → f_X11_behindSum_71 G 87 v1 (nI (po o)) Q S) (n : ¬ (2 ≤ stp (tk k) ∧ stp (tk k) ≤ 6) → f_X11_behindSum_71 G 87 v1 (-1) Q S) : f_X11_behindSum G 87 v1 Q S := by
  refine m_sign (t := 43) h (by omega) (fun e => ite_n (by decide) (y 2 (by rw [e]; rfl) (by omega) (by omega))) (fun e1 => ite_y rfl ?_)
  refine m_sign (t := 45) h (by omega) (fun e => ite_n (by decide) (y 3 (by rw [e]; rfl) (by omega) (by omega))) (fun e2 => ite_y rfl ?_)
  refine m_sign (t := 42) h (by omega) (fun e => ite_n (by decide) (y 4 (by rw [e]; rfl) (by omega) (by omega))) (fun e3 => ite_y rfl ?_)
  refine m_sign (t := 47) h (by omega) (fun e => ite_n (by decide) (y 5 (by rw [e]; rfl) (by omega) (by omega))) (fun e4 => ite_y rfl ?_)
  refine m_sign (t := 37) h (by omega) (fun e => ite_n (by decide) (y 6 (by rw [e]; rfl) (by omega) (by omega))) (fun e5 => ite_y rfl (n ?_))
  unfold stp
  rw [if_neg (by omega), if_neg (by omega), if_neg (by omega), if_neg (by omega), if_neg (by omega)]
  repeat' split
  all_goals omega
theorem bn_op {o : Nat} (h2 : 2 ≤ o) (h6 : o ≤ 6) : 5 ≤ bn o ∧ bn o ≤ 6 ∧ (bn o = 6 ↔ 4 ≤ o) := by
  have : o = 2 ∨ o = 3 ∨ o = 4 ∨ o = 5 ∨ o = 6 := by omega
  rcases this with rfl | rfl | rfl | rfl | rfl <;> decide
/-- one turn -/
theorem El.sum (h20 : S.1 87 20 = 0) (z : ∀ n, 3 * (tc - k) + 3 ≤ n → f_X11_behindSum G 87 v1 (fun r S' => f_X11_readExpression_20_n G 87 v1 K n r S') S) : El G v1 K tc 4 3 k S := by
  intro n hn
  obtain ⟨n1, rfl⟩ : ∃ n1, n = n1 + 1 := ⟨n - 1, by omega⟩
  rw [f_X11_readExpression_20_n]
  exact ite_y h20 (ite_n (by decide) (ite_n (by decide) (ite_n (by decide) (ite_y rfl (z n1 (by omega))))))
theorem El.part (h20 : S.1 87 20 = 0) (z : GoP G v1 K tc k S) : El G v1 K tc 2 1 k S := by
  intro n hn
  obtain ⟨n1, rfl⟩ : ∃ n1, n = n1 + 1 := ⟨n - 1, by omega⟩
  rw [f_X11_readExpression_20_n]
  exact ite_y h20 (ite_n (by decide) (ite_n (by decide) (ite_y rfl (z n1 (by omega)))))
/-- the part, in brackets or not -/
def RSub (G : Gm) (B : St) (tk ts te tv : Nat → Nat) (tc : Nat) (od : Bool) (v1 : Int32) (K : St → Prop) (hb nb : Nat) (so : Option (Nat → Nat → Ex)) : Prop :=
  (so = none ∧ nb = 0) ∨ ∃ s nb', so = some s ∧ nb = nb' + 1 ∧ gOk tc s ∧ RSim G B tk ts te tv tc od v1 K 5 0 hb nb' (GoP G v1 K tc) 3 4 (fun _ => True) (fun t => opA t = 0 ∧ opM t = 0) s
theorem no_op {t : Nat} (ha : opA t = 0) (hm : opM t = 0) : ¬ (2 ≤ stp t ∧ stp t ≤ 6) := by
  intro h
  unfold opA at ha; unfold opM at hm
  by_cases h3 : stp t ≤ 3
  · rw [if_pos ⟨h.1, h3⟩] at ha; omega
  · rw [if_pos ⟨by omega, h.2⟩] at hm; omega
theorem bn5 {o : Nat} (h : 5 ≤ bn o) : o ≤ 6 := by
  apply Classical.byContradiction
  intro h'
  unfold bn at h
  revert h
  repeat' split
  all_goals omega
theorem r_part (hE : EnvR G B tk ts te tv tc od) {hb nb : Nat} (h1b : 1 ≤ hb) (hs : RSub G B tk ts te tv tc od v1 K hb nb so) : RSim G B tk ts te tv tc od v1 K 7 0 hb nb (GoP G v1 K tc) 3 4 (fun _ => True) (fun _ => True) (gPart tk tv od so) := by
  intro P k p N c S hk hp hst hbr hcx hS y e
  have hA := hE.2.1
  have t4 := hA.1
  by_cases h191 : tk k = 191
  · have hk2 : k < tc := tk_lt hA (by omega)
    have e0 : gPart tk tv od so k p = gBr tk 193 so k p := by unfold gPart; rw [if_pos h191]
    intro n' hn
    refine m_sign (t := 91) hS (by omega) (fun _ => ite_n (by decide) ?_) (fun h => absurd h191 h)
    refine m_open (o := 14) hE hS hk2 (by omega) (fun hb8 S1 h1 => ?_) (fun hb8 S1 hB => ?_)
    · rcases hs with ⟨hn0, hn1⟩ | ⟨s, nb', hn0, hn1, hok, hsim⟩
      · omega
      · have stP : stopL (P ++ [(14, 0)]) 5 := .inr ⟨P, (14, 0), rfl, by show bn 14 < 5; decide⟩
        have brP : brk (P ++ [(14, 0)]) + nb' = 8 := by
          rw [brk_app]
          have : brk [(14, 0)] = 1 := rfl
          omega
        refine El.part h1.2.2.2.1 (hsim (P ++ [(14, 0)]) (k + 1) p N c S1 (by omega) hp stP brP trivial h1 ?_ ?_) n' (by omega)
        · intro k' p' F hg S2 N' c' ps h hS2 hrep hh hbn hc hno
          obtain ⟨b1, b2, b3⟩ := (hok (k + 1) p (by omega) hp).2 k' p' F hg
          refine El.sum hS2.2.2.2.1 (fun n2 hn2 => m_bsum hS2 (fun o h1 h2 h3 => absurd (show 2 ≤ stp (tk k') ∧ stp (tk k') ≤ 6 from ⟨by omega, by omega⟩) (no_op hno.1 hno.2)) (fun _ => ite_y rfl ?_))
          have p12 : ∀ x, x ∈ ps → x.1 ≤ 12 := fun x hx => bn_12 (by have := hbn x hx; omega)
          have iq : inn ((P ++ [(14, 0)]) ++ ps) 0 = 14 := by
            rw [inn_app, inn_no p12, inn_app]; rfl
          refine m_inner hE hS2 (by omega) ?_
          rw [iq]
          refine ite_y rfl ?_
          refine m_sign (t := 93) hS2 (by omega) (fun hc93 => ?_) (fun hc93 => ?_)
          · have hk3 : k' < tc := tk_lt hA (by omega)
            refine m_must_y hE hS2 hk3 (fun S3 hS3 => ite_y hS3.2.2.2.1 ?_)
            refine m_settle (least := 5) hE hS3 (by omega) (by omega) (by omega) hrep hbn stP (fun S4 N4 c4 hS4 hseg hN4 hc4 => nm_e (nm_e ?_))
            have hcl := hS4.cls (.inr rfl) (by omega)
            refine y (k' + 1) p' F ?_ _ N4 c4 [] h (by rw [List.append_nil]; exact hcl) hseg hh (fun x hx => by cases hx) (fun j hj => (hc4 j hj).trans (hc j hj)) trivial n2 (by omega)
            rw [e0, hn0]; unfold gBr; simp only []; rw [hg]; simp only []; rw [if_pos hc93]
          · refine m_must_n hE hS2 b2 (fun S3 hB h20 => ite_n (by rw [h20]; decide) (m_badEnd hE hB (e k' ?_) (by omega)))
            rw [e0, hn0]; unfold gBr; simp only []; rw [hg]; simp only []; rw [if_neg hc93]
        · intro x hx S2 hRE
          refine e x ?_ S2 hRE
          rw [e0, hn0]; unfold gBr; simp only []; rw [hx]
    · refine m_badEnd hE hB (e k ?_) (by omega)
      rcases hs with ⟨hn0, hn1⟩ | ⟨s, nb', hn0, hn1, hok, hsim⟩
      · rw [e0, hn0]; rfl
      · omega
  · have e0 : gPart tk tv od so k p = gSimple tk tv od k p := by unfold gPart; rw [if_neg h191]
    exact r_simple hE hb nb h1b P k p N c S hk hp hst hbr hcx hS (fun k' p' F hg => y k' p' F (e0.trans hg)) (fun x hx => e x (e0.trans hx)) h191
/-- a level of operators -/
theorem r_loopA (hE : EnvR G B tk ts te tv tc od) {L Ls hb nb : Nat} {op : Nat → Nat} {st : Nat → Prop} {g : Nat → Nat → Ex} (hL : L < Ls) (hop : ∀ t, op t ≠ 0 → op t = stp t ∧ 2 ≤ op t ∧ op t ≤ 6 ∧ bn (op t) = L) (h51 : op 51 = 0) (hok : gOk tc g)
    (hs : RSim G B tk ts te tv tc od v1 K Ls 0 hb nb (GoP G v1 K tc) 3 4 (fun _ => True) st g) :
    ∀ n (P ps : List (Nat × Nat)) (k p N i h : Nat) (c : Cd) (F : Fn) (S : St), tc < k + n → k ≤ tc → p ≤ 50 → stopL P L → brk P + nb = 8 → RSt B tk ts te tv od k p N c (P ++ ps) S → Rep c (UU od) N ps 0 i h F → h ≤ hb + 1 → (∀ x, x ∈ ps → L ≤ bn x.1) → st (tk k) →
     (∀ k' p' F', gLoop tk op binF g n k p F = .inr (k', p', F') → ∀ S' N' c' ps' h', RSt B tk ts te tv od k' p' N' c' (P ++ ps') S' → Rep c' (UU od) N' ps' 0 i h' F' → h' ≤ hb + 1 → (∀ x, x ∈ ps' → L ≤ bn x.1) → (∀ j, j < i → c' j = c j) → (op (tk k') = 0 ∧ st (tk k')) → El G v1 K tc 4 3 k' S') →
     (∀ x, gLoop tk op binF g n k p F = .inl x → ∀ S', REn B (ts x) S' → K S') → El G v1 K tc 4 3 k S := by
  intro n
  have hA := hE.2.1
  have t4 := hA.1
  induction n with
  | zero => intro P ps k p N i h c F S h1; intros; omega
  | succ n ih =>
    intro P ps k p N i h c F S hn hk hp hst hbr hS hrep hh hbn hstk y e
    by_cases h0 : op (tk k) = 0
    · have er : gLoop tk op binF g (n + 1) k p F = .inr (k, p, F) := by unfold gLoop; rw [if_pos h0]
      exact y k p F er S N c ps h hS hrep hh hbn (fun _ _ => rfl) ⟨h0, hstk⟩
    · have hk2 : k < tc := tk_lt hA (fun e => h0 (by rw [e]; exact h51))
      obtain ⟨o1, o2, o3, o4⟩ := hop (tk k) h0
      refine El.sum hS.2.2.2.1 (fun n2 hn2 => m_bsum hS (fun o h1 h2 h3 => ?_) (fun hno => absurd ⟨by omega, by omega⟩ hno))
      have eo : o = op (tk k) := by omega
      refine ite_n (nI_n1 (by have : po o ≤ 32 := by unfold po; repeat' split
                                                     all_goals omega
                              omega)) (m_binds (by omega) ?_)
      rw [eo, o4]
      refine m_settle hE hS (by omega) (by have := bn_op o2 o3; omega) (by have := bn_op o2 o3; omega) hrep hbn hst (fun S1 N1 c1 hS1 hseg hN1 hc1 => ?_)
      have em1 := hS.2.2.2.2.2.2.2.2.2.2.2
      have len1 := hS.2.2.2.2.2.2.2.2.2.2.1
      rw [emN_app] at em1
      -- room on the pile: the token itself is not yet used
      have fin : f_X11_push G 87 (nI (po (op (tk k)))) 0 (fun S17 => f_X11_next G 87 (fun S18 => f_X11_readExpression_20_n G 87 v1 K n2 1 S18) S17) S1 := by
        refine m_push (x := 0) hE hS1 (by have := hS1.2.2.2.2.2.2.2.2.2.2.1; omega) (by omega) (fun S2 a1 a2 a3 a4 a5 a6 a7 a8 a9 => ?_)
        refine hE.2.2.2.2 S2 k _ a1 hk2 a2 (fun S3 b1 f3 => ?_)
        have len2 := hS1.2.2.2.2.2.2.2.2.2.2.1
        have em2 := hS1.2.2.2.2.2.2.2.2.2.2.2
        have bO : brk (P ++ [(op (tk k), 0)]) = brk P := by
          rw [brk_app]
          have : brk [(op (tk k), 0)] = 0 := by unfold brk; rw [if_neg (by show ¬ 13 ≤ op (tk k); omega)]; rfl
          rw [this]; rfl
        have hS3 : RSt B tk ts te tv od (k + 1) p N1 c1 (P ++ [(op (tk k), 0)]) S3 := by
          refine ⟨a1.trans f3.toE, b1, ?_, ?_, ?_, ?_, a7.ag (f3.2.1 99 (by omega)).1 (f3.2.1 100 (by omega)).1, a8.ag (f3.2.2.1 30 (by omega) (by omega) (by omega)) (f3.2.1 101 (by omega)).1 (f3.2.1 102 (by omega)).1, ?_, ?_, ?_, ?_⟩
          · rw [f3.2.2.1 19 (by omega) (by omega) (by omega)]; exact a3
          · rw [f3.2.2.1 20 (by omega) (by omega) (by omega)]; exact a4
          · rw [f3.2.2.1 24 (by omega) (by omega) (by omega)]; exact a5
          · rw [f3.2.2.1 27 (by omega) (by omega) (by omega)]; exact a6
          · rw [f3.2.2.1 31 (by omega) (by omega) (by omega), a9, bO]
          · intro x hx
            rw [List.mem_append, List.mem_singleton] at hx
            rcases hx with hx | rfl
            · exact hS1.2.2.2.2.2.2.2.2.2.1 x hx
            · exact ⟨o2, by show op (tk k) ≤ 14; omega, fun h => by have : op (tk k) = 11 ∨ op (tk k) = 12 := h; omega⟩
          · rw [List.length_append, List.length_singleton]; omega
          · rw [emN_app]
            have : emN [(op (tk k), 0)] = 1 := by unfold emN; rw [if_pos (by show op (tk k) ≤ 10; omega)]; rfl
            omega
        refine El.part hS3.2.2.2.1 (hs (P ++ [(op (tk k), 0)]) (k + 1) p N1 c1 S3 (by omega) hp (.inr ⟨P, _, rfl, by show bn (op (tk k)) < Ls; omega⟩) (by rw [bO]; exact hbr) trivial hS3 ?_ ?_) n2 (by omega)
        · intro k' p' F' hg S4 N4 c4 ps4 h4 hS4 hrep4 hh4 hbn4 hc4 hst4
          obtain ⟨d1, d2, d3⟩ := (hok (k + 1) p (by omega) hp).2 k' p' F' hg
          have er : gLoop tk op binF g (n + 1) k p F = gLoop tk op binF g n k' p' (binF (op (tk k)) F F') := by
            show (if op (tk k) = 0 then _ else _) = _
            rw [if_neg h0, hg]
          have l4 := hrep4.lt
          have l1 := hseg.keep.1
          have s1 : Seg c4 (UU od) 0 i N1 h F := hseg.keep.2 _ _ (fun j x1 x2 => hc4 j x2) (fun _ h => h)
          refine ih P ((op (tk k), 0) :: ps4) k' p' N4 i (max h (h4 + 1)) c4 (binF (op (tk k)) F F') S4 (by omega) d2 d3 hst hbr ?_ (.inl ⟨o2, o3, rfl, N1, h, h4, F, F', s1, hrep4, rfl, rfl⟩) (by omega) ?_ hst4 ?_ ?_
          · rw [List.append_assoc] at hS4; exact hS4
          · intro x hx
            rcases List.mem_cons.mp hx with rfl | hx
            · show L ≤ bn (op (tk k)); omega
            · have := hbn4 x hx; omega
          · intro k2 p2 F2 h2 S5 N5 c5 ps5 h5 hS5 hrep5 hh5 hbn5 hc5 hst5
            refine y k2 p2 F2 (er.trans h2) S5 N5 c5 ps5 h5 hS5 hrep5 hh5 hbn5 (fun j hj => ?_) hst5
            rw [hc5 j hj, hc4 j (by omega)]; exact hc1 j hj
          · intro x hx S5 hS5
            exact e x (er.trans hx) S5 hS5
        · intro x hx S4 hS4
          refine e x ?_ S4 hS4
          show (if op (tk k) = 0 then _ else _) = _
          rw [if_neg h0, hx]
      exact fin
theorem r_levA (hE : EnvR G B tk ts te tv tc od) {L Ls hb nb : Nat} {op : Nat → Nat} {st : Nat → Prop} {g : Nat → Nat → Ex} (hL : L < Ls) (hop : ∀ t, op t ≠ 0 → op t = stp t ∧ 2 ≤ op t ∧ op t ≤ 6 ∧ bn (op t) = L) (h51 : op 51 = 0) (hok : gOk tc g)
    (hs : RSim G B tk ts te tv tc od v1 K Ls 0 hb nb (GoP G v1 K tc) 3 4 (fun _ => True) st g) : RSim G B tk ts te tv tc od v1 K L 0 (hb + 1) nb (GoP G v1 K tc) 3 4 (fun _ => True) (fun t => op t = 0 ∧ st t) (gLv tk op binF g) := by
  intro P k p N c S hk hp hst hbr hcx hS y e
  have t4 := hE.2.1.1
  have stS : stopL P Ls := by
    rcases hst with h | ⟨P', x, h1, h2⟩
    · exact .inl h
    · exact .inr ⟨P', x, h1, by omega⟩
  refine hs P k p N c S hk hp stS hbr trivial hS ?_ ?_
  · intro k' p' F hg S1 N1 c1 ps h hS1 hrep hh hbn hc hst1
    obtain ⟨d1, d2, d3⟩ := (hok k p hk hp).2 k' p' F hg
    have er : gLv tk op binF g k p = gLoop tk op binF g 400 k' p' F := by unfold gLv; rw [hg]
    refine r_loopA hE hL hop h51 hok hs 400 P ps k' p' N1 N h c1 F S1 (by omega) d2 d3 hst hbr hS1 hrep (by omega) (fun x hx => by have := hbn x hx; omega) hst1 ?_ ?_
    · intro k2 p2 F2 h2 S5 N5 c5 ps5 h5 hS5 hrep5 hh5 hbn5 hc5 hst5
      exact y k2 p2 F2 (er.trans h2) S5 N5 c5 ps5 h5 hS5 hrep5 hh5 hbn5 (fun j hj => (hc5 j hj).trans (hc j hj)) hst5
    · intro x hx S5 hS5
      exact e x (er.trans hx) S5 hS5
  · intro x hx S1 hS1
    refine e x ?_ S1 hS1
    unfold gLv; rw [hx]
theorem opM_b (t : Nat) (h : opM t ≠ 0) : opM t = stp t ∧ 2 ≤ opM t ∧ opM t ≤ 6 ∧ bn (opM t) = 6 := by
  unfold opM at h ⊢
  split at h
  · rename_i h1
    rw [if_pos h1]
    have := bn_op (o := stp t) (by omega) (by omega)
    omega
  · exact absurd rfl h
theorem opA_b (t : Nat) (h : opA t ≠ 0) : opA t = stp t ∧ 2 ≤ opA t ∧ opA t ≤ 6 ∧ bn (opA t) = 5 := by
  unfold opA at h ⊢
  split at h
  · rename_i h1
    rw [if_pos h1]
    have := bn_op (o := stp t) (by omega) (by omega)
    omega
  · exact absurd rfl h
theorem RSim.st {L t hb nb cout : Nat} {Go : Nat → St → Prop} {Tout : Int32} {cx : List (Nat × Nat) → Prop} {st st' : Nat → Prop} {g : Nat → Nat → Ex} (h : RSim G B tk ts te tv tc od v1 K L t hb nb Go Tout cout cx st g) (hst : ∀ t, st t → st' t) : RSim G B tk ts te tv tc od v1 K L t hb nb Go Tout cout cx st' g :=
  fun P k p N c S hk hp h1 h2 h3 hS y e => h P k p N c S hk hp h1 h2 h3 hS (fun k' p' F hg S' N' c' ps h' a1 a2 a3 a4 a5 a6 => y k' p' F hg S' N' c' ps h' a1 a2 a3 a4 a5 (hst _ a6)) e
theorem r_sum1 (hE : EnvR G B tk ts te tv tc od) {hb nb : Nat} (h1b : 1 ≤ hb) (hs : RSub G B tk ts te tv tc od v1 K hb nb so) (ho : gOkO tc so) : RSim G B tk ts te tv tc od v1 K 5 0 (hb + 2) nb (GoP G v1 K tc) 3 4 (fun _ => True) (fun t => opA t = 0 ∧ opM t = 0) (gSum1 tk tv od so) := by
  have h1 := r_levA hE (L := 6) (Ls := 7) (op := opM) (by omega) opM_b rfl (gPart_ok hE.2.1 ho) (r_part hE h1b hs)
  have h2 := r_levA hE (L := 5) (Ls := 6) (op := opA) (by omega) opA_b rfl (gTerm_ok hE.2.1 ho) h1
  exact h2.st (fun t h => ⟨h.1, h.2.1⟩)
theorem r_sum (hE : EnvR G B tk ts te tv tc od) : ∀ n, RSim G B tk ts te tv tc od v1 K 5 0 (2 * n + 3) n (GoP G v1 K tc) 3 4 (fun _ => True) (fun t => opA t = 0 ∧ opM t = 0) (gSum tk tv od n) := by
  intro n
  induction n with
  | zero => exact r_sum1 (hb := 1) hE (by omega) (.inl ⟨rfl, rfl⟩) (fun s h => by cases h)
  | succ n ih => exact r_sum1 (hb := 2 * n + 3) hE (by omega) (.inr ⟨_, n, rfl, rfl, gSum_ok hE.2.1 n, ih⟩) (fun s h => by cases h; exact gSum_ok hE.2.1 n)
end
