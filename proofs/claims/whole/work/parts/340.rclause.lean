/-! The reference reads clauses: what it keeps, its small steps between expressions. -/
section
variable {G : Gm} {B S S' : St} {tk ts te tv : Nat → Nat} {tc : Nat} {od : Bool} {Q : Int32 → St → Prop} {K : St → Prop} {k p N n : Nat} {c : Cd} {T : Nat → Nat} {tn : Nat}
theorem t_sign {t a b : Nat} {so : Int32} {w : Int64} (hw : TokW a b so w) (h1 : S.1 87 17 = so) (h2 : S.2.1 87 18 = w) (ht : t < 256) (y : a = 100 + t → Q 1 S) (n : ¬ a = 100 + t → Q 0 S) : f_X11_isSign G 87 (nI t) Q S := by
  unfold f_X11_isSign
  rw [h1, h2]
  refine ite_c (fun d => ?_) (fun d => n (fun e => d ?_))
  · rcases hw with ⟨g1, g2⟩ | ⟨g1, g2, _⟩ | ⟨g1, g2, _⟩ | ⟨g1, g2, _⟩ | ⟨g1, g2, g3, g4⟩
    · rw [g2] at d; exact absurd d (by decide)
    · rw [g2] at d; exact absurd d (by decide)
    · rw [g2] at d; exact absurd d (by decide)
    · rw [g2] at d; exact absurd d (by decide)
    · rw [g4, nI_l (by omega)]
      refine ite_c (fun e => y ?_) (fun e => n ?_)
      · rw [cmp_eq, ← Int64.toInt_inj, lN_toInt (by omega), lN_toInt (by omega)] at e; omega
      · intro e'
        apply e
        rw [cmp_eq, e', show 100 + t - 100 = t from by omega]
  · rcases hw with ⟨g1, g2⟩ | ⟨g1, g2, _⟩ | ⟨g1, g2, _⟩ | ⟨g1, g2, _⟩ | ⟨g1, g2, g3, g4⟩
    · omega
    · omega
    · omega
    · omega
    · exact g3
theorem t_word {t a b : Nat} {so : Int32} {w : Int64} (hw : TokW a b so w) (h1 : S.1 87 17 = so) (h2 : S.2.1 87 18 = w) (ht : t < 27) (y : a = t → Q 1 S) (n : ¬ a = t → Q 0 S) : f_X11_isWord G 87 (wcd t) Q S := by
  unfold f_X11_isWord
  rw [h1, h2]
  refine ite_c (fun d => ?_) (fun d => n (fun e => d ?_))
  · rcases hw with ⟨g1, g2⟩ | ⟨g1, g2, g3⟩ | ⟨g1, g2, g3⟩ | ⟨g1, g2, _⟩ | ⟨g1, g2, g3, g4⟩
    · rw [g2] at d; exact absurd d (by decide)
    · refine ite_c (fun e => y ?_) (fun e => n ?_)
      · rw [cmp_eq, g3] at e; exact wcd_inj g1 ht e
      · intro e'; apply e; rw [cmp_eq, g3, e']
    · refine ite_c (fun e => ?_) (fun e => n (by omega))
      rw [cmp_eq] at e; exact absurd e (g3 t ht)
    · rw [g2] at d; exact absurd d (by decide)
    · rw [g3] at d; exact absurd d (by decide)
  · rcases hw with ⟨g1, g2⟩ | ⟨g1, g2, g3⟩ | ⟨g1, g2, g3⟩ | ⟨g1, g2, _⟩ | ⟨g1, g2, g3, g4⟩
    · omega
    · exact g2
    · omega
    · omega
    · omega
/-- what reading clauses from the n-th on changes -/
def FrL (n : Nat) (B S : St) : Prop := S.2.2 = B.2.2 ∧ (∀ i, i ≠ 87 → (i < 98 ∨ 102 < i) → i ≠ 119 → S.1 i = B.1 i) ∧ (∀ i, i ≠ 87 → S.2.1 i = B.2.1 i) ∧ (∀ j, j ≠ 15 → j ≠ 16 → j ≠ 17 → j ≠ 19 → j ≠ 20 → j ≠ 22 → j ≠ 24 → j ≠ 27 → j ≠ 30 → j ≠ 31 → S.1 87 j = B.1 87 j) ∧ (∀ j, j ≠ 18 → S.2.1 87 j = B.2.1 87 j) ∧ (∀ j, j < 8 * n → S.1 98 j = B.1 98 j ∧ S.1 119 j = B.1 119 j)
theorem FrL.refl (n : Nat) (B : St) : FrL n B B := ⟨rfl, fun _ _ _ _ => rfl, fun _ _ => rfl, fun _ _ _ _ _ _ _ _ _ _ _ => rfl, fun _ _ => rfl, fun _ _ => ⟨rfl, rfl⟩⟩
theorem FrL.trans {S'' : St} (h : FrL n S S') (h' : FrL n S' S'') : FrL n S S'' :=
  ⟨h'.1.trans h.1, fun i a b c => (h'.2.1 i a b c).trans (h.2.1 i a b c), fun i a => (h'.2.2.1 i a).trans (h.2.2.1 i a), fun j a b c d e f g i k l => (h'.2.2.2.1 j a b c d e f g i k l).trans (h.2.2.2.1 j a b c d e f g i k l), fun j a => (h'.2.2.2.2.1 j a).trans (h.2.2.2.2.1 j a), fun j a => ⟨(h'.2.2.2.2.2 j a).1.trans (h.2.2.2.2.2 j a).1, (h'.2.2.2.2.2 j a).2.trans (h.2.2.2.2.2 j a).2⟩⟩
theorem FrL.mono {n' : Nat} (h : FrL n B S) (hn : n' ≤ n) : FrL n' B S := ⟨h.1, h.2.1, h.2.2.1, h.2.2.2.1, h.2.2.2.2.1, fun j a => h.2.2.2.2.2 j (by omega)⟩
theorem FrE.toL (h : FrE B S) : FrL n B S := ⟨h.1, fun i a b c => h.2.1 i a (by omega) (by omega) (by omega) (by omega), h.2.2.1, fun j a b c d e f g i k l => h.2.2.2.1 j a b c d e g i k l, h.2.2.2.2, fun j a => ⟨by rw [h.2.1 98 (by omega) (by omega) (by omega) (by omega) (by omega)], by rw [h.2.1 119 (by omega) (by omega) (by omega) (by omega) (by omega)]⟩⟩
theorem FrL.u {i j : Nat} {v : Int32} (h : FrL n B S) (hi : ((i = 98 ∨ i = 119) ∧ 8 * n ≤ j) ∨ (i = 87 ∧ (j = 19 ∨ j = 20 ∨ j = 22))) : FrL n B (uI S i j v) := by
  have e : ∀ a b, ¬ (a = i ∧ b = j) → (uI S i j v).1 a b = S.1 a b := fun a b h => if_neg h
  refine h.trans ⟨rfl, fun a h1 h2 h3 => uI_n _ _ _ _ (by omega), fun _ _ => rfl, fun b h1 h2 h3 h4 h5 h6 h7 h8 h9 h10 => e 87 b (by omega), fun _ _ => rfl, fun b hb => ⟨e 98 b (by omega), e 119 b (by omega)⟩⟩
/-- the reference's reader between expressions, with its own base -/
def RTx (G : Gm) (T : Nat → Nat) (tn : Nat) (od : Bool) (n k p N : Nat) (c : Cd) (S : St) : Prop := TpR G S T tn ∧ S.1 87 21 = (if od = true then 1 else 0) ∧ CoR S ∧ S.1 87 22 = nI n ∧ RS0 S (tkT T tn) (stT T tn) (teT T tn) (tvT T tn) od k p N c S
theorem RTx.env (h : RTx G T tn od n k p N c S) : EnvR G S (tkT T tn) (stT T tn) (teT T tn) (tvT T tn) (tcT T tn) od := ⟨h.1.1, TkA_T h.1.2.2.2.1 h.1.2.2.2.2, h.2.1, h.2.2.1, m_nextT h.1⟩
theorem RTx.ofE {k' p' N' : Nat} {c' : Cd} (h : RTx G T tn od n k p N c S) (h' : RS0 S (tkT T tn) (stT T tn) (teT T tn) (tvT T tn) od k' p' N' c' S') : RTx G T tn od n k' p' N' c' S' := by
  have f := h'.1
  refine ⟨f.tp h.1, ?_, f.co h.2.2.1, ?_, FrE.refl S', h'.2⟩
  · rw [f.2.2.2.1 21 (by omega) (by omega) (by omega) (by omega) (by omega) (by omega) (by omega) (by omega) (by omega)]; exact h.2.1
  · rw [f.2.2.2.1 22 (by omega) (by omega) (by omega) (by omega) (by omega) (by omega) (by omega) (by omega) (by omega)]; exact h.2.2.2.1
theorem RTx.u {i j : Nat} {v : Int32} (h : RTx G T tn od n k p N c S) (hi : i = 98 ∨ i = 119) : RTx G T tn od n k p N c (uI S i j v) := by
  obtain ⟨h1, h2, h3, h4, _, h5, h6, h7, h8, h9, h10, h11⟩ := h
  have r : ∀ a, a ≠ i → (uI S i j v).1 a = S.1 a := fun a ha => uI_n _ _ _ _ ha
  refine ⟨⟨h1.1, by rw [r 87 (by omega)]; exact h1.2.1, by rw [r 97 (by omega)]; exact h1.2.2.1, h1.2.2.2⟩, by rw [r 87 (by omega)]; exact h2, h3, by rw [r 87 (by omega)]; exact h4, FrE.refl _, ?_, by rw [r 87 (by omega)]; exact h6, by rw [r 87 (by omega)]; exact h7, by rw [r 87 (by omega)]; exact h8, by rw [r 87 (by omega)]; exact h9, h10.ag (r 99 (by omega)) (r 100 (by omega)), h11⟩
  unfold RT; rw [r 87 (by omega)]; exact h5
theorem RTx.n22 (h : RTx G T tn od n k p N c S) : RTx G T tn od (n + 1) k p N c (uI S 87 22 (S.1 87 22 + 1)) := by
  obtain ⟨h1, h2, h3, h4, _, ⟨h5, h5b, h5c⟩, h6, h7, h8, h9, h10, h11⟩ := h
  have r : ∀ a, a ≠ 87 → (uI S 87 22 (S.1 87 22 + 1)).1 a = S.1 a := fun a ha => uI_n _ _ _ _ ha
  have q : ∀ a, a ≠ 22 → (uI S 87 22 (S.1 87 22 + 1)).1 87 a = S.1 87 a := fun a ha => uI_p _ _ _ _ ha
  refine ⟨⟨h1.1, by rw [q 14 (by omega)]; exact h1.2.1, by rw [r 97 (by omega)]; exact h1.2.2.1, h1.2.2.2⟩, by rw [q 21 (by omega)]; exact h2, h3, by rw [uI_s, if_pos rfl, h4, nI_1], FrE.refl _, ⟨?_, ?_, ?_⟩, by rw [q 19 (by omega)]; exact h6, by rw [q 20 (by omega)]; exact h7, by rw [q 24 (by omega)]; exact h8, by rw [q 27 (by omega)]; exact h9, h10.ag (r 99 (by omega)) (r 100 (by omega)), h11⟩
  · rw [q 15 (by omega)]; exact h5
  · rw [q 16 (by omega)]; exact h5b
  · rw [q 17 (by omega)]; exact h5c
theorem RS0.nx (h : RS0 B tk ts te tv od k p N c S) (ht : RT tk ts te tv (k + 1) S') (f : FrN S S') : RS0 B tk ts te tv od (k + 1) p N c S' := by
  obtain ⟨h1, h2, h3, h4, h5, h6, h7, h8⟩ := h
  refine ⟨h1.trans f.toE, ht, ?_, ?_, ?_, ?_, h7.ag (f.2.1 99 (by omega)).1 (f.2.1 100 (by omega)).1, by omega⟩
  · rw [f.2.2.1 19 (by omega) (by omega) (by omega)]; exact h3
  · rw [f.2.2.1 20 (by omega) (by omega) (by omega)]; exact h4
  · rw [f.2.2.1 24 (by omega) (by omega) (by omega)]; exact h5
  · rw [f.2.2.1 27 (by omega) (by omega) (by omega)]; exact h6
theorem RTx.next (h : RTx G T tn od n k p N c S) (hk : k < tcT T tn) (z : ∀ S', FrL n S S' → RTx G T tn od n (k + 1) p N c S' → K S') : f_X11_next G 87 K S :=
  m_nextT h.1 S k K (FrE.refl S) hk h.2.2.2.2.2.1 (fun S' r f => z S' f.toE.toL (h.ofE (h.2.2.2.2.nx r f)))
theorem RTx.nextk (h : RTx G T tn od n k p N c S) (hk : k < tcT T tn) (z : ∀ S', FrL n S S' → S'.1 98 = S.1 98 → S'.1 119 = S.1 119 → RTx G T tn od n (k + 1) p N c S' → K S') : f_X11_next G 87 K S :=
  m_nextT h.1 S k K (FrE.refl S) hk h.2.2.2.2.2.1 (fun S' r f => z S' f.toE.toL (f.2.1 98 (by omega)).1 (f.2.1 119 (by omega)).1 (h.ofE (h.2.2.2.2.nx r f)))
theorem RTx.must_y (h : RTx G T tn od n k p N c S) (hk : k < tcT T tn) (z : ∀ S', FrL n S S' → RTx G T tn od n (k + 1) p N c S' → K S') : f_X11_must G 87 1 K S := by
  have h20 := h.2.2.2.2.2.2.2.1
  exact ite_y h20 (ite_n (by decide) (ite_y h20 (h.next hk z)))
theorem RTx.must_n (h : RTx G T tn od n k p N c S) (z : ∀ S', FrL n S S' → S'.1 87 19 = nI (stT T tn k) → S'.1 87 20 = 1 → K S') : f_X11_must G 87 0 K S := by
  have h20 := h.2.2.2.2.2.2.2.1
  have h15 := h.2.2.2.2.2.1.1
  refine ite_y h20 (ite_y rfl (nm_e (nm_e (ite_n ?_ (z _ (((FrL.refl n S).u (by omega)).u (by omega)) ?_ ?_)))))
  · rw [uI_s, if_neg (by omega), uI_s, if_pos rfl]; decide
  · rw [uI_s, if_pos rfl, uI_s, if_neg (by omega)]; exact h15
  · rw [uI_s, if_neg (by omega), uI_s, if_pos rfl]
theorem RTx.word {t : Nat} (h : RTx G T tn od n k p N c S) (ht : t < 27) (y : tkT T tn k = t → Q 1 S) (n : ¬ tkT T tn k = t → Q 0 S) : f_X11_isWord G 87 (wcd t) Q S := t_word h.2.2.2.2.2.1.2.2 rfl rfl ht y n
theorem RTx.sign {t : Nat} (h : RTx G T tn od n k p N c S) (ht : t < 256) (y : tkT T tn k = 100 + t → Q 1 S) (n : ¬ tkT T tn k = 100 + t → Q 0 S) : f_X11_isSign G 87 (nI t) Q S := t_sign h.2.2.2.2.2.1.2.2 rfl rfl ht y n
theorem RTx.number {lo hi : Nat} (h : RTx G T tn od n k p N c S) (hk : k ≤ tcT T tn) (hh : hi ≤ 20) (hlo : lo ≤ 20) (y : tkT T tn k = 50 → lo ≤ tvT T tn k → tvT T tn k ≤ hi → ∀ S', FrL n S S' → RTx G T tn od n (k + 1) p N c S' → Q (nI (tvT T tn k)) S') (e : ¬ (tkT T tn k = 50 ∧ lo ≤ tvT T tn k ∧ tvT T tn k ≤ hi) → ∀ S' r, FrL n S S' → S'.1 87 19 = nI (stT T tn k) → S'.1 87 20 = 1 → Q r S') : f_X11_number G 87 (lN lo) (lN hi) Q S := by
  have hw := h.2.2.2.2.2.1.2.2
  have hA := h.env.2.1
  unfold f_X11_number
  refine nm_e (ite_c (fun d => ?_) (fun d => ?_))
  · have h50 := (tok50 hw).mp d
    have hk2 : k < tcT T tn := tk_lt hA (by omega)
    obtain ⟨w0, hww⟩ := tok50w hw h50
    have tvb := (hA.2.2 k).2.1
    refine m_in (fun h1 h2 => ite_n (by decide) ?_) (fun h1 => ite_y rfl ?_)
    · rcases hww with ⟨a1, a2⟩ | ⟨a1, a2⟩
      · rw [a2, lN_toInt (by omega), lN_toInt (by omega)] at h1 h2
        refine h.must_y hk2 (fun S1 f1 hS1 => ?_)
        rw [a2, lN32 (by omega)]
        exact y h50 (by omega) (by omega) S1 f1 hS1
      · exfalso
        rw [lN_toInt (by omega)] at h2; omega
    · refine h.must_n (fun S1 f1 h19 h20 => e (fun hn => ?_) S1 _ f1 h19 h20)
      apply h1
      rcases hww with ⟨a1, a2⟩ | ⟨a1, a2⟩
      · rw [a2, lN_toInt (by omega), lN_toInt (by omega), lN_toInt (by omega)]; omega
      · omega
  · exact h.must_n (fun S1 f1 h19 h20 => e (fun hn => d ((tok50 hw).mpr hn.1)) S1 _ f1 h19 h20)
/-- an expression, or none -/
theorem RTx.sum (h : RTx G T tn od n k p N c S) (hk : k ≤ tcT T tn) (hp : p ≤ 50) (y : ∀ k' p' F, gSum (tkT T tn) (tvT T tn) od 8 k p = .inr (k', p', F) → ∀ S' N' c' h', FrL n S S' → S'.1 98 = S.1 98 → S'.1 119 = S.1 119 → RTx G T tn od n k' p' N' c' S' → Seg c' (UU od) 0 N N' h' F → h' ≤ 32 → (∀ j, j < N → c' j = c j) → K S') (e : ∀ x, gSum (tkT T tn) (tvT T tn) od 8 k p = .inl x → ∀ S', FrL n S S' → S'.1 87 19 = nI (stT T tn x) → S'.1 87 20 = 1 → K S') : f_X11_readExpression G 87 0 K S :=
  m_rsum h.env h.2.2.2.2 hk hp (fun k' p' F hg S' N' c' h' hS' hs hh hc => y k' p' F hg S' N' c' h' hS'.1.toL (hS'.1.2.1 98 (by omega) (by omega) (by omega) (by omega) (by omega)) (hS'.1.2.1 119 (by omega) (by omega) (by omega) (by omega) (by omega)) (h.ofE hS') hs hh hc) (fun x hx S' hS' => e x hx S' hS'.1.toL hS'.2.1 hS'.2.2.1)
theorem RTx.test (h : RTx G T tn od n k p N c S) (hk : k ≤ tcT T tn) (hp : p ≤ 50) (y : ∀ k' p' F, gTest (tkT T tn) (tvT T tn) od 8 k p = .inr (k', p', F) → ∀ S' N' c' h', FrL n S S' → S'.1 98 = S.1 98 → S'.1 119 = S.1 119 → RTx G T tn od n k' p' N' c' S' → Seg c' (UU od) 1 N N' h' F → h' ≤ 32 → (∀ j, j < N → c' j = c j) → K S') (e : ∀ x, gTest (tkT T tn) (tvT T tn) od 8 k p = .inl x → ∀ S', FrL n S S' → S'.1 87 19 = nI (stT T tn x) → S'.1 87 20 = 1 → K S') : f_X11_readExpression G 87 1 K S :=
  m_rtest h.env h.2.2.2.2 hk hp (fun k' p' F hg S' N' c' h' hS' hs hh hc => y k' p' F hg S' N' c' h' hS'.1.toL (hS'.1.2.1 98 (by omega) (by omega) (by omega) (by omega) (by omega)) (hS'.1.2.1 119 (by omega) (by omega) (by omega) (by omega) (by omega)) (h.ofE hS') hs hh hc) (fun x hx S' hS' => e x hx S' hS'.1.toL hS'.2.1 hS'.2.2.1)
end
