-- needs: 388
/-! An order run by the reference. -/
/-- which orders have which sums -/
def zOk (z : Cz) : Prop := z.1 ≤ 4 ∧ (z.1 ≠ 4 → z.2.2.1 ≠ none) ∧ (z.1 = 0 ∨ z.1 = 2 → z.2.2.2.1 ≠ none)
theorem gOpt_y {g : Nat → Nat → Ex} {k0 k p k' p' : Nat} {o : Option Fn} {b : Bool} (hb : b = true) (h : gOpt b g k0 k p = .inr (k', p', o)) : o ≠ none := by
  unfold gOpt at h
  rw [if_pos hb] at h
  revert h
  cases g k p with
  | inl q => intro h; cases h
  | inr r => obtain ⟨q1, q2, q3⟩ := r; intro h; cases h; exact fun e => by cases e
theorem gClause_o {tk tv : Nat → Nat} {k p k' p' : Nat} {z : Cz} (h : gClause tk tv true k p = .inr (k', p', z)) : zOk z := by
  unfold gClause at h
  by_cases hv : vbB true ≤ tk k ∧ tk k ≤ vbB true + vbL true
  · rw [if_pos hv] at h
    cases h1 : gOpt (decide (tk k - vbB true ≠ vbL true)) (gSum tk tv true 8) (k + 1) (k + 1) p with
    | inl x => rw [h1] at h; cases h
    | inr r =>
      obtain ⟨k1, p1, one⟩ := r
      rw [h1] at h
      simp only [] at h
      cases h2 : gRest tk tv true (tk k - vbB true) k1 p1 with
      | inl x => rw [h2] at h; cases h
      | inr r2 =>
        obtain ⟨k2, p2, two, rep⟩ := r2
        rw [h2] at h
        simp only [] at h
        cases h3 : gOpt (decide (tk k2 = 9)) (gTest tk tv true 8) k2 (k2 + 1) p2 with
        | inl x => rw [h3] at h; cases h
        | inr r3 =>
          obtain ⟨k3, p3, test⟩ := r3
          rw [h3] at h
          cases h
          refine ⟨?_, fun hn => ?_, fun hn => ?_⟩
          · have : tk k ≤ 4 + 4 := hv.2
            show tk k - 4 ≤ 4; omega
          · exact gOpt_y (decide_eq_true hn) h1
          · show two ≠ none
            have hn : tk k - vbB true = 0 ∨ tk k - vbB true = 2 := hn
            unfold gRest at h2
            rw [if_pos rfl] at h2
            cases h4 : gTwo tk tv (tk k - vbB true) k1 p1 with
            | inl x => rw [h4] at h2; cases h2
            | inr r4 =>
              obtain ⟨k4, p4, two'⟩ := r4
              rw [h4] at h2
              simp only [] at h2
              cases h5 : gTms tk tv k4 with
              | inl x => rw [h5] at h2; cases h2
              | inr r5 =>
                obtain ⟨k5, rep'⟩ := r5
                rw [h5] at h2
                cases h2
                unfold gTwo at h4
                rw [if_pos hn] at h4
                by_cases ht : tk k1 = (if tk k - vbB true = 0 then 11 else 12)
                · rw [if_pos ht] at h4; exact gOpt_y rfl h4
                · rw [if_neg ht] at h4; cases h4
  · rw [if_neg hv] at h; cases h
theorem gText_o {tk tv : Nat → Nat} : ∀ mm n k p (L : Nat → Cz) q Lz, gText tk tv true mm n k p L = .inr (q, Lz) → (∀ i, i < n → zOk (L i)) → ∀ i, i < q → zOk (Lz i) := by
  intro mm
  induction mm with
  | zero => intro n k p L q Lz h; cases h
  | succ mm ih =>
    intro n k p L q Lz h hn
    rw [gText_s] at h
    cases hc : gClause tk tv true k p with
    | inl x => rw [hc] at h; cases h
    | inr r =>
      obtain ⟨k', p', z⟩ := r
      rw [hc] at h
      simp only [] at h
      have hz := gClause_o hc
      have hn' : ∀ i, i < n + 1 → zOk (updZ L n z i) := by
        intro i hi
        unfold updZ
        by_cases e : i = n
        · rw [if_pos e]; exact hz
        · rw [if_neg e]; exact hn i (by omega)
      unfold gAft at h
      by_cases h9 : tk k' = 159
      · rw [if_pos h9] at h
        by_cases hm : mm = 0
        · rw [if_pos hm] at h; cases h
        · rw [if_neg hm] at h; exact ih (n + 1) (k' + 1) p' _ q Lz h hn'
      · rw [if_neg h9] at h
        by_cases h51 : tk k' = 51
        · rw [if_pos h51] at h; cases h; exact hn'
        · rw [if_neg h51] at h; cases h
/-- what the reference touches while orders run -/
def FrO (S S' : St) : Prop := S'.2.2 = S.2.2 ∧ (∀ i, i ≠ 87 → i ≠ 90 → i ≠ 93 → i ≠ 94 → i ≠ 108 → i ≠ 110 → i ≠ 111 → S'.1 i = S.1 i) ∧ (∀ k, k ≠ 9 → k ≠ 35 → k ≠ 40 → k ≠ 53 → k ≠ 54 → k ≠ 56 → S'.1 87 k = S.1 87 k) ∧ (∀ k, 928 ≤ k → S'.1 93 k = S.1 93 k) ∧ (∀ i, i ≠ 87 → i ≠ 106 → i ≠ 107 → i ≠ 109 → S'.2.1 i = S.2.1 i)
theorem FrO.refl (S : St) : FrO S S := ⟨rfl, fun _ _ _ _ _ _ _ _ => rfl, fun _ _ _ _ _ _ _ => rfl, fun _ _ => rfl, fun _ _ _ _ _ => rfl⟩
theorem FrO.trans {S S' S'' : St} (h : FrO S S') (h' : FrO S' S'') : FrO S S'' := ⟨h'.1.trans h.1, fun i a b c d e f g => (h'.2.1 i a b c d e f g).trans (h.2.1 i a b c d e f g), fun k a b c d e f => (h'.2.2.1 k a b c d e f).trans (h.2.2.1 k a b c d e f), fun k a => (h'.2.2.2.1 k a).trans (h.2.2.2.1 k a), fun i a b c d => (h'.2.2.2.2 i a b c d).trans (h.2.2.2.2 i a b c d)⟩
theorem FrA.toO {S S' : St} (h : FrA S S') : FrO S S' := ⟨h.1, fun i a b c d _ f g => h.2.1 i a b c d f g, fun k a b c _ _ _ => h.2.2.1 k a b c, h.2.2.2.1, fun i a b _ d => h.2.2.2.2.1 i a b d⟩
theorem FrO.u {S S' : St} {i j : Nat} {v : Int32} (h : FrO S S') (hi : i = 108 ∨ (i = 87 ∧ (j = 53 ∨ j = 54 ∨ j = 56))) : FrO S (uI S' i j v) := by
  have e : ∀ a b, ¬ (a = i ∧ b = j) → (uI S' i j v).1 a b = S'.1 a b := fun a b h => if_neg h
  exact h.trans ⟨rfl, fun a h1 h2 h3 h4 h5 h6 h7 => uI_n _ _ _ _ (by omega), fun k h1 h2 h3 h4 h5 h6 => e 87 k (by omega), fun k _ => e 93 k (by omega), fun _ _ _ _ _ => rfl⟩
theorem FrO.uj {S S' : St} {j : Nat} {v : Int64} (h : FrO S S') : FrO S (uJ S' 107 j v) := h.trans ⟨rfl, fun _ _ _ _ _ _ _ _ => rfl, fun _ _ _ _ _ _ _ => rfl, fun _ _ => rfl, fun i _ _ c _ => uJ_n _ _ _ _ c⟩
theorem FrO.offC {S S' : St} (h : FrO S S') : OffC S S' := ⟨h.1, fun i hi => ⟨h.2.1 i (by omega) (by omega) (by omega) (by omega) (by omega) (by omega) (by omega), h.2.2.2.2 i (by omega) (by omega) (by omega) (by omega)⟩⟩
/-- what a sum touches -/
def FrV (S S' : St) : Prop := S'.2.2 = S.2.2 ∧ (∀ i k, ¬ (i = 87 ∧ (k = 40 ∨ k = 56)) → S'.1 i k = S.1 i k) ∧ (∀ i, i ≠ 87 → i ≠ 109 → S'.2.1 i = S.2.1 i)
theorem FrV.refl (S : St) : FrV S S := ⟨rfl, fun _ _ _ => rfl, fun _ _ _ => rfl⟩
theorem FrV.trans {S S' S'' : St} (h : FrV S S') (h' : FrV S' S'') : FrV S S'' := ⟨h'.1.trans h.1, fun i k a => (h'.2.1 i k a).trans (h.2.1 i k a), fun i a b => (h'.2.2 i a b).trans (h.2.2 i a b)⟩
theorem FrV.c {S S' : St} (h : FrV S S') {i : Nat} (hi : i ≠ 87) : S'.1 i = S.1 i := funext fun k => h.2.1 i k (fun e => hi e.1)
theorem FrV.toO {S S' : St} (h : FrV S S') : FrO S S' := ⟨h.1, fun i a _ _ _ _ _ _ => h.c a, fun k _ _ c _ _ f => h.2.1 87 k (by omega), fun k _ => by rw [h.c (by omega)], fun i a _ _ d => h.2.2 i a d⟩
section
variable {G : Gm} {S S' : St} {a b m : Rw} {L : Nat → Lw} {I : Im} {un tn : Nat} {u : Un} {T : Nat → Nat} {fl : Nat → Int32} {Q : Int32 → St → Prop} {K : St → Prop} {dn ls N : Nat} {c : Cd}
theorem Ref.frV (h : Ref G S b L I un u T tn fl m) (f : FrV S S') : Ref G S' b L I un u T tn fl m :=
  h.ag (fun k hk => f.2.1 87 k (by omega)) (fun i hi => f.c (by omega)) (fun i hi => f.2.2 i (by omega) (by omega)) (by rw [f.1])
/-- what a sum of an order needs -/
def NowR (S : St) (b : Rw) (L : Nat → Lw) (dn ls : Nat) : Prop := (∀ w, w < 4 → S.2.1 107 (w + 1) = eO b L dn ls w) ∧ ∀ p, p < b 0 → S.1 108 p = nI (ddA (frc b L) b p (sgt b p))
theorem NowR.frV (h : NowR S b L dn ls) (f : FrV S S') : NowR S' b L dn ls := by
  unfold NowR
  rw [f.2.2 107 (by omega) (by omega), f.c (i := 108) (by omega)]; exact h
theorem cxr_ord {last : Nat} (hS : ShR G S.2.2) (hr : RowR (S.1 90) b) (hM : Made (S.1 89)) (hV : Va b) (ho : S.1 87 21 = 1) (hN : last ≤ N) (hN4 : N ≤ 400) (hc : CdR S true N c) (hw : NowR S b L dn ls) : CxR G (uI S 87 40 0) last c (eO b L dn ls) (UU true) true K := by
  have h6 := hV.1
  have g1 : ∀ {S1 : St}, LkR 0 (uI S 87 40 0) S1 → ∀ i k, ¬ (i = 87 ∧ k = 40) → S1.1 i k = S.1 i k := by
    intro S1 h i k hk
    exact (h.1 i k hk).trans (if_neg hk)
  refine ⟨hS, by omega, ?_, ?_⟩
  · intro n top k S1 h1 hk ht z
    have o1 : ¬ S1.1 87 21 = 0 := by rw [(g1 h1 87 21 (by omega)).trans ho]; decide
    obtain ⟨c1, c2⟩ := hc k (by omega)
    have d1 : S1.1 99 k = nI (opR true (c k)) := (g1 h1 99 k (by omega)).trans c1
    have d2 : S1.1 100 k = nI (agR true (c k)) := (g1 h1 100 k (by omega)).trans c2
    rw [f_X11_reckonAll_10_n]
    refine ite_n (by rw [leI (by omega) (by omega)]; omega) (ite_y h1.2.1 (ite_n o1 (ex_y (by rw [h1.2.2.1]; exact hS.nOp) ⟨by rw [hS.nOp_l, in_iff (by omega)]; omega, ite_n o1 (ex_y (by rw [h1.2.2.1]; exact hS.nArg) ⟨by rw [hS.nArg_l, in_iff (by omega)]; omega, ?_⟩)⟩)))
    rw [clI (by omega), d1, d2]; exact z
  · intro n top k x S1 h1 hx ht z
    have hx : x < 22 := hx
    have o1 : ¬ S1.1 87 21 = 0 := by rw [(g1 h1 87 21 (by omega)).trans ho]; decide
    have hS1 : ShR G S1.2.2 := by rw [h1.2.2.1]; exact hS
    have e90 : S1.1 90 = S.1 90 := funext fun k => g1 h1 90 k (by omega)
    have e89 : S1.1 89 = S.1 89 := funext fun k => g1 h1 89 k (by omega)
    have e108 : S1.1 108 = S.1 108 := funext fun k => g1 h1 108 k (by omega)
    have e107 : S1.2.1 107 = S.2.1 107 := h1.2.2.2.1 107 (by omega)
    have hr1 : RowR (S1.1 90) b := by rw [e90]; exact hr
    have hM1 : Made (S1.1 89) := by rw [e89]; exact hM
    have fin : ∀ v : Int64, v = eO b L dn ls x → f_X11_reckonAll_212 G (f_X11_reckonAll_10_n G 87 (nI last) K n) 87 (nI last) (nI top) (nI k + 1) v (nI top) 109 K S1 := by
      intro v hv
      refine ⟨by rw [hS.rest_l, in_iff (by omega)]; exact ht, nm_e ?_⟩
      rw [clI (by omega), nI_1, nI_1, hv]; exact z
    by_cases x4 : x < 4
    · have e1 : opR true (1, x) = x + 1 := by
        show (if (1 : Nat) = 0 then 0 else if (1 : Nat) = 1 then (if true = true ∧ 4 ≤ x then 5 + (x - 4) / 6 else x + 1) else _) = _
        rw [if_neg (by decide), if_pos rfl, if_neg (by omega)]
      rw [e1]
      refine ite_n (by simp (disch := omega) only [lit, nI_add, pk_mul, leI, ltI, eqI]; omega) (ex_y hS1.rest (ite_n (by simp (disch := omega) only [lit, nI_add, pk_mul, leI, ltI, eqI]; omega) (ite_n o1 (ite_n (by simp (disch := omega) only [lit, nI_add, pk_mul, leI, ltI, eqI]; omega) (ex_y hS1.now ⟨by rw [hS1.now_l, in_iff (by omega)]; omega, ?_⟩)))))
      rw [clI (by omega), e107]
      exact fin _ (hw.1 x x4)
    · have e1 : opR true (1, x) = 5 + (x - 4) / 6 := by
        show (if (1 : Nat) = 0 then 0 else if (1 : Nat) = 1 then (if true = true ∧ 4 ≤ x then 5 + (x - 4) / 6 else x + 1) else _) = _
        rw [if_neg (by decide), if_pos rfl, if_pos ⟨rfl, by omega⟩]
      have e2 : agR true (1, x) = (x - 4) % 6 := by
        show (if (1 : Nat) = 0 then x else if (1 : Nat) = 1 then (if true = true ∧ 4 ≤ x then (x - 4) % 6 else 0) else _) = _
        rw [if_neg (by decide), if_pos rfl, if_pos ⟨rfl, by omega⟩]
      have dv : (x - 4) / 6 < 3 := by omega
      have md : (x - 4) % 6 < 6 := Nat.mod_lt _ (by omega)
      have xe : x = 4 + 6 * ((x - 4) / 6) + (x - 4) % 6 := by omega
      rw [e1, e2]
      generalize (x - 4) / 6 = r at dv xe
      generalize (x - 4) % 6 = p at md xe
      refine ite_n (by simp (disch := omega) only [lit, nI_add, pk_mul, leI, ltI, eqI]; omega) (ex_y hS1.rest (ite_n (by simp (disch := omega) only [lit, nI_add, pk_mul, leI, ltI, eqI]; omega) (ite_n o1 (ite_y (by simp (disch := omega) only [lit, nI_add, pk_mul, leI, ltI, eqI]; omega) ?_))))
      by_cases hp : p < b 0
      · refine m_person_y hS1 hr1 hV hp (ite_n (by decide) ?_)
        rcases (show r = 0 ∨ r = 1 ∨ r = 2 by omega) with rfl | rfl | rfl
        · refine ite_y rfl (m_sinsOf hS1 hr1 md (fin _ ?_))
          have := sn4_le hV (j := p) (by omega)
          rw [nI_l (by omega)]
          unfold eO
          rw [if_neg (by omega), if_neg (by omega), if_neg (by omega), if_neg (by omega), if_pos (by omega), show x - 4 = p from by omega, if_pos hp]
        · refine ite_n (by decide) (ite_y rfl (m_sightOf hS1 hr1 hM1 hV md (fin _ ?_)))
          have := sgt_lt hV (j := p) (by omega)
          rw [nI_l (by omega)]
          unfold eO
          rw [if_neg (by omega), if_neg (by omega), if_neg (by omega), if_neg (by omega), if_neg (by omega), if_pos (by omega), show x - 10 = p from by omega, if_pos hp]
        · refine ite_n (by decide) (ite_n (by decide) (ex_y hS1.doesNow ⟨by rw [hS1.doesNow_l, in_iff (by omega)]; omega, fin _ ?_⟩))
          have := ddA_le (lo := frc b L) (a := b) (j := p) (s := sgt b p)
          rw [clI (by omega), e108, hw.2 p hp, nI_l (by omega)]
          unfold eO
          rw [if_neg (by omega), if_neg (by omega), if_neg (by omega), if_neg (by omega), if_neg (by omega), if_neg (by omega), show x - 16 = p from by omega, if_pos hp]
      · refine m_person_n hS1 hr1 hV (.inr (by rw [leI (by omega) (by omega)]; omega)) (ite_y rfl (fin _ ?_))
        unfold eO
        rw [if_neg (by omega), if_neg (by omega), if_neg (by omega), if_neg (by omega)]
        rcases (show r = 0 ∨ r = 1 ∨ r = 2 by omega) with rfl | rfl | rfl
        · rw [if_pos (by omega), if_neg (by omega)]
        · rw [if_neg (by omega), if_pos (by omega), if_neg (by omega)]
        · rw [if_neg (by omega), if_neg (by omega), if_neg (by omega)]
theorem m_sumOf {A m0 m1 t : Nat} {o : Option Fn} (hR : Ref G S b L I un u T tn fl m) (hV : Va b) (hA : A + 1 < 96) (a0 : S.1 119 A = nI m0) (a1 : S.1 119 (A + 1) = nI m1) (hm : m1 ≤ N) (hN : N ≤ 400) (hc : CdR S true N c) (sg : SgO t c (UU true) m0 m1 o) (h56 : S.1 87 56 = 0) (hw : NowR S b L dn ls)
    (yo : o = none → Q (-1) S) (yn : ∀ f, o = some f → f (eO b L dn ls) = none → ∀ S' r, FrV S S' → S'.1 87 56 = 1 → Q r S') (ys : ∀ f v, o = some f → f (eO b L dn ls) = some v → ∀ S', FrV S S' → S'.1 87 56 = 0 → Q v.toInt32 S') : f_X11_sumOf G 87 (nI A) Q S := by
  have hS := hR.1.1
  refine ite_y h56 (ex_y hS.nOrder ⟨ino hS (by omega), ex_y hS.nOrder ?_⟩)
  rw [nI_1, clI (by omega), clI (by omega), a0, a1]
  refine ⟨ino hS (by omega), ?_⟩
  cases o with
  | none =>
    have sg : m0 = m1 := sg
    exact ite_y (by rw [sg]) (yo rfl)
  | some f =>
    obtain ⟨h, h32, sg⟩ := sg
    have lt := sg.keep.1
    refine ite_n (by rw [eqI (by omega) (by omega)]; omega) (nm_e (ex_y (by exact hS.nOrder) ⟨ino (S := S) hS (by omega), ex_y (by exact hS.nOrder) ⟨ino (S := S) hS (by omega), ?_⟩⟩))
    rw [uI_n _ _ _ _ (show 119 ≠ 87 by omega), a0, a1]
    have r0 : ∀ i, i ≠ 87 → (uI S 87 21 1).1 i = S.1 i := fun i hi => uI_n _ _ _ _ hi
    refine m_reckonAll (cxr_ord (N := N) (L := L) (dn := dn) (ls := ls) (S := uI S 87 21 1) hS (by rw [r0 90 (by omega)]; exact hR.1.2.1) (by rw [r0 89 (by omega)]; exact hR.1.2.2.1) hV (by rw [uI_s, if_pos rfl]) hm hN (hc.ag (r0 99 (by omega)) (r0 100 (by omega))) (by unfold NowR; rw [r0 108 (by omega)]; exact hw)) sg h32 (fun S2 l2 v2 => nm_e ?_)
    have e21 : S.1 87 21 = 0 := hR.1.2.2.2.2
    have q40 : (uI S2 87 21 0).1 87 40 = if f (eO b L dn ls) = none then 1 else 0 := by rw [uI_s, if_neg (by omega)]; exact l2.2.1
    refine ⟨?_, nm_e ?_⟩
    · rw [q40]
      split
      · exact .inr rfl
      · exact .inl rfl
    rw [q40]
    have fS : ∀ v, FrV S (uI (uI S2 87 21 0) 87 56 v) := by
      intro v
      refine ⟨l2.2.2.1, fun i k hk => ?_, fun i h1 h2 => funext fun k => l2.2.2.2 i k h2 (fun e => h1 e.1)⟩
      by_cases hi : i = 87
      · subst hi
        rw [uI_s, if_neg (by omega), uI_s]
        by_cases hk2 : k = 21
        · rw [if_pos hk2, hk2, e21]
        · rw [if_neg hk2, l2.1 87 k (by omega), uI_s, if_neg hk2]
      · rw [uI_n _ _ _ _ hi, uI_n _ _ _ _ hi, l2.1 i k (by omega), uI_n _ _ _ _ hi]
    cases hf : f (eO b L dn ls) with
    | none =>
      rw [if_pos rfl]
      exact yn f rfl hf _ _ (fS 1) (by rw [uI_s, if_pos rfl])
    | some v =>
      rw [if_neg (by simp)]
      have q41 : (uI (uI S2 87 21 0) 87 56 0).2.1 87 41 = v := v2 v hf
      rw [q41]
      exact ys f v rfl hf _ (fS 0) (by rw [uI_s, if_pos rfl])
theorem m_act {v : Nat} {j j' k k' : Int32} (hR : Ref G S b L I un u T tn fl m) (hV : Va b) (hu : un ≤ 16) (hv : v ≤ 4) (ej : v ≠ 4 → j' = j) (ek : v = 0 ∨ v = 2 → k' = k)
    (h1 : ∀ n, actA (frc b L) b v j k 1 = .inl n → ∀ S', Ref G S' b L I un u T tn fl m → FrA S S' → Q (-(nI n)) S')
    (h2 : ∀ r b', actA (frc b L) b v j k 1 = .inr (r, b') → ∀ S', Ref G S' b' L I (min 16 (un + 1)) (psh (v, b) u) T tn fl m → FrA S S' → Q (nI r) S') : f_X11_act G 87 (nI (aV v)) j' k' Q S := by
  unfold f_X11_act
  rcases (show v = 0 ∨ v = 1 ∨ v = 2 ∨ v = 3 ∨ v = 4 by omega) with rfl | rfl | rfl | rfl | rfl
  · rw [ej (by omega), ek (by omega)]
    exact ite_y rfl (m_sinNow hR hV hu (fun n hn => h1 n hn S hR (FrA.refl S)) h2)
  · rw [ej (by omega)]
    exact ite_n (by decide) (ite_n (by decide) (ite_y rfl (m_grindNow (k := k) (y := 1) hR hV hu h1 h2)))
  · rw [ej (by omega), ek (by omega)]
    exact ite_n (by decide) (ite_y rfl (m_swapNow (y := 1) hR hV hu (fun n hn => h1 n hn S hR (FrA.refl S)) h2))
  · rw [ej (by omega)]
    exact ite_n (by decide) (ite_n (by decide) (ite_n (by decide) (ite_y rfl (m_clothNow (k := k) (y := 1) hR hV hu (fun n hn => h1 n hn S hR (FrA.refl S)) h2))))
  · exact ite_n (by decide) (ite_n (by decide) (ite_n (by decide) (ite_n (by decide) (m_passNow (j := j) (k := k) (y := 1) hR hV hu (fun n hn => h1 n hn S hR (FrA.refl S)) h2))))
theorem m_run {i : Nat} {z : Cz} (hR : Ref G S b L I un u T tn fl m) (hV : Va b) (hu : un ≤ 16) (hi : i < 12) (hz : zOk z) (hN : N ≤ 400) (hc : CdR S true N c) (ho : ORec i z S c N) (h53 : S.1 87 53 = nI dn) (h54 : S.1 87 54 = nI ls - 1) (hd : dn ≤ 1000) (hl : ls ≤ 1001)
    (yn : run1 L z (b, un, u, dn, ls) = none → ∀ S', Ref G S' b L I un u T tn fl m → FrO S S' → Q (-3) S')
    (ys : ∀ b' un' u' dn' ls', run1 L z (b, un, u, dn, ls) = some (b', un', u', dn', ls') → ∀ S', Ref G S' b' L I un' u' T tn fl m → FrO S S' → S'.1 87 53 = nI dn' → S'.1 87 54 = nI ls' - 1 → Q 0 S') : f_X11_run G 87 (nI (8 * i)) Q S := by
  have h6 := hV.1
  have hb4 := hV.2.2.2.2.1
  have hsc := hV.sc
  have hS := hR.1.1
  obtain ⟨o0, o1, o7, o20, m0, m1, m2, m3, m4, m5, p1, p2, p3, p4, p5, p6, l1, l3, l5, s0, s1, s2⟩ := ho
  have e1 : nI (8 * i) + 1 = nI (8 * i + 1) := by rw [nI_1]
  have e3 : nI (8 * i) + 3 = nI (8 * i + 3) := by rw [show (3 : Int32) = nI 3 from rfl, nI_add]
  have e5 : nI (8 * i) + 5 = nI (8 * i + 5) := by rw [show (5 : Int32) = nI 5 from rfl, nI_add]
  have e6 : nI (8 * i) + 6 = nI (8 * i + 6) := by rw [show (6 : Int32) = nI 6 from rfl, nI_add]
  have t4 : S.1 90 ((4 : Int32).toNatClampNeg) = nI (b 4) := hR.1.2.1.2.2.2.2.1 0 (by omega)
  have t7 : S.1 90 ((7 : Int32).toNatClampNeg) = nI (b 7) := hR.1.2.1.2.2.2.2.1 3 (by omega)
  -- behind the words
  have run : ∀ S1, Ref G S1 b L I un u T tn fl m → FrO S S1 → S1.1 87 53 = nI dn → S1.1 87 54 = nI ls - 1 → S1.1 87 56 = 0 → NowR S1 b L dn ls → tO z.2.2.2.2 (eO b L dn ls) = true → f_X11_run_129 G 87 (nI (8 * i)) Q S1 := by
    intro S1 hR1 f1 g53 g54 g56 hw hto
    have c1 : ∀ {S2 : St}, FrV S1 S2 → S2.1 119 = S.1 119 ∧ S2.1 99 = S.1 99 ∧ S2.1 100 = S.1 100 := fun f2 => ⟨by rw [f2.c (by omega)]; exact f1.2.1 119 (by omega) (by omega) (by omega) (by omega) (by omega) (by omega) (by omega), by rw [f2.c (by omega)]; exact f1.2.1 99 (by omega) (by omega) (by omega) (by omega) (by omega) (by omega) (by omega), by rw [f2.c (by omega)]; exact f1.2.1 100 (by omega) (by omega) (by omega) (by omega) (by omega) (by omega) (by omega)⟩
    have bad1 : vO z.2.2.1 (eO b L dn ls) = none → run1 L z (b, un, u, dn, ls) = none := by
      intro h; unfold run1; rw [if_pos hto, h]
    have bad2 : vO z.2.2.2.1 (eO b L dn ls) = none → run1 L z (b, un, u, dn, ls) = none := by
      intro h; unfold run1; rw [if_pos hto]
      cases vO z.2.2.1 (eO b L dn ls) with
      | none => rfl
      | some j => simp only []; rw [h]
    have vn : ∀ {f : Fn}, f (eO b L dn ls) = none → vO (some f) (eO b L dn ls) = none := by
      intro f hf
      show (match f (eO b L dn ls) with | none => none | some v => some v.toInt32) = none
      rw [hf]
    have vs : ∀ {f : Fn} {v : Int64}, f (eO b L dn ls) = some v → vO (some f) (eO b L dn ls) = some v.toInt32 := by
      intro f v hf
      show (match f (eO b L dn ls) with | none => none | some v => some v.toInt32) = some v.toInt32
      rw [hf]
    -- the deed
    have deed : ∀ S3 j j' k k', FrV S1 S3 → S3.1 87 56 = 0 → vO z.2.2.1 (eO b L dn ls) = some j → vO z.2.2.2.1 (eO b L dn ls) = some k → (z.1 ≠ 4 → j' = j) → (z.1 = 0 ∨ z.1 = 2 → k' = k) → (if (S3.1 87 56) = 0 then (∃ a6, S3.2.2 87 52 = some a6 ∧ (vp_in (nI (8 * i)) (G.2.1 a6) ∧ f_X11_act G 87 (S3.1 a6 (nI (8 * i)).toNatClampNeg) j' k' (fun r9 S8 => (if 0 ≤ r9 then (∃ a11, S8.2.2 87 52 = some a11 ∧ (vp_in (nI (8 * i)) (G.2.1 a11) ∧ (if (S8.1 a11 (nI (8 * i)).toNatClampNeg) = 2 then f_X11_run_197 G 87 r9 87 Q S8 else f_X11_run_197 G 87 (S8.1 87 54) 87 Q S8))) else Q (-3) S8)) S3)) else Q (-3) S3) := by
      intro S3 j j' k k' f3 g3 hj hk ej ek
      have hR3 := hR1.frV f3
      have hS3 := hR3.1.1
      have er : run1 L z (b, un, u, dn, ls) = act1 L z (b, un, u, dn, ls) j k := by unfold run1; rw [if_pos hto, hj]; simp only []; rw [hk]
      refine ite_y g3 (ex_y hS3.nOrder ⟨ino hS3 (by omega), ?_⟩)
      rw [clI (by omega), (c1 f3).1, o0]
      have fB := f1.trans f3.toO
      refine m_act hR3 hV hu o1 ej ek (fun n hn S4 hR4 f4 => ?_) (fun r b' hb S4 hR4 f4 => ?_)
      · have hn3 := actA_n hn
        refine ite_n (neg_n hn3.1 (by omega)).1 (yn ?_ S4 hR4 (fB.trans f4.toO))
        rw [er]; unfold act1; simp only []; rw [hn]
      · obtain ⟨hVb, hr, he⟩ := actA_ok hV hb
        have hS4 := hR4.1.1
        have d119 : S4.1 119 = S.1 119 := by rw [f4.2.1 119 (by omega) (by omega) (by omega) (by omega) (by omega) (by omega)]; exact (c1 f3).1
        have d53 : S4.1 87 53 = nI dn := by rw [f4.2.2.1 53 (by omega) (by omega) (by omega), f3.2.1 87 53 (by omega)]; exact g53
        have d54 : S4.1 87 54 = nI ls - 1 := by rw [f4.2.2.1 54 (by omega) (by omega) (by omega), f3.2.1 87 54 (by omega)]; exact g54
        refine ite_y (nn0 (by omega)) (ex_y hS4.nOrder ⟨ino hS4 (by omega), ?_⟩)
        rw [d119, o0]
        have fin : ∀ ls' v, run1 L z (b, un, u, dn, ls) = some (b', min 16 (un + 1), psh (z.1, b) u, dn + 1, ls') → v = nI ls' - 1 → f_X11_run_197 G 87 v 87 Q S4 := by
          intro ls' v hrun hv
          refine nm_e (nm_e ?_)
          have q53 : (uI S4 87 54 v).1 87 53 = nI dn := by rw [uI_s, if_neg (by omega)]; exact d53
          rw [q53, nI_1]
          refine ys b' _ _ _ ls' hrun _ ((hR4.u87 (by omega)).u87 (by omega)) (((fB.trans f4.toO).u (by omega)).u (by omega)) ?_ ?_
          · rw [uI_s, if_pos rfl]
          · rw [uI_s, if_neg (by omega), uI_s, if_pos rfl]; exact hv
        have hz5 : aV z.1 = 2 ↔ z.1 = 1 := by
          have := hz.1
          unfold aV
          rcases (show z.1 = 0 ∨ z.1 = 1 ∨ z.1 = 2 ∨ z.1 = 3 ∨ z.1 = 4 by omega) with h | h | h | h | h <;> rw [h] <;> decide
        have av5 : aV z.1 ≤ 4 := by unfold aV; split <;> (try split) <;> omega
        refine ite_c (fun e => ?_) (fun e => ?_)
        · rw [show (2 : Int32) = nI 2 from rfl, eqI (by omega) (by omega), hz5] at e
          refine fin (r + 1) _ ?_ (nI_pred r).symm
          rw [er]; unfold act1; simp only []; rw [hb]; simp only []; rw [if_pos e]
        · rw [show (2 : Int32) = nI 2 from rfl, eqI (by omega) (by omega), hz5] at e
          refine fin ls _ ?_ d54
          rw [er]; unfold act1; simp only []; rw [hb]; simp only []; rw [if_neg e]
    -- the second sum
    have two : ∀ S3 j j', FrV S1 S3 → S3.1 87 56 = 0 → vO z.2.2.1 (eO b L dn ls) = some j → (z.1 ≠ 4 → j' = j) → f_X11_sumOf G 87 (nI (8 * i) + 3) (fun r4 S3 => (if (S3.1 87 56) = 0 then (∃ a6, S3.2.2 87 52 = some a6 ∧ (vp_in (nI (8 * i)) (G.2.1 a6) ∧ f_X11_act G 87 (S3.1 a6 (nI (8 * i)).toNatClampNeg) j' r4 (fun r9 S8 => (if 0 ≤ r9 then (∃ a11, S8.2.2 87 52 = some a11 ∧ (vp_in (nI (8 * i)) (G.2.1 a11) ∧ (if (S8.1 a11 (nI (8 * i)).toNatClampNeg) = 2 then f_X11_run_197 G 87 r9 87 Q S8 else f_X11_run_197 G 87 (S8.1 87 54) 87 Q S8))) else Q (-3) S8)) S3)) else Q (-3) S3)) S3 := by
      intro S3 j j' f3 g3 hj ej
      have hR3 := hR1.frV f3
      obtain ⟨d1, d2, d3⟩ := c1 f3
      rw [e3]
      refine m_sumOf (m0 := m2) (m1 := m3) (t := 0) (o := z.2.2.2.1) (N := N) (c := c) (L := L) (dn := dn) (ls := ls) hR3 hV (by omega) (by rw [d1]; exact p3) (by rw [d1]; exact p4) l3 hN (hc.ag d2 d3) s1 g3 (hw.frV f3) (fun hn => ?_) (fun f hf hv S4 r f4 g4 => ?_) (fun f v hf hv S4 f4 g4 => ?_)
      · exact deed S3 j j' 0 (-1) f3 g3 hj (by rw [hn]; rfl) ej (fun h => absurd hn (hz.2.2 h))
      · refine ite_n (by rw [g4]; decide) (yn (bad2 (by rw [hf]; exact vn hv)) S4 (hR3.frV f4) (f1.trans (f3.trans f4).toO))
      · exact deed S4 j j' _ _ (f3.trans f4) g4 hj (by rw [hf]; exact vs hv) ej (fun _ => rfl)
    unfold f_X11_run_129
    rw [e1]
    obtain ⟨d1, d2, d3⟩ := c1 (FrV.refl S1)
    refine m_sumOf (m0 := m0) (m1 := m1) (t := 0) (o := z.2.2.1) (N := N) (c := c) (L := L) (dn := dn) (ls := ls) hR1 hV (by omega) (by rw [d1]; exact p1) (by rw [d1]; exact p2) l1 hN (hc.ag d2 d3) s0 g56 hw (fun hn => ?_) (fun f hf hv S4 r f4 g4 => ?_) (fun f v hf hv S4 f4 g4 => ?_)
    · refine two S1 0 (-1) (FrV.refl S1) g56 (by rw [hn]; rfl) (fun h => absurd hn (hz.2.1 h))
    · -- broken: the second is not asked
      refine ite_n (by rw [g4]; decide) (ite_n (by rw [g4]; decide) (yn (bad1 (by rw [hf]; exact vn hv)) S4 (hR1.frV f4) (f1.trans f4.toO)))
    · exact two S4 _ _ f4 g4 (by rw [hf]; exact vs hv) (fun _ => rfl)
  -- the test
  have test : ∀ S1, Ref G S1 b L I un u T tn fl m → FrO S S1 → S1.1 87 53 = nI dn → S1.1 87 54 = nI ls - 1 → NowR S1 b L dn ls → ∀ S4, S4 = uI S1 87 56 0 → (∃ a5, S4.2.2 87 52 = some a5 ∧ (vp_in (nI (8 * i) + 5) (G.2.1 a5) ∧ (∃ a7, S4.2.2 87 52 = some a7 ∧ (vp_in (nI (8 * i) + 6) (G.2.1 a7) ∧ (if (S4.1 a7 (nI (8 * i) + 6).toNatClampNeg) ≤ (S4.1 a5 (nI (8 * i) + 5).toNatClampNeg) then f_X11_run_129 G 87 (nI (8 * i)) Q S4 else f_X11_sumOf G 87 (nI (8 * i) + 5) (fun r11 S10 => (if (S10.1 87 56) = 0 then (if r11 = 0 then Q 0 S10 else f_X11_run_129 G 87 (nI (8 * i)) Q S10) else Q 0 S10)) S4))))) := by
    intro S1 hR1 f1 g53 g54 hw
    refine nm_e ?_
    have hR2 : Ref G (uI S1 87 56 0) b L I un u T tn fl m := hR1.u87 (by omega)
    have f2 : FrO S (uI S1 87 56 0) := f1.u (by omega)
    have k53 : (uI S1 87 56 0).1 87 53 = nI dn := by rw [uI_s, if_neg (by omega)]; exact g53
    have k54 : (uI S1 87 56 0).1 87 54 = nI ls - 1 := by rw [uI_s, if_neg (by omega)]; exact g54
    have k56 : (uI S1 87 56 0).1 87 56 = 0 := by rw [uI_s, if_pos rfl]
    have hw2 : NowR (uI S1 87 56 0) b L dn ls := by unfold NowR; rw [uI_n _ _ _ _ (by omega)]; exact hw
    generalize uI S1 87 56 0 = S2 at hR2 f2 k53 k54 k56 hw2 ⊢
    have hS2 := hR2.1.1
    have d119 : S2.1 119 = S.1 119 := f2.2.1 119 (by omega) (by omega) (by omega) (by omega) (by omega) (by omega) (by omega)
    have d99 : S2.1 99 = S.1 99 := f2.2.1 99 (by omega) (by omega) (by omega) (by omega) (by omega) (by omega) (by omega)
    have d100 : S2.1 100 = S.1 100 := f2.2.1 100 (by omega) (by omega) (by omega) (by omega) (by omega) (by omega) (by omega)
    rw [e5, e6]
    refine ex_y hS2.nOrder ⟨ino hS2 (by omega), ex_y hS2.nOrder ⟨ino hS2 (by omega), ?_⟩⟩
    rw [clI (by omega), clI (by omega), d119, p5, p6]
    cases hte : z.2.2.2.2 with
    | none =>
      rw [hte] at s2
      have s2 : m4 = m5 := s2
      exact ite_y (by rw [leI (by omega) (by omega)]; omega) (run S2 hR2 f2 k53 k54 k56 hw2 (by rw [hte]; rfl))
    | some f =>
      have s2' := s2
      rw [hte] at s2
      obtain ⟨hh, h32, sg⟩ := s2
      have lt := sg.keep.1
      have v01 := fun v hv => sg.val.2.1 rfl (eO b L dn ls) v hv
      refine ite_n (by rw [leI (by omega) (by omega)]; omega) (m_sumOf (m0 := m4) (m1 := m5) (t := 1) (o := z.2.2.2.2) (N := N) (c := c) (L := L) (dn := dn) (ls := ls) hR2 hV (by omega) (by rw [d119]; exact p5) (by rw [d119]; exact p6) l5 hN (hc.ag d99 d100) s2' k56 hw2 (fun hn => by rw [hte] at hn; cases hn) (fun f' hf hv S4 r f4 g4 => ?_) (fun f' v hf hv S4 f4 g4 => ?_))
      · rw [hte] at hf; cases hf
        have hno : ¬ tO z.2.2.2.2 (eO b L dn ls) = true := by
          rw [hte]; intro h
          have := of_decide_eq_true h
          rw [hv] at this; cases this
        refine ite_n (by rw [g4]; decide) (ys b un u dn ls (by unfold run1; rw [if_neg hno]) S4 (hR2.frV f4) (f2.trans f4.toO) ?_ ?_)
        · rw [f4.2.1 87 53 (by omega)]; exact k53
        · rw [f4.2.1 87 54 (by omega)]; exact k54
      · rw [hte] at hf; cases hf
        refine ite_y g4 ?_
        rcases v01 v hv with rfl | rfl
        · have hno : ¬ tO z.2.2.2.2 (eO b L dn ls) = true := by
            rw [hte]; intro h
            have := of_decide_eq_true h
            rw [hv] at this
            exact absurd this (by decide)
          refine ite_y rfl (ys b un u dn ls (by unfold run1; rw [if_neg hno]) S4 (hR2.frV f4) (f2.trans f4.toO) ?_ ?_)
          · rw [f4.2.1 87 53 (by omega)]; exact k53
          · rw [f4.2.1 87 54 (by omega)]; exact k54
        · refine ite_n (by decide) (run S4 (hR2.frV f4) (f2.trans f4.toO) ?_ ?_ g4 (hw2.frV f4) (by rw [hte]; exact decide_eq_true hv))
          · rw [f4.2.1 87 53 (by omega)]; exact k53
          · rw [f4.2.1 87 54 (by omega)]; exact k54
  -- what each does
  have does : ∀ (d p : Nat) (S1 : St), d + p = b 0 → Ref G S1 b L I un u T tn fl m → FrO S S1 → S1.1 87 53 = nI dn → S1.1 87 54 = nI ls - 1 → (∀ w, w < 4 → S1.2.1 107 (w + 1) = eO b L dn ls w) → (∀ q, q < p → S1.1 108 q = nI (ddA (frc b L) b q (sgt b q))) → f_X11_run_51_n G 87 (nI (8 * i)) Q (d + 1) (nI p) S1 := by
    intro d
    induction d with
    | zero =>
      intro p S1 hd hR1 f1 g53 g54 w1 w2
      have r0 : S1.1 90 ((0 : Int32).toNatClampNeg) = nI (b 0) := hR1.1.2.1.1
      rw [f_X11_run_51_n]
      refine ex_y hR1.1.1.row ⟨inrow (n := 0) hR1.1.1 (by omega), ?_⟩
      rw [r0]
      exact ite_y (by simp (disch := omega) only [lit, nI_add, pk_mul, leI, ltI, eqI]; omega) (test S1 hR1 f1 g53 g54 ⟨w1, fun q hq => w2 q (by omega)⟩)
    | succ d ih =>
      intro p S1 hd hR1 f1 g53 g54 w1 w2
      have r0 : S1.1 90 ((0 : Int32).toNatClampNeg) = nI (b 0) := hR1.1.2.1.1
      rw [f_X11_run_51_n]
      refine ex_y hR1.1.1.row ⟨inrow (n := 0) hR1.1.1 (by omega), ?_⟩
      rw [r0, nI_1]
      refine ite_n (by simp (disch := omega) only [lit, nI_add, pk_mul, leI, ltI, eqI]; omega) (ex_y hR1.1.1.doesNow (m_sightOf hR1.1.1 hR1.1.2.1 hR1.1.2.2.1 hV (by omega) (m_doesOf (hR1.rfp hV) (by omega) (sgt_lt hV (by omega)) (fun S2 f2 => ?_))))
      have hR2 := hR1.frR f2
      refine ⟨by rw [hR2.1.1.doesNow_l, in_iff (by omega)]; omega, nm_e ?_⟩
      rw [clI (by omega)]
      refine ih (p + 1) _ (by omega) (hR2.ag (fun k _ => by rw [uI_n _ _ _ _ (by omega)]) (fun i hi => uI_n _ _ _ _ (by omega)) (fun _ _ => rfl) rfl) ((f1.trans f2.toA.toO).u (.inl rfl)) ?_ ?_ ?_ (fun q hq => ?_)
      · rw [uI_n _ _ _ _ (by omega), f2.2.2.1 53 (by omega) (by omega)]; exact g53
      · rw [uI_n _ _ _ _ (by omega), f2.2.2.1 54 (by omega) (by omega)]; exact g54
      · intro w hw
        show S2.2.1 107 (w + 1) = _
        rw [f2.2.2.2.1 107 (by omega) (by omega) (by omega)]; exact w1 w hw
      · rw [uI_s]
        by_cases e : q = p
        · rw [if_pos e, e]
        · rw [if_neg e, f2.2.1 108 (by omega)]; exact w2 q (by omega)
  have i107 : ∀ {j : Nat}, j < 13 → vp_in (nI j) (G.2.1 107) := fun hj => by rw [hS.now_l, in_iff (by omega)]; exact hj
  refine ex_y hS.now (ex_y hS.row ⟨inrow (n := 4) hS (by omega), i107 (j := 1) (by omega), nm_e (ex_y (by exact hS.now) ⟨i107 (j := 2) (by omega), nm_e (ex_y (by exact hS.now) ⟨i107 (j := 3) (by omega), nm_e (ex_y (by exact hS.now) (ex_y (by exact hS.row) ⟨inrow (S := S) (n := 7) hS (by omega), i107 (j := 4) (by omega), nm_e ?_⟩))⟩)⟩)⟩)
  show f_X11_run_51 G 87 (nI (8 * i)) Q 0 (uJ (uJ (uJ (uJ S 107 1 (S.1 90 ((4 : Int32).toNatClampNeg)).toInt64) 107 2 (S.1 87 53).toInt64) 107 3 (S.1 87 54).toInt64) 107 4 (S.1 90 ((7 : Int32).toNatClampNeg)).toInt64)
  rw [t4, t7, h53, h54]
  refine ⟨b 0 + 1, does (b 0) 0 _ (by omega) (hR.ag (fun _ _ => rfl) (fun _ _ => rfl) (fun i hi => ?_) rfl) ((((FrO.refl S).uj).uj).uj).uj h53 h54 (fun w hw => ?_) (fun q hq => absurd hq (by omega))⟩
  · rw [uJ_n _ _ _ _ (by omega), uJ_n _ _ _ _ (by omega), uJ_n _ _ _ _ (by omega), uJ_n _ _ _ _ (by omega)]
  · unfold eO
    rcases (show w = 0 ∨ w = 1 ∨ w = 2 ∨ w = 3 by omega) with rfl | rfl | rfl | rfl
    · rw [uJ_s, if_neg (by omega), uJ_s, if_neg (by omega), uJ_s, if_neg (by omega), uJ_s, if_pos rfl, if_pos rfl, nI_l (by omega)]
    · rw [uJ_s, if_neg (by omega), uJ_s, if_neg (by omega), uJ_s, if_pos rfl, if_neg (by omega), if_pos rfl, nI_l (by omega)]
    · rw [uJ_s, if_neg (by omega), uJ_s, if_pos rfl, if_neg (by omega), if_neg (by omega), if_pos rfl]
    · rw [uJ_s, if_pos rfl, if_neg (by omega), if_neg (by omega), if_neg (by omega), if_pos rfl, nI_l (by omega)]
end
