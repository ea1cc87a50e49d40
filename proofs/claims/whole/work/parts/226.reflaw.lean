-- needs: 200 201 202 203 204 210 211 220 221 222 223 224 225
/-! The reference's laws. -/
def LawR (f : Nat → Int32) (w : Nat) (lw : Lw) : Prop := f (w + 1) = nI lw.1 ∧ lw.1 ≤ 12 ∧ ∃ (c : Cd) (N : Nat), N ≤ 400 ∧ (∀ k, k < N → f (w + 98 + 2 * k) = nI (opR false (c k)) ∧ f (w + 98 + 2 * k + 1) = nI (agR false (c k))) ∧
  ∀ q, q < lw.1 → f (w + 2 + 8 * q) = nI (lw.2 q).1 ∧ ∃ m0 m2 m3, f (w + 2 + 8 * q + 3) = nI m0 ∧ f (w + 2 + 8 * q + 4) = nI m2 ∧ f (w + 2 + 8 * q + 5) = nI m2 ∧ f (w + 2 + 8 * q + 6) = nI m3 ∧ m3 ≤ N ∧ ClS c m0 m2 m3 (lw.2 q)
def LwR (f : Nat → Int32) (a : Nat → Nat) (L : Nat → Lw) : Prop := ∀ k, k < a 2 → LawR f (85 + 900 * k) (L k)
/-- what tells leaves -/
def FrR (S S' : St) : Prop := S'.2.2 = S.2.2 ∧ (∀ i, i ≠ 87 → S'.1 i = S.1 i) ∧ (∀ k, k ≠ 35 → k ≠ 40 → S'.1 87 k = S.1 87 k) ∧ (∀ i, i ≠ 87 → i ≠ 106 → i ≠ 109 → S'.2.1 i = S.2.1 i) ∧ (∀ k, k ≠ 41 → k ≠ 42 → S'.2.1 87 k = S.2.1 87 k)
theorem FrR.refl (S : St) : FrR S S := ⟨rfl, fun _ _ => rfl, fun _ _ _ => rfl, fun _ _ _ _ => rfl, fun _ _ _ => rfl⟩
theorem FrR.trans {S S' S'' : St} (h : FrR S S') (h' : FrR S' S'') : FrR S S'' :=
  ⟨h'.1.trans h.1, fun i hi => (h'.2.1 i hi).trans (h.2.1 i hi), fun k h1 h2 => (h'.2.2.1 k h1 h2).trans (h.2.2.1 k h1 h2), fun i h1 h2 h3 => (h'.2.2.2.1 i h1 h2 h3).trans (h.2.2.2.1 i h1 h2 h3), fun k h1 h2 => (h'.2.2.2.2 k h1 h2).trans (h.2.2.2.2 k h1 h2)⟩
/-- inside tells: the words and the law stay too -/
def FrT (S S' : St) : Prop := S'.2.2 = S.2.2 ∧ (∀ i, i ≠ 87 → S'.1 i = S.1 i) ∧ (∀ k, k ≠ 40 → S'.1 87 k = S.1 87 k) ∧ (∀ i, i ≠ 87 → i ≠ 109 → S'.2.1 i = S.2.1 i) ∧ (∀ k, k ≠ 41 → k ≠ 42 → S'.2.1 87 k = S.2.1 87 k)
theorem FrT.refl (S : St) : FrT S S := ⟨rfl, fun _ _ => rfl, fun _ _ => rfl, fun _ _ _ => rfl, fun _ _ _ => rfl⟩
theorem FrT.trans {S S' S'' : St} (h : FrT S S') (h' : FrT S' S'') : FrT S S'' :=
  ⟨h'.1.trans h.1, fun i hi => (h'.2.1 i hi).trans (h.2.1 i hi), fun k h1 => (h'.2.2.1 k h1).trans (h.2.2.1 k h1), fun i h1 h3 => (h'.2.2.2.1 i h1 h3).trans (h.2.2.2.1 i h1 h3), fun k h1 h2 => (h'.2.2.2.2 k h1 h2).trans (h.2.2.2.2 k h1 h2)⟩
theorem FrT.toR {S S' : St} (h : FrT S S') : FrR S S' := ⟨h.1, h.2.1, fun k _ h2 => h.2.2.1 k h2, fun i h1 _ h3 => h.2.2.2.1 i h1 h3, h.2.2.2.2⟩
theorem LkB.toT {b : Int32} {S S' : St} (h : LkB b S S') : FrT S S' :=
  ⟨h.2.2.1, fun i hi => funext fun k => h.1 i k (fun e => hi e.1), fun k hk => h.1 87 k (fun e => hk e.2), fun i h1 h3 => funext fun k => h.2.2.2 i k h3 (fun e => h1 e.1), fun k h1 _ => h.2.2.2 87 k (by omega) (fun e => h1 e.2)⟩
section
variable {G : Gm} {S : St} {Q : Int32 → St → Prop} {K : St → Prop} {a : Nat → Nat} {L : Nat → Lw} {c : Cd} {e : Nat → Int64} {lw : Lw}
/-- a reckoning, by its segment -/
theorem m_reckonAll {ord : Bool} {U : Nat → Prop} {t i j h : Nat} {f : Fn} (hC : CxR G (uI S 87 40 0) j c e U ord K) (hseg : Seg c U t i j h f) (h32 : h ≤ 32) (k : ∀ S', LkB (if f e = none then 1 else 0) S S' → (∀ v, f e = some v → S'.2.1 87 41 = v) → K S') : f_X11_reckonAll G 87 (nI i) (nI j) K S := by
  refine nm_e ⟨1 + (j - i), ?_⟩
  have hS := hC.1
  have hj := hC.2.1
  have g := hseg _ (goodR hC)
  have L0 : LkR 0 (uI S 87 40 0) (uI S 87 40 0) := ⟨fun _ _ _ => rfl, by simp [uI], rfl, fun _ _ => rfl, fun _ _ => rfl⟩
  have un : ∀ {b : Int32} {S' : St}, LkB b (uI S 87 40 0) S' → LkB b S S' := by
    intro b S' h
    exact ⟨fun i k hk => (h.1 i k hk).trans (if_neg hk), h.2.1, h.2.2.1, h.2.2.2⟩
  refine g.2 1 _ 0 _ L0 (Nat.le_refl _) (by omega) (by omega) ?_ ?_ (Nat.le_refl _)
  · intro v S' n' hv Lk0 hv0 hn
    obtain ⟨n1, rfl⟩ : ∃ n1, n' = n1 + 1 := ⟨n' - 1, by omega⟩
    rw [f_X11_reckonAll_10_n]
    refine ite_y (by rw [leI (by omega) (by omega)]; exact Nat.le_refl _) ?_
    refine ite_n (by decide) (ex_y (i := 109) (by rw [Lk0.2.2.1]; exact hS.rest) ⟨?_, ?_⟩)
    · rw [hS.rest_l]; exact (in_iff (k := 0) (by omega)).mpr (by omega)
    · refine nm_e (k _ ?_ ?_)
      · rw [hv, if_neg (by simp)]
        exact un Lk0.toE
      · intro w hw
        rw [hv] at hw
        obtain rfl := Option.some.inj hw
        rw [uJ_s, if_pos rfl]
        exact hv0
  · intro hv S' LB
    refine k S' ?_ (fun w hw => by rw [hv] at hw; cases hw)
    rw [hv, if_pos rfl]
    exact un LB
/-- the loop's context for a law -/
theorem cxr_law {w N last : Nat} (hS : ShR G S.2.2) (ho : S.1 87 21 = 0) (hw : S.1 87 35 = nI w) (hwb : w + 898 ≤ 5485) (hN : last ≤ N) (hN4 : N ≤ 400) (hc : ∀ k, k < N → S.1 90 (w + 98 + 2 * k) = nI (opR false (c k)) ∧ S.1 90 (w + 98 + 2 * k + 1) = nI (agR false (c k))) (he : ∀ x, x < 9 → S.2.1 106 (x + 1) = e x) : CxR G (uI S 87 40 0) last c e U9 false K := by
  have g1 : ∀ {S1 : St}, LkR 0 (uI S 87 40 0) S1 → ∀ i k, ¬ (i = 87 ∧ k = 40) → S1.1 i k = S.1 i k := by
    intro S1 h i k hk
    exact (h.1 i k hk).trans (if_neg hk)
  refine ⟨hS, by omega, ?_, ?_⟩
  · intro n top k S1 h1 hk ht z
    have o1 : S1.1 87 21 = 0 := (g1 h1 87 21 (by omega)).trans ho
    have w1 : S1.1 87 35 = nI w := (g1 h1 87 35 (by omega)).trans hw
    have r1 : S1.2.2 87 4 = some 90 := by rw [h1.2.2.1]; exact hS.row
    obtain ⟨c1, c2⟩ := hc k (by omega)
    have d1 : S1.1 90 (w + 98 + 2 * k) = nI (opR false (c k)) := (g1 h1 90 _ (by omega)).trans c1
    have d2 : S1.1 90 (w + 98 + 2 * k + 1) = nI (agR false (c k)) := (g1 h1 90 _ (by omega)).trans c2
    rw [f_X11_reckonAll_10_n]
    refine ite_n (by rw [leI (by omega) (by omega)]; omega) (ite_y h1.2.1 (ite_y o1 (ex_y r1 ?_)))
    rw [w1]
    simp (disch := omega) only [lit, nI_add, pk_mul, clI, in_iff]
    rw [hS.row_l]
    refine ⟨by omega, ?_⟩
    refine ite_y o1 (ex_y r1 ?_)
    rw [w1]
    simp (disch := omega) only [lit, nI_add, pk_mul, clI, in_iff]
    rw [hS.row_l, d1, d2]
    exact ⟨by omega, z⟩
  · intro n top k x S1 h1 hx ht z
    have hx : x < 9 := hx
    have o1 : S1.1 87 21 = 0 := (g1 h1 87 21 (by omega)).trans ho
    have e1 : opR false (1, x) = x + 1 := by unfold opR; simp
    rw [e1]
    refine ite_n (by simp (disch := omega) only [lit, nI_add, pk_mul, leI, ltI, eqI]; omega) (ex_y (by rw [h1.2.2.1]; exact hS.rest) (ite_n (by simp (disch := omega) only [lit, nI_add, pk_mul, leI, ltI, eqI]; omega) (ite_y o1 (ex_y (by rw [h1.2.2.1]; exact hS.set) ?_))))
    have v1 : S1.2.1 106 (x + 1) = e x := by rw [h1.2.2.2.1 106 (by omega)]; exact he x hx
    rw [hS.set_l, in_iff (by omega), clI (by omega), v1]
    refine ⟨by omega, ?_⟩
    show _ ∧ _
    rw [hS.rest_l, in_iff (by omega), clI (by omega)]
    refine ⟨ht, nm_e ?_⟩
    rw [nI_1, nI_1]; exact z
theorem m_isSo {w q : Nat} (hS : ShR G S.2.2) (ho : S.1 87 21 = 0) (hw : S.1 87 35 = nI w) (hwb : w + 898 ≤ 5485) (hq : q < lw.1) (hR : LawR (S.1 90) w lw) (he : ∀ x, x < 9 → S.2.1 106 (x + 1) = e x) (k1 : (lw.2 q).2.1 e = some 1 → ((lw.2 q).1 = 3 ∨ (lw.2 q).2.2 e ≠ none) → ∀ S', FrT S S' → (∀ v, (lw.2 q).1 ≠ 3 → (lw.2 q).2.2 e = some v → S'.2.1 87 42 = v) → Q 1 S') (k0 : ¬ ((lw.2 q).2.1 e = some 1 ∧ ((lw.2 q).1 = 3 ∨ (lw.2 q).2.2 e ≠ none)) → ∀ S', FrT S S' → Q 0 S') : f_X11_isSo G 87 (nI (w + 2 + 8 * q)) Q S := by
  obtain ⟨_, n12, c, N, hN, hc, hcl⟩ := hR
  obtain ⟨hh, m0, m2, m3, f3, f4, f5, f6, hm, h3, h02, h23, hsum, htest⟩ := hcl q hq
  have s59 : ∀ S1, FrT S S1 → (lw.2 q).2.1 e = some 1 → f_X11_isSo_59 G 87 (nI (w + 2 + 8 * q)) Q S1 := by
    intro S1 f1 ht1
    have r1 : S1.2.2 87 4 = some 90 := by rw [f1.1]; exact hS.row
    have w1 : S1.1 90 = S.1 90 := f1.2.1 90 (by omega)
    refine ex_y r1 ?_
    simp (disch := omega) only [lit, nI_add, clI, in_iff]
    rw [hS.row_l, w1, hh]
    refine ⟨by omega, ite_c (fun d => ?_) (fun d => ?_)⟩
    · rw [eqI (by omega) (by omega)] at d
      exact k1 ht1 (.inl d) S1 f1 (fun v hv => absurd d hv)
    · rw [eqI (by omega) (by omega)] at d
      refine ex_y r1 ?_
      rw [hS.row_l, w1, f3]
      refine ⟨by omega, ex_y r1 ?_⟩
      rw [hS.row_l, w1, f4]
      refine ⟨by omega, ?_⟩
      rcases hsum with h | ⟨h, h32, sg⟩
      · exact absurd h d
      · have S1s : ShR G S1.2.2 := by rw [f1.1]; exact hS
        refine m_reckonAll (c := c) (e := e) (cxr_law (N := N) S1s ((f1.2.2.1 21 (by omega)).trans ho) ((f1.2.2.1 35 (by omega)).trans hw) hwb (by omega) hN (by rw [w1]; exact hc) (fun x hx => by rw [f1.2.2.2.1 106 (by omega) (by omega)]; exact he x hx)) sg h32 (fun S2 l2 v2 => nm_e ?_)
        have f2 : FrT S (uJ S2 87 42 (S2.2.1 87 41)) := by
          refine f1.trans (l2.toT.trans ⟨rfl, fun _ _ => rfl, fun _ _ => rfl, fun i h1 _ => uJ_n _ _ _ _ h1, fun k _ h2 => ?_⟩)
          rw [uJ_s, if_neg h2]
        cases hv : (lw.2 q).2.2 e with
        | none =>
          rw [hv, if_pos rfl] at l2
          refine ite_n (by show ¬ S2.1 87 40 = 0; rw [l2.2.1]; decide) ?_
          exact k0 (fun hy => hy.2.elim (fun h => d h) (fun h => h hv)) _ f2
        | some v =>
          rw [hv, if_neg (by simp)] at l2
          refine ite_y (by show S2.1 87 40 = 0; exact l2.2.1) ?_
          refine k1 ht1 (.inr (by rw [hv]; simp)) _ f2 (fun w _ hw => ?_)
          rw [uJ_s, if_pos rfl]
          exact v2 w hw
  have r1 := hS.row
  refine ex_y r1 ?_
  simp (disch := omega) only [lit, nI_add, clI, in_iff]
  rw [hS.row_l]
  refine ⟨by omega, ex_y r1 ?_⟩
  rw [hS.row_l, f6, f5]
  refine ⟨by omega, ite_c (fun d => ?_) (fun d => ?_)⟩
  · rw [leI (by omega) (by omega)] at d
    rcases htest with ⟨_, h⟩ | ⟨h, _⟩
    · exact s59 S (FrT.refl S) (h e)
    · omega
  · rw [leI (by omega) (by omega)] at d
    rcases htest with ⟨h, _⟩ | ⟨_, h, h32, sg⟩
    · omega
    · refine ex_y r1 ?_
      rw [hS.row_l, f5]
      refine ⟨by omega, ex_y r1 ?_⟩
      rw [hS.row_l, f6]
      refine ⟨by omega, ?_⟩
      refine m_reckonAll (c := c) (e := e) (cxr_law (N := N) hS ho hw hwb (by omega) hN hc he) sg h32 (fun S2 l2 v2 => ?_)
      cases hv : (lw.2 q).2.1 e with
      | none =>
        rw [hv, if_pos rfl] at l2
        refine ite_n (by rw [l2.2.1]; decide) ?_
        exact k0 (fun hy => by rw [hv] at hy; cases hy.1) _ l2.toT
      | some v =>
        have h41 := v2 v hv
        rw [hv, if_neg (by simp)] at l2
        refine ite_y l2.2.1 (ite_c (fun d0 => ?_) (fun d0 => ?_))
        · rw [show nI 0 = 0 from rfl, cmp_eq, h41] at d0
          refine k0 (fun hy => ?_) _ l2.toT
          rw [hv, d0] at hy
          exact absurd (Option.some.inj hy.1) (by decide)
        · rw [show nI 0 = 0 from rfl, cmp_eq, h41] at d0
          rcases sg.val.2.1 rfl e v hv with h0 | h1
          · exact absurd h0 d0
          · exact s59 S2 l2.toT (by rw [hv, h1])
theorem m_tells_l {v w : Nat} {Q : Int64 → St → Prop} {wo : Int64} (hv : v ≤ 3) (hS : ShR G S.2.2) (ho : S.1 87 21 = 0) (hw : S.1 87 35 = nI w) (hwb : w + 898 ≤ 5485) (hR : LawR (S.1 90) w lw) (he : ∀ x, x < 9 → S.2.1 106 (x + 1) = e x) (k : ∀ S', FrT S S' → Q ((tel lw v e lw.1).getD wo) S') : f_X11_tells_184 G 87 (nI v) Q wo 0 S := by
  have n12 := hR.2.1
  have main : ∀ (m q : Nat) (S1 : St), q + m = lw.1 → FrT S S1 → f_X11_tells_184_n G 87 (nI v) Q (m + 1) ((tel lw v e q).getD wo) (nI q) S1 := by
    intro m
    induction m with
    | zero =>
      intro q S1 hq f1
      have r1 : S1.2.2 87 4 = some 90 := by rw [f1.1]; exact hS.row
      have w1 : S1.1 90 = S.1 90 := f1.2.1 90 (by omega)
      have w2 : S1.1 87 35 = nI w := (f1.2.2.1 35 (by omega)).trans hw
      rw [f_X11_tells_184_n]
      refine ex_y r1 ?_
      rw [w2]
      simp (disch := omega) only [lit, nI_add, clI, in_iff]
      rw [hS.row_l, w1, hR.1]
      refine ⟨by omega, ite_y (by rw [leI (by omega) (by omega)]; omega) ?_⟩
      have := k S1 f1
      rw [show lw.1 = q from by omega] at this
      exact this
    | succ m ih =>
      intro q S1 hq f1
      have r1 : S1.2.2 87 4 = some 90 := by rw [f1.1]; exact hS.row
      have w1 : S1.1 90 = S.1 90 := f1.2.1 90 (by omega)
      have w2 : S1.1 87 35 = nI w := (f1.2.2.1 35 (by omega)).trans hw
      have ihq := ih (q + 1)
      rw [f_X11_tells_184_n]
      generalize f_X11_tells_184_n G 87 (nI v) Q (m + 1) = W at ihq ⊢
      refine ex_y r1 ?_
      rw [w2]
      simp (disch := omega) only [lit, nI_add, pk_mul, clI, in_iff]
      rw [hS.row_l, w1, hR.1]
      have hq' : q < lw.1 := by omega
      obtain ⟨c, N, hN, hc, hcl⟩ := hR.2.2
      obtain ⟨hh, m0, m2, m3, f3, f4, f5, f6, hm, h3, _⟩ := hcl q hq'
      refine ⟨by omega, ite_n (by rw [leI (by omega) (by omega)]; omega) (nm_e (ex_y r1 ?_))⟩
      rw [in_iff (by omega), clI (by omega), hS.row_l, w1, hh]
      have nx : ∀ S2, FrT S S2 → (¬ ((lw.2 q).1 = v ∧ (lw.2 q).2.1 e = some 1 ∧ (v = 3 ∨ (lw.2 q).2.2 e ≠ none))) → W ((tel lw v e q).getD wo) (nI (q + 1)) S2 := by
        intro S2 f2 hno
        have := ihq S2 (by omega) f2
        unfold tel at this
        rw [if_neg hno] at this
        exact this
      have yes : ∀ S2, FrT S S2 → ((lw.2 q).1 = v ∧ (lw.2 q).2.1 e = some 1 ∧ (v = 3 ∨ (lw.2 q).2.2 e ≠ none)) → W ((if v = 3 then some 1 else (lw.2 q).2.2 e).getD wo) (nI (q + 1)) S2 := by
        intro S2 f2 hy
        have := ihq S2 (by omega) f2
        unfold tel at this
        rw [if_pos hy] at this
        exact this
      refine ⟨by omega, ite_c (fun d => ?_) (fun d => ?_)⟩
      · rw [eqI (by omega) (by omega)] at d
        have S1s : ShR G S1.2.2 := by rw [f1.1]; exact hS
        refine m_isSo (lw := lw) (e := e) S1s ((f1.2.2.1 21 (by omega)).trans ho) w2 hwb hq' (by rw [w1]; exact hR) (fun x hx => by rw [f1.2.2.2.1 106 (by omega) (by omega)]; exact he x hx) ?_ ?_
        · intro t1 t2 S2 f2 v2
          refine ite_n (by decide) (ite_c (fun d3 => ?_) (fun d3 => ?_))
          · rw [eqI (by omega) (by omega)] at d3
            have := yes S2 (f1.trans f2) ⟨d, t1, .inl d3⟩
            rw [if_pos d3] at this
            exact this
          · rw [eqI (by omega) (by omega)] at d3
            have nn : (lw.2 q).2.2 e ≠ none := by
              rcases t2 with h | h
              · omega
              · exact h
            have := yes S2 (f1.trans f2) ⟨d, t1, .inr nn⟩
            rw [if_neg d3] at this
            obtain ⟨u, hu⟩ := Option.ne_none_iff_exists'.mp nn
            refine nm_p (v2 u (by omega) hu) ?_
            rw [hu] at this
            exact this
        · intro hno S2 f2
          refine ite_y rfl (nx S2 (f1.trans f2) (fun hy => hno ⟨hy.2.1, ?_⟩))
          rcases hy.2.2 with h | h
          · exact .inl (by omega)
          · exact .inr h
      · rw [eqI (by omega) (by omega)] at d
        exact nx S1 f1 (fun hy => d hy.1)
  exact ⟨lw.1 + 1, main lw.1 0 S (by omega) (FrT.refl S)⟩
end
