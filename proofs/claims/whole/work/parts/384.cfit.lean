-- needs: 383
/-! fitted: the class. -/
set_option maxRecDepth 100000 in
theorem bc_t {m : Nat} (hm : m < 64) : (fun v0 : Int32 => (fun x1 : Int32 => (fun x2 : Int32 => (fun x3 : Int32 => (fun x4 : Int32 => (fun x5 : Int32 => x5 &&& 63) (x4 + ((x4.toUInt32 >>> ((16 : Int32).toUInt32 &&& Int32.toUInt32 31)).toInt32))) (x3 + ((x3.toUInt32 >>> ((8 : Int32).toUInt32 &&& Int32.toUInt32 31)).toInt32))) ((x2 + ((x2.toUInt32 >>> ((4 : Int32).toUInt32 &&& Int32.toUInt32 31)).toInt32)) &&& 252645135)) ((x1 &&& 858993459) + (((x1.toUInt32 >>> ((2 : Int32).toUInt32 &&& Int32.toUInt32 31)).toInt32) &&& 858993459))) (v0 - (((v0.toUInt32 >>> ((1 : Int32).toUInt32 &&& Int32.toUInt32 31)).toInt32) &&& 1431655765))) (nI m) = nI (litN m) := all_dec (N := 64) (P := fun m => (fun v0 : Int32 => (fun x1 : Int32 => (fun x2 : Int32 => (fun x3 : Int32 => (fun x4 : Int32 => (fun x5 : Int32 => x5 &&& 63) (x4 + ((x4.toUInt32 >>> ((16 : Int32).toUInt32 &&& Int32.toUInt32 31)).toInt32))) (x3 + ((x3.toUInt32 >>> ((8 : Int32).toUInt32 &&& Int32.toUInt32 31)).toInt32))) ((x2 + ((x2.toUInt32 >>> ((4 : Int32).toUInt32 &&& Int32.toUInt32 31)).toInt32)) &&& 252645135)) ((x1 &&& 858993459) + (((x1.toUInt32 >>> ((2 : Int32).toUInt32 &&& Int32.toUInt32 31)).toInt32) &&& 858993459))) (v0 - (((v0.toUInt32 >>> ((1 : Int32).toUInt32 &&& Int32.toUInt32 31)).toInt32) &&& 1431655765))) (nI m) = nI (litN m)) (by decide +kernel) hm
section
variable {G : Gm} {S S' : St} {a m : Rw} {L : Nat → Lw} {I : Im} {un tn : Nat} {u : Un} {T : Nat → Nat} {fl : Nat → Int32} {Q : Int32 → St → Prop} {K : Gm → St → Prop}
theorem c_bitCount {x : Nat} (hx : x < 64) (h : Q (nI (litN x)) S) : f_J6_bitCount_0f7a4 G (nI x) Q S := by
  refine nm_e (nm_e (nm_e (nm_e (nm_e ?_))))
  have e := bc_t hx
  exact Eq.mpr (congrFun (congrArg Q e) S) h
theorem c_bestWith {p c x : Nat} (hS : ShC G S.2.2) (hp : p < 6) (hc : c < 6) (hx : x < 64) (hl : x ||| (1 <<< c) < 64) (h1 : hb x c → Q (-1) S) (h0 : ¬ hb x c → Q (S.1 65 (6 * p + c) + S.1 66 (x ||| (1 <<< c))) S) : f_X4_bestWith G 54 (nI p) (nI c) (nI x) Q S := by
  refine nm_p (or_i hx hc) (nm_p (e' := nI (6 * p + c)) (by rw [show (6 : Int32) = nI 6 from rfl, pk_mul, nI_add, Nat.mul_comm]) ?_)
  generalize ey : x ||| (1 <<< c) = y at *
  refine ite_c (fun e => ?_) (fun e => ?_)
  · rw [eqI (by omega) (by omega)] at e
    exact h1 (by show x ||| (1 <<< c) = x; rw [ey]; exact e)
  rw [eqI (by omega) (by omega)] at e
  refine ite_n (by simp (disch := omega) only [lit, nI_add, pk_mul, leI, ltI, eqI]; omega) (ex_y hS.r54_8 (ite_n (by rw [hS.l66, leI (by omega) (by omega)]; omega) (ite_n (by simp (disch := omega) only [lit, nI_add, pk_mul, leI, ltI, eqI]; omega) (ex_y hS.r54_7 (ite_y (by rw [hS.l65, ltI (by omega) (by omega)]; omega) (ex_y hS.r54_7 ⟨by rw [hS.l65, in_iff (by omega)]; omega, ex_y hS.r54_8 ⟨by rw [hS.l66, in_iff (by omega)]; exact hl, ?_⟩⟩))))))
  rw [clI (by omega), clI (by omega)]
  exact h0 (fun h => e (by rw [← ey]; exact h))
abbrev fft (i : Nat) : Prop := i = 65 ∨ i = 66 ∨ (55 ≤ i ∧ i ≤ 58)
theorem C_learn {n : Nat} {Q : St → Prop} (hC : Cls G S a L I un u T tn fl m) (hV : Va a) (hn : n = a 0) (z : ∀ S', Cls G S' a L I un u T tn fl m → OffR S S' → (∀ p g, p < n → g < n → S'.1 65 (6 * p + g) = nI (wF a L p g)) → Q S') : f_X4_learnFits G 54 1 (nI n) Q S := by
  have h6 := hV.1
  have s2 : ∀ (k : Int32 → St → Prop) (d g p : Nat) (S1 : St), d + g = n → p < n → Cls G S1 a L I un u T tn fl m → OffR S S1 → (∀ p' g', p' < p → g' < n → S1.1 65 (6 * p' + g') = nI (wF a L p' g')) → (∀ g', g' < g → S1.1 65 (6 * p + g') = nI (wF a L p g')) → (∀ S', Cls G S' a L I un u T tn fl m → OffR S S' → (∀ p' g', p' < p + 1 → g' < n → S'.1 65 (6 * p' + g') = nI (wF a L p' g')) → k (nI (p + 1)) S') → f_X4_learnFits_10_n G k 54 1 (nI n) (nI p) Q (d + 1) (nI g) S1 := by
    intro k d
    induction d with
    | zero =>
      intro g p S1 hd hp hC1 o1 e1 e2 hk
      rw [f_X4_learnFits_10_n, nI_1]
      refine ite_y (by simp (disch := omega) only [lit, nI_add, pk_mul, leI, ltI, eqI]; omega) (hk S1 hC1 o1 (fun p' g' hp' hg' => ?_))
      by_cases e : p' = p
      · rw [e]; exact e2 g' (by omega)
      · exact e1 p' g' (by omega) hg'
    | succ d ih =>
      intro g p S1 hd hp hC1 o1 e1 e2 hk
      rw [f_X4_learnFits_10_n]
      have hw := hV.wa (i := p) (by omega)
      have hd' := ddA_le (lo := frc a L) (a := a) (j := p) (s := sgt a g)
      refine ite_n (by simp (disch := omega) only [lit, nI_add, pk_mul, leI, ltI, eqI]; omega) (ex_y hC1.1.r54_0 (c_sightOf hC1.1.p1 hC1.2.1 hV (by omega) (c_deed hC1.1.j55 hC1.1.p1 hC1.2.1 hV hC1.2.2.1.1 (by omega) (by omega) (by omega) (sgt_lt hV (by omega)) (fun S2 f2 => ?_))))
      have hC2 := hC1.frJ f2 (by omega)
      refine ex_y hC2.1.r54_7 (c_wantedOf hC2.1.p1 hC2.2.1 hV (by omega) ?_)
      have e65 : S2.1 65 = S1.1 65 := (f2.2 65 (by omega)).1
      have go : ∀ v : Nat, v = wF a L p g → f_X4_learnFits_59 G k (f_X4_learnFits_10_n G k 54 1 (nI n) (nI p) Q (d + 1)) 54 1 (nI n) (nI p) (nI g) (nI v) (nI p * 6 + nI g) 65 Q S2 := by
        intro v hv
        rw [show nI p * 6 + nI g = nI (6 * p + g) from by rw [show (6 : Int32) = nI 6 from rfl, pk_mul, nI_add, Nat.mul_comm]]
        refine ⟨by rw [hC2.1.l65, in_iff (by omega)]; omega, nm_e ?_⟩
        rw [nI_1, clI (by omega)]
        have f3 : Fr (fun i => i = 65) S2 (uI S2 65 (6 * p + g) (nI v)) := (Fr.refl S2).uI rfl
        refine ih (g + 1) p _ (by omega) hp (hC2.fr f3 (by intro i hi; unfold rlC; omega)) (o1.trans ((f2.offR (by omega)).trans (Fr.offR f3 (by intro i hi; omega)))) (fun p' g' hp' hg' => ?_) (fun g' hg' => ?_) hk
        · rw [uI_s, if_neg (by omega), e65]; exact e1 p' g' hp' hg'
        · rw [uI_s]
          by_cases e : g' = g
          · rw [if_pos (by rw [e]), e, hv]
          · rw [if_neg (by omega), e65]; exact e2 g' (by omega)
      refine ite_c (fun e => ?_) (fun e => ?_)
      · rw [eqI (by omega) (by omega)] at e
        exact go 1 (by unfold wF; rw [if_pos e])
      · rw [eqI (by omega) (by omega)] at e
        exact go 0 (by unfold wF; rw [if_neg e])
  have s1 : ∀ (d p : Nat) (S1 : St), d + p = n → Cls G S1 a L I un u T tn fl m → OffR S S1 → (∀ p' g', p' < p → g' < n → S1.1 65 (6 * p' + g') = nI (wF a L p' g')) → f_X4_learnFits_2_n G 54 1 (nI n) Q (d + 1) (nI p) S1 := by
    intro d
    induction d with
    | zero =>
      intro p S1 hd hC1 o1 e1
      rw [f_X4_learnFits_2_n]
      exact ite_y (by simp (disch := omega) only [lit, nI_add, pk_mul, leI, ltI, eqI]; omega) (z S1 hC1 o1 (fun p' g' hp hg => e1 p' g' (by omega) hg))
    | succ d ih =>
      intro p S1 hd hC1 o1 e1
      rw [f_X4_learnFits_2_n]
      exact ite_n (by simp (disch := omega) only [lit, nI_add, pk_mul, leI, ltI, eqI]; omega) ⟨n + 1, s2 _ n 0 p S1 (by omega) (by omega) hC1 o1 e1 (fun g' h => absurd h (by omega)) (fun S2 hC2 o2 e2 => ih (p + 1) S2 (by omega) hC2 o2 e2)⟩
  exact ⟨n + 1, s1 n 0 S (by omega) hC (OffR.refl S) (fun p' g' h => absurd h (by omega))⟩
theorem C_best {n : Nat} {w : Nat → Nat → Nat} {Q : St → Prop} (hS : ShC G S.2.2) (hn : n ≤ 6) (hw : ∀ p g, w p g ≤ 1) (h65 : ∀ p g, p < n → g < n → S.1 65 (6 * p + g) = nI (w p g)) (z : ∀ S', Fr (fun i => i = 66) S S' → (∀ x, x < 2 ^ n → S'.1 66 x = nI (tbF n w (n - litN x) x)) → Q S') : f_X4_learnBest G 54 (nI n) Q S := by
  obtain ⟨q64, q1⟩ := p2 hn
  have hT := tbF_le (n := n) hw
  have s2 : ∀ (k : Int32 → St → Prop) (d c x : Nat) (S1 : St), d + c = n → x + 1 < 2 ^ n → Fr (fun i => i = 66) S S1 → (∀ y, x < y → y < 2 ^ n → S1.1 66 y = nI (tbF n w (n - litN y) y)) → S1.1 66 x = nI (tzF w (litN x) (tbF n w (n - (litN x + 1))) x c - 1) → (∀ S', Fr (fun i => i = 66) S S' → (∀ y, x ≤ y → y < 2 ^ n → S'.1 66 y = nI (tbF n w (n - litN y) y)) → k (nI x + (-1)) S') → f_X4_learnBest_37_n G k 54 (nI n) (nI x) (nI (litN x)) Q (d + 1) (nI c) S1 := by
    intro k d
    induction d with
    | zero =>
      intro c x S1 hd hx f1 e1 e2 hk
      obtain ⟨lx, _⟩ := or_ex hn hx
      rw [f_X4_learnBest_37_n]
      refine ite_y (by simp (disch := omega) only [lit, nI_add, pk_mul, leI, ltI, eqI]; omega) (hk S1 f1 (fun y hy hy2 => ?_))
      by_cases e : y = x
      · rw [e, e2, show n - litN x = (n - (litN x + 1)) + 1 from by omega, tbF, show n - (n - (litN x + 1) + 1) = litN x from by omega, show c = n from by omega]
      · exact e1 y (by omega) hy2
    | succ d ih =>
      intro c x S1 hd hx f1 e1 e2 hk
      obtain ⟨lx, _⟩ := or_ex hn hx
      have ol := or_lt hn (m := x) (g := c) (by omega) (by omega)
      have tz := tzF_le (k := litN x) (m := x) hw (hT (n - (litN x + 1))) c
      have hS1 : ShC G S1.2.2 := by rw [f1.1]; exact hS
      rw [f_X4_learnBest_37_n, nI_1]
      refine ite_n (by simp (disch := omega) only [lit, nI_add, pk_mul, leI, ltI, eqI]; omega) (ex_y hS1.r54_8 (ex_y hS1.r54_8 ⟨by rw [hS1.l66, in_iff (by omega)]; omega, ?_⟩))
      rw [clI (a := x) (by omega), e2]
      refine c_bestWith hS1 (by omega) (by omega) (by omega) (by omega) (fun h => ⟨by rw [hS1.l66, in_iff (by omega)]; omega, nm_e ?_⟩) (fun h => ⟨by rw [hS1.l66, in_iff (by omega)]; omega, nm_e ?_⟩)
      · refine ih (c + 1) x _ (by omega) hx (f1.uI rfl) (fun y hy hy2 => by rw [uI_s, if_neg (by omega)]; exact e1 y hy hy2) ?_ hk
        rw [uI_s, if_pos rfl, tzF, if_pos h]
        unfold mx
        rw [if_neg]
        rw [i32_lt, nI_toInt (by omega)]
        have em : (-1 : Int32).toInt = -1 := rfl
        omega
      · obtain ⟨o1, o2⟩ := or_n (m := x) (g := c) (by omega) (by omega) h
        have wl := hw (litN x) c
        have tl := hT (n - (litN x + 1)) (x ||| (1 <<< c))
        refine ih (c + 1) x _ (by omega) hx (f1.uI rfl) (fun y hy hy2 => by rw [uI_s, if_neg (by omega)]; exact e1 y hy hy2) ?_ hk
        rw [uI_s, if_pos rfl, tzF, if_neg h, e1 _ o1 ol, o2, (f1.2 65 (by omega)).1, h65 _ _ lx (by omega), nI_add, mxI (by omega) (by omega)]
        exact congrArg nI (by omega)
  have s1 : ∀ (i : Nat) (S1 : St), i < 2 ^ n → Fr (fun i => i = 66) S S1 → (∀ y, i ≤ y → y < 2 ^ n → S1.1 66 y = nI (tbF n w (n - litN y) y)) → f_X4_learnBest_17_n G 54 (nI n) Q (i + 1) (nI i - 1) S1 := by
    intro i
    induction i with
    | zero =>
      intro S1 hi f1 e1
      rw [f_X4_learnBest_17_n]
      exact ite_y (by decide) (z S1 f1 (fun x hx => e1 x (by omega) hx))
    | succ i ih =>
      intro S1 hi f1 e1
      have hS1 : ShC G S1.2.2 := by rw [f1.1]; exact hS
      rw [f_X4_learnBest_17_n, nI_pred]
      refine ite_n (by simp (disch := omega) only [lit, nI_add, pk_mul, leI, ltI, eqI]; omega) (c_bitCount (by omega) (ex_y hS1.r54_8 ⟨by rw [hS1.l66, in_iff (by omega)]; omega, nm_e ⟨n + 1, ?_⟩⟩))
      rw [clI (by omega)]
      refine s2 _ n 0 i _ (by omega) hi (f1.uI rfl) (fun y hy hy2 => by rw [uI_s, if_neg (by omega)]; exact e1 y (by omega) hy2) (by rw [uI_s, if_pos rfl]; rfl) (fun S2 f2 e2 => ?_)
      rw [← Int32.sub_eq_add_neg]
      exact ih S2 (by omega) f2 e2
  refine nm_p (lit_all hn).2 (ex_y hS.r54_8 ⟨by rw [hS.l66, in_iff (by omega)]; omega, nm_e (nm_e ?_)⟩)
  rw [clI (by omega)]
  refine ⟨2 ^ n - 1 + 1, s1 (2 ^ n - 1) _ (by omega) ((Fr.refl S).uI rfl) (fun y hy hy2 => ?_)⟩
  obtain rfl : y = 2 ^ n - 1 := by omega
  rw [uI_s, if_pos rfl, (lit_all hn).1, Nat.sub_self]; rfl
theorem C_fit {x : Nat} (hC : Cls G S a L I un u T tn fl m) (hV : Va a) (hx : x ≤ a 0) (z : ∀ S', Cls G S' a L I un u T tn fl m → OffR S S' → Q (if x = 0 then nI (tbF (a 0) (wF a L) (a 0) 0) else nI (gsq (a 0) (wF a L) (x - 1))) S') : f_X4_fit G 54 1 (nI x) Q S := by
  have h6 := hV.1
  obtain ⟨q64, q1⟩ := p2 h6
  refine nm_p (e' := nI (a 0)) ?_ (C_learn hC hV rfl (fun S1 hC1 o1 e1 => C_best (w := wF a L) hC1.1 h6 wF_le e1 (fun S2 f2 e2 => ?_)))
  · rw [hC.2.1.1]
    unfold mn
    by_cases e : a 0 = 6
    · rw [e]; rfl
    · rw [if_neg]
      rw [show (6 : Int32) = nI 6 from rfl, ltI (by omega) (by omega)]; omega
  have hC2 := hC1.fr f2 (by intro i hi; unfold rlC; omega)
  have zz := z S2 hC2 (o1.trans (Fr.offR f2 (by intro i hi; omega)))
  have hT := tbF_le (n := a 0) (wF_le (a := a) (L := L))
  by_cases x0 : x = 0
  · rw [if_pos x0] at zz
    subst x0
    refine ite_n (by decide) (ex_y hC2.1.r54_8 ⟨by rw [hC2.1.l66]; exact (in_iff (k := 0) (by omega)).mpr (by omega), ?_⟩)
    have e := e2 0 q1
    rw [show litN 0 = 0 from by decide] at e
    show Q (S2.1 66 0) S2
    rw [e]; exact zz
  rw [if_neg x0] at zz
  refine ite_y (by rw [show (0 : Int32) = nI 0 from rfl, ltI (by omega) (by omega)]; omega) ?_
  have e65 : ∀ p g, p < a 0 → g < a 0 → S2.1 65 (6 * p + g) = nI (wF a L p g) := fun p g hp hg => by rw [(f2.2 65 (by omega)).1]; exact e1 p g hp hg
  have fb : ∀ (p : Nat) (Q' : Int32 → St → Prop), p < a 0 → Q' (nI (gsq (a 0) (wF a L) p)) S2 → f_X4_firstBest G 54 (nI p) (nI (a 0)) (nI (gvS (a 0) (wF a L) p)) Q' S2 := by
    intro p Q' hp hq
    obtain ⟨g1, g2⟩ := gv_ok (w := wF a L) h6 p (by omega)
    obtain ⟨b1, b2, b3, b4⟩ := gs_ok (w := wF a L) h6 hp
    have st : ∀ (d c : Nat), d + c = gsq (a 0) (wF a L) p → f_X4_firstBest_3_n G 54 (nI p) (nI (a 0)) (nI (gvS (a 0) (wF a L) p)) Q' (d + 1) (nI c) S2 := by
      intro d
      induction d with
      | zero =>
        intro c hc
        have hc : c = gsq (a 0) (wF a L) p := by omega
        subst hc
        have ol := or_lt h6 g1 b1
        obtain ⟨o1, o2⟩ := or_n (m := gvS (a 0) (wF a L) p) (by omega) (show gsq (a 0) (wF a L) p < 6 by omega) b2
        rw [f_X4_firstBest_3_n]
        refine ite_n (by simp (disch := omega) only [lit, nI_add, pk_mul, leI, ltI, eqI]; omega) (ite_n (by simp (disch := omega) only [lit, nI_add, pk_mul, leI, ltI, eqI]; omega) (ex_y hC2.1.r54_8 (ite_n (by rw [hC2.1.l66, leI (by omega) (by omega)]; omega) (c_bestWith hC2.1 (by omega) (by omega) (by omega) (by omega) (fun h => absurd h b2) (fun _ => ex_y hC2.1.r54_8 ⟨by rw [hC2.1.l66, in_iff (by omega)]; omega, ite_y ?_ hq⟩)))))
        rw [clI (by omega), e65 _ _ hp b1, e2 _ ol, e2 _ g1, o2, g2, nI_add, b3]
      | succ d ih =>
        intro c hc
        have ol := or_lt h6 (g := c) g1 (by omega)
        rw [f_X4_firstBest_3_n, nI_1]
        refine ite_n (by simp (disch := omega) only [lit, nI_add, pk_mul, leI, ltI, eqI]; omega) (ite_n (by simp (disch := omega) only [lit, nI_add, pk_mul, leI, ltI, eqI]; omega) (ex_y hC2.1.r54_8 (ite_n (by rw [hC2.1.l66, leI (by omega) (by omega)]; omega) (c_bestWith hC2.1 (by omega) (by omega) (by omega) (by omega) (fun h => ex_y hC2.1.r54_8 ⟨by rw [hC2.1.l66, in_iff (by omega)]; omega, ite_n ?_ (ih (c + 1) (by omega))⟩) (fun h => ex_y hC2.1.r54_8 ⟨by rw [hC2.1.l66, in_iff (by omega)]; omega, ite_n ?_ (ih (c + 1) (by omega))⟩)))))
        · rw [clI (by omega), e2 _ g1]
          have := hT (a 0 - litN (gvS (a 0) (wF a L) p)) (gvS (a 0) (wF a L) p)
          exact fun e => nI_m1 (n := tbF (a 0) (wF a L) (a 0 - litN (gvS (a 0) (wF a L) p)) (gvS (a 0) (wF a L) p)) (by omega) e.symm
        · obtain ⟨o1, o2⟩ := or_n (m := gvS (a 0) (wF a L) p) (by omega) (show c < 6 by omega) h
          have t1 := hT (a 0 - (p + 1)) (gvS (a 0) (wF a L) p ||| (1 <<< c))
          have t2 := hT (a 0 - p) (gvS (a 0) (wF a L) p)
          have wl := wF_le (a := a) (L := L) p c
          rw [clI (by omega), e65 _ _ hp (by omega), e2 _ ol, e2 _ g1, o2, g2, nI_add, eqI (by omega) (by omega)]
          exact b4 c (by omega) h
    exact ⟨_, st (gsq (a 0) (wF a L) p) 0 (by omega)⟩
  have st : ∀ (d p : Nat) (v : Int32), d + p = x → (p = x → v = nI (gsq (a 0) (wF a L) (x - 1))) → f_X4_fit_41_n G 54 (nI x) (nI (a 0)) Q (d + 1) (nI (gvS (a 0) (wF a L) p)) v (nI p) S2 := by
    intro d
    induction d with
    | zero =>
      intro p v hd hv
      rw [f_X4_fit_41_n, hv (by omega)]
      exact ite_c (fun _ => zz) (fun _ => ite_y (by simp (disch := omega) only [lit, nI_add, pk_mul, leI, ltI, eqI]; omega) zz)
    | succ d ih =>
      intro p v hd hv
      obtain ⟨g1, g2⟩ := gv_ok (w := wF a L) h6 p (by omega)
      obtain ⟨b1, b2, b3, b4⟩ := gs_ok (w := wF a L) h6 (show p < a 0 by omega)
      rw [f_X4_fit_41_n, nI_1]
      refine ite_n (by simp (disch := omega) only [lit, nI_add, pk_mul, leI, ltI, eqI]; omega) (ite_n (by simp (disch := omega) only [lit, nI_add, pk_mul, leI, ltI, eqI]; omega) (fb p _ (by omega) ?_))
      refine nm_p (e' := nI (gvS (a 0) (wF a L) (p + 1))) ?_ (ih (p + 1) _ (by omega) (fun e => by rw [show x - 1 = p from by omega]))
      rw [show (0 : Int32) = nI 0 from rfl, mxI (by omega) (by omega), Nat.max_eq_left (by omega), or_i (by omega) (by omega)]; rfl
  exact ⟨x + 1, st x 0 (-1) (by omega) (fun e => absurd e (by omega))⟩
end
