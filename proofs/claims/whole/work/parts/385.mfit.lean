-- needs: 384
/-! fitted: the reference. -/
/-- how many turns it takes -/
def fxq (n : Nat) (F : Nat → Nat) (x : Nat) : Nat → Nat
  | 0 => 1
  | e + 1 => (if hb x (n - (e + 1)) then 1 else 1 + F (x ||| (1 <<< (n - (e + 1))))) + fxq n F x e
def fxS (n : Nat) : Nat → Nat → Nat
  | 0, _ => 1
  | d + 1, x => fxq n (fxS n d) x n
section
variable {G : Gm} {S S' : St} {a m : Rw} {L : Nat → Lw} {I : Im} {un tn : Nat} {u : Un} {T : Nat → Nat} {fl : Nat → Int32} {Q : Int32 → St → Prop} {K : Gm → St → Prop}
theorem M_layF {Q : St → Prop} (hR : Ref G S a L I un u T tn fl m) (hV : Va a) (z : ∀ S', Ref G S' a L I un u T tn fl m → OffC S S' → (∀ p g, p < a 0 → g < a 0 → S'.1 114 (6 * p + g) = nI (wF a L p g)) → Q S') : f_X11_layFitted G 87 Q S := by
  have h6 := hV.1
  have s2 : ∀ (k : Int32 → St → Prop) (d g p : Nat) (S1 : St), d + g = a 0 → p < a 0 → Ref G S1 a L I un u T tn fl m → OffC S S1 → (∀ p' g', p' < p → g' < a 0 → S1.1 114 (6 * p' + g') = nI (wF a L p' g')) → (∀ g', g' < g → S1.1 114 (6 * p + g') = nI (wF a L p g')) → (∀ S', Ref G S' a L I un u T tn fl m → OffC S S' → (∀ p' g', p' < p + 1 → g' < a 0 → S'.1 114 (6 * p' + g') = nI (wF a L p' g')) → k (nI (p + 1)) S') → f_X11_layFitted_14_n G k 87 (nI p) Q (d + 1) (nI g) S1 := by
    intro k d
    induction d with
    | zero =>
      intro g p S1 hd hp hR1 o1 e1 e2 hk
      have r0 : S1.1 90 ((0 : Int32).toNatClampNeg) = nI (a 0) := hR1.1.2.1.1
      rw [f_X11_layFitted_14_n]
      refine ex_y hR1.1.1.row ⟨inrow (n := 0) hR1.1.1 (by omega), ?_⟩
      rw [r0, nI_1]
      refine ite_y (by simp (disch := omega) only [lit, nI_add, pk_mul, leI, ltI, eqI]; omega) (hk S1 hR1 o1 (fun p' g' hp' hg' => ?_))
      by_cases e : p' = p
      · rw [e]; exact e2 g' (by omega)
      · exact e1 p' g' (by omega) hg'
    | succ d ih =>
      intro g p S1 hd hp hR1 o1 e1 e2 hk
      have r0 : S1.1 90 ((0 : Int32).toNatClampNeg) = nI (a 0) := hR1.1.2.1.1
      have hw := hV.wa (i := p) (by omega)
      have hd' := ddA_le (lo := frc a L) (a := a) (j := p) (s := sgt a g)
      rw [f_X11_layFitted_14_n]
      refine ex_y hR1.1.1.row ⟨inrow (n := 0) hR1.1.1 (by omega), ?_⟩
      rw [r0]
      refine ite_n (by simp (disch := omega) only [lit, nI_add, pk_mul, leI, ltI, eqI]; omega) (ex_y hR1.1.1.willDo (m_sightOf hR1.1.1 hR1.1.2.1 hR1.1.2.2.1 hV (by omega) (m_doesOf (hR1.rfp hV) (by omega) (sgt_lt hV (by omega)) (fun S2 f2 => ?_))))
      have hR2 := hR1.frR f2
      have e114 : S2.1 114 = S1.1 114 := f2.2.1 114 (by omega)
      refine ex_y hR2.1.1.row ?_
      rw [show (62 : Int32) + nI p = nI (62 + p) from by rw [lit, nI_add], clI (by omega), hR2.1.2.1.2.2.2.2.2.2.2.2.1 p (by omega)]
      refine ⟨inrow hR2.1.1 (by omega), ?_⟩
      have go : ∀ v : Nat, v ≤ 1 → v = wF a L p g → f_X11_layFitted_61 G k (f_X11_layFitted_14_n G k 87 (nI p) Q (d + 1)) 87 (nI p) (nI g) (nI v) (6 * nI p + nI g) 114 Q S2 := by
        intro v hv1 hv
        rw [show 6 * nI p + nI g = nI (6 * p + g) from by rw [show (6 : Int32) = nI 6 from rfl, pk_mul, nI_add]]
        refine ⟨by rw [hR2.1.1.willDo_l, in_iff (by omega)]; omega, ?_, nm_e ?_⟩
        · rcases (show v = 0 ∨ v = 1 by omega) with rfl | rfl
          · exact .inl rfl
          · exact .inr rfl
        rw [nI_1, clI (by omega)]
        refine ih (g + 1) p _ (by omega) hp (hR2.ag (fun k _ => by rw [uI_n _ _ _ _ (by omega)]) (fun i hi => uI_n _ _ _ _ (by omega)) (fun _ _ => rfl) rfl) ((o1.trans f2.offC).uI (by omega) (by omega)) (fun p' g' hp' hg' => ?_) (fun g' hg' => ?_) hk
        · rw [uI_s, if_neg (by omega), e114]; exact e1 p' g' hp' hg'
        · rw [uI_s]
          by_cases e : g' = g
          · rw [if_pos (by rw [e]), e, hv]
          · rw [if_neg (by omega), e114]; exact e2 g' (by omega)
      refine ite_c (fun e => ?_) (fun e => ?_)
      · rw [eqI (by omega) (by omega)] at e
        exact go 1 (by omega) (by unfold wF; rw [if_pos e])
      · rw [eqI (by omega) (by omega)] at e
        exact go 0 (by omega) (by unfold wF; rw [if_neg e])
  have s1 : ∀ (d p : Nat) (S1 : St), d + p = a 0 → Ref G S1 a L I un u T tn fl m → OffC S S1 → (∀ p' g', p' < p → g' < a 0 → S1.1 114 (6 * p' + g') = nI (wF a L p' g')) → f_X11_layFitted_2_n G 87 Q (d + 1) (nI p) S1 := by
    intro d
    induction d with
    | zero =>
      intro p S1 hd hR1 o1 e1
      have r0 : S1.1 90 ((0 : Int32).toNatClampNeg) = nI (a 0) := hR1.1.2.1.1
      rw [f_X11_layFitted_2_n]
      refine ex_y hR1.1.1.row ⟨inrow (n := 0) hR1.1.1 (by omega), ?_⟩
      rw [r0]
      exact ite_y (by simp (disch := omega) only [lit, nI_add, pk_mul, leI, ltI, eqI]; omega) (z S1 hR1 o1 (fun p' g' hp hg => e1 p' g' (by omega) hg))
    | succ d ih =>
      intro p S1 hd hR1 o1 e1
      have r0 : S1.1 90 ((0 : Int32).toNatClampNeg) = nI (a 0) := hR1.1.2.1.1
      rw [f_X11_layFitted_2_n]
      refine ex_y hR1.1.1.row ⟨inrow (n := 0) hR1.1.1 (by omega), ?_⟩
      rw [r0]
      exact ite_n (by simp (disch := omega) only [lit, nI_add, pk_mul, leI, ltI, eqI]; omega) ⟨a 0 + 1, s2 _ (a 0) 0 p S1 (by omega) (by omega) hR1 o1 e1 (fun g' h => absurd h (by omega)) (fun S2 hR2 o2 e2 => ih (p + 1) S2 (by omega) hR2 o2 e2)⟩
  exact ⟨a 0 + 1, s1 (a 0) 0 S (by omega) hR (OffC.refl S) (fun p' g' h => absurd h (by omega))⟩
theorem m_isNew {t : Nat → Nat} {k c : Nat} (r : S.2.2 87 48 = some 115) (l : G.2.1 115 = 7) (hk : k < 6) (hc : c < 6) (ht : ∀ i, i < k → t i < 6 ∧ S.1 115 i = nI (t i)) (hcc : S.1 115 k = nI c) (h1 : (¬ ∃ i, i < k ∧ t i = c) → Q 1 S) (h0 : (∃ i, i < k ∧ t i = c) → Q 0 S) : f_X11_isNew G 87 (nI k) Q S := by
  have s0 : ∀ (d i : Nat), d + i = k → (∃ i, i < k ∧ t i = c) → f_X11_isNew_4_n G 87 (nI k) Q (d + 1) 0 (nI i) S := by
    intro d
    induction d with
    | zero =>
      intro i hi he
      rw [f_X11_isNew_4_n]
      exact ite_y (by simp (disch := omega) only [lit, nI_add, pk_mul, leI, ltI, eqI]; omega) ⟨.inl rfl, h0 he⟩
    | succ d ih =>
      intro i hi he
      rw [f_X11_isNew_4_n, nI_1]
      exact ite_n (by simp (disch := omega) only [lit, nI_add, pk_mul, leI, ltI, eqI]; omega) (ite_y rfl (ih (i + 1) (by omega) he))
  have s1 : ∀ (d i : Nat), d + i = k → (∀ j, j < i → t j ≠ c) → f_X11_isNew_4_n G 87 (nI k) Q (d + 1) 1 (nI i) S := by
    intro d
    induction d with
    | zero =>
      intro i hi he
      rw [f_X11_isNew_4_n]
      exact ite_y (by simp (disch := omega) only [lit, nI_add, pk_mul, leI, ltI, eqI]; omega) ⟨.inr rfl, h1 (fun ⟨j, j1, j2⟩ => he j (by omega) j2)⟩
    | succ d ih =>
      intro i hi he
      obtain ⟨t1, t2⟩ := ht i (by omega)
      rw [f_X11_isNew_4_n, nI_1]
      refine ite_n (by simp (disch := omega) only [lit, nI_add, pk_mul, leI, ltI, eqI]; omega) (ite_n (by decide) (ex_y r ⟨by rw [l, in_iff (by omega)]; omega, ex_y r ⟨by rw [l, in_iff (by omega)]; omega, ?_⟩⟩))
      rw [clI (by omega), clI (by omega), t2, hcc]
      refine ite_c (fun e => ?_) (fun e => ?_)
      · rw [eqI (by omega) (by omega)] at e
        exact s0 d (i + 1) (by omega) ⟨i, by omega, e⟩
      · rw [eqI (by omega) (by omega)] at e
        refine ih (i + 1) (by omega) (fun j hj => ?_)
        by_cases e' : j = i
        · rw [e']; exact e
        · exact he j (by omega)
  exact ⟨k + 1, s1 k 0 (by omega) (fun j hj => absurd hj (by omega))⟩
abbrev ftr (i : Nat) : Prop := i = 115 ∨ i = 116
/-- the best row so far -/
def BR (S : St) (n mo : Nat) (R : Nat → Nat) : Prop := mo ≠ 0 → ∀ p, p < n → S.1 116 p = nI (R p)
theorem M_eval {n : Nat} {w : Nat → Nat → Nat} {t R : Nat → Nat} {mo : Nat} {k18 : Int32 → Int32 → St → Prop} {S1 : St} (hS : ShR G S.2.2) (hn : n ≤ 6) (hw : ∀ p g, w p g ≤ 1) (h114 : ∀ p g, p < n → g < n → S.1 114 (6 * p + g) = nI (w p g)) (f1 : Fr ftr S S1) (ht : ∀ i, i < n → t i < n ∧ S1.1 115 i = nI (t i)) (hmo : mo ≤ 8) (hB : BR S1 n mo R) (z : ∀ S', Fr ftr S S' → (∀ i, i < n → S'.1 115 i = nI (t i)) → (mo < vsS w t n + 1 → BR S' n (vsS w t n + 1) t → k18 (nI (vsS w t n + 1) - 1) (nI n + (-1)) S') ∧ (¬ mo < vsS w t n + 1 → BR S' n mo R → k18 (nI mo - 1) (nI n + (-1)) S')) : f_X11_findFitted_53 G k18 87 (nI n) (nI mo - 1) (nI n) Q 0 0 S1 := by
  have r48 : ∀ {S2 : St}, Fr ftr S S2 → S2.2.2 87 48 = some 115 := fun f => by rw [f.1]; exact hS.tried
  have r49 : ∀ {S2 : St}, Fr ftr S S2 → S2.2.2 87 49 = some 116 := fun f => by rw [f.1]; exact hS.bestRow
  have r47 : S1.2.2 87 47 = some 114 := by rw [f1.1]; exact hS.willDo
  have vl := vsS_le (t := t) hw n
  have s2 : ∀ (d i : Nat) (S2 : St), d + i = n → Fr ftr S S2 → (∀ i, i < n → S2.1 115 i = nI (t i)) → (∀ j, j < i → S2.1 116 j = nI (t j)) → mo < vsS w t n + 1 → f_X11_findFitted_122_n G k18 87 (nI n) (nI mo - 1) (nI n) (nI (vsS w t n)) 1 Q (d + 1) (nI i) S2 := by
    intro d
    induction d with
    | zero =>
      intro i S2 hd f2 e2 e3 lt
      rw [f_X11_findFitted_122_n]
      refine ite_y (by simp (disch := omega) only [lit, nI_add, pk_mul, leI, ltI, eqI]; omega) (ite_n (by decide) ?_)
      have := (z S2 f2 e2).1 lt (fun _ p hp => e3 p (by omega))
      rw [nI_pred] at this; exact this
    | succ d ih =>
      intro i S2 hd f2 e2 e3 lt
      rw [f_X11_findFitted_122_n, nI_1, clI (by omega)]
      refine ite_n (by simp (disch := omega) only [lit, nI_add, pk_mul, leI, ltI, eqI]; omega) (ite_n (by decide) (ex_y (r49 f2) (ex_y (r48 f2) ⟨by rw [hS.tried_l, in_iff (by omega)]; omega, by rw [hS.bestRow_l, in_iff (by omega)]; omega, nm_e ?_⟩)))
      refine ih (i + 1) _ (by omega) (f2.uI (.inr rfl)) (fun j hj => by rw [uI_n _ _ _ _ (by omega)]; exact e2 j hj) (fun j hj => ?_) lt
      rw [uI_s]
      by_cases e : j = i
      · rw [if_pos e, e, e2 i (by omega)]
      · rw [if_neg e]; exact e3 j (by omega)
  have s1 : ∀ (d i : Nat), d + i = n → f_X11_findFitted_53_n G k18 87 (nI n) (nI mo - 1) (nI n) Q (d + 1) (nI (vsS w t i)) (nI i) S1 := by
    intro d
    induction d with
    | zero =>
      intro i hd
      have hd : i = n := by omega
      subst hd
      rw [f_X11_findFitted_53_n]
      refine ite_y (by simp (disch := omega) only [lit, nI_add, pk_mul, leI, ltI, eqI]; omega) (ite_y rfl ?_)
      by_cases lt : mo < vsS w t i + 1
      · refine ite_n ?_ ⟨i + 1, s2 i 0 S1 (by omega) f1 (fun i hi => (ht i hi).2) (fun j hj => absurd hj (by omega)) lt⟩
        rcases Nat.eq_zero_or_pos mo with rfl | h
        · rw [i32_le, nI_toInt (by omega), show (nI 0 - 1 : Int32).toInt = -1 from rfl]; omega
        · rw [show (1 : Int32) = nI 1 from rfl, sbI h, leI (by omega) (by omega)]; omega
      · refine ite_y ?_ ⟨1, ?_⟩
        · rw [show (1 : Int32) = nI 1 from rfl, sbI (by omega), leI (by omega) (by omega)]; omega
        · have fz := (z S1 f1 (fun i hi => (ht i hi).2)).2 lt hB
          rw [f_X11_findFitted_122_n]
          exact ite_c (fun _ => ite_y rfl fz) (fun _ => ite_y rfl (ite_y rfl fz))
    | succ d ih =>
      intro i hd
      obtain ⟨t1, t2⟩ := ht i (by omega)
      have wl := hw i (t i)
      rw [f_X11_findFitted_53_n, nI_1]
      refine ite_n (by simp (disch := omega) only [lit, nI_add, pk_mul, leI, ltI, eqI]; omega) (ite_y rfl (ex_y r47 (ex_y (r48 f1) ⟨by rw [hS.tried_l, in_iff (by omega)]; omega, ?_⟩)))
      rw [clI (a := i) (by omega), t2, show 6 * nI i + nI (t i) = nI (6 * i + t i) from by rw [show (6 : Int32) = nI 6 from rfl, pk_mul, nI_add], clI (by omega), (f1.2 114 (by unfold ftr; omega)).1, h114 i (t i) (by omega) t1]
      refine ⟨by rw [hS.willDo_l, in_iff (by omega)]; omega, ?_⟩
      have w2 := ih (i + 1) (by omega)
      rw [vsS] at w2
      refine ite_c (fun e => ?_) (fun e => ?_)
      · rw [show (0 : Int32) = nI 0 from rfl, eqI (by omega) (by omega)] at e
        refine nm_p (e' := nI (vsS w t i + w i (t i))) ?_ w2
        rw [e, show (0 : Int32) = nI 0 from rfl, nI_add]
      · rw [show (0 : Int32) = nI 0 from rfl, eqI (by omega) (by omega)] at e
        refine nm_p (e' := nI (vsS w t i + w i (t i))) ?_ w2
        rw [show w i (t i) = 1 from by omega, nI_1]
  exact ⟨n + 1, s1 n 0 (by omega)⟩
theorem M_back {n k mo : Nat} {k18 : Int32 → Int32 → St → Prop} {S1 : St} (hn : n ≤ 6) (hk : k < n) (z : k18 (nI mo - 1) (nI k + (-1)) S1) : f_X11_findFitted_53 G k18 87 (nI n) (nI mo - 1) (nI k) Q 0 0 S1 := by
  refine ⟨1, ?_⟩
  rw [f_X11_findFitted_53_n]
  have ne : ¬ nI k = nI n := by rw [eqI (by omega) (by omega)]; omega
  have n0 : ¬ nI n ≤ 0 := by rw [show (0 : Int32) = nI 0 from rfl, leI (by omega) (by omega)]; omega
  refine ite_n n0 (ite_n ne (ite_n ne ⟨1, ?_⟩))
  rw [f_X11_findFitted_122_n]
  exact ite_n n0 (ite_y rfl (ite_y rfl z))
theorem M_try {n : Nat} {w : Nat → Nat → Nat} (hS : ShR G S.2.2) (hn : n ≤ 6) (hw : ∀ p g, w p g ≤ 1) (h114 : ∀ p g, p < n → g < n → S.1 114 (6 * p + g) = nI (w p g)) : ∀ (d N k : Nat) (t R : Nat → Nat) (mo : Nat) (S1 : St), d + k = n → Fr ftr S S1 → (∀ i, i < k → t i < n ∧ S1.1 115 i = nI (t i)) → S1.1 115 k = -1 → mo ≤ 8 → BR S1 n mo R → (∀ S', Fr ftr S S' → (∀ i, i < k → S'.1 115 i = nI (t i)) → (mo < vsS w t k + tbF n w d (mkS t k) + 1 → BR S' n (vsS w t k + tbF n w d (mkS t k) + 1) (cmS n w d t k) → f_X11_findFitted_18_n G 87 (nI n) Q N (nI (vsS w t k + tbF n w d (mkS t k) + 1) - 1) (nI k - 1) S') ∧ (¬ mo < vsS w t k + tbF n w d (mkS t k) + 1 → BR S' n mo R → f_X11_findFitted_18_n G 87 (nI n) Q N (nI mo - 1) (nI k - 1) S')) → mkS t k < 2 ^ n → litN (mkS t k) = k → f_X11_findFitted_18_n G 87 (nI n) Q (N + fxS n d (mkS t k)) (nI mo - 1) (nI k) S1 := by
  obtain ⟨q64, q1⟩ := p2 hn
  have hT := tbF_le (n := n) hw
  have r48 : ∀ {S2 : St}, Fr ftr S S2 → S2.2.2 87 48 = some 115 := fun f => by rw [f.1]; exact hS.tried
  intro d
  induction d with
  | zero =>
    intro N k t R mo S1 hk f1 ht hc hmo hB z m1 m2
    have hk : k = n := by omega
    subst hk
    show f_X11_findFitted_18_n G 87 (nI k) Q (N + 1) (nI mo - 1) (nI k) S1
    rw [f_X11_findFitted_18_n]
    refine ite_n (by simp (disch := omega) only [lit, nI_add, pk_mul, leI, ltI, eqI]; omega) (ex_y (r48 f1) ⟨by rw [hS.tried_l, in_iff (by omega)]; omega, by rw [hS.tried_l, in_iff (by omega)]; omega, nm_e (ite_y rfl ?_)⟩)
    rw [clI (a := k) (by omega)]
    refine M_eval hS hn hw h114 (f1.uI (.inl rfl)) (fun i hi => ⟨(ht i hi).1, by rw [uI_s, if_neg (by omega)]; exact (ht i hi).2⟩) hmo (R := R) (fun h p hp => by rw [uI_n _ _ _ _ (by omega)]; exact hB h p hp) (fun S2 f2 e2 => ?_)
    have zz := z S2 f2 e2
    rw [← Int32.sub_eq_add_neg]
    exact zz
  | succ d ih =>
    intro N k t R mo S1 hk f1 ht hc hmo hB z m1 m2
    rw [fxS]
    have vl := vsS_le (t := t) hw k
    -- the glasses one after the other
    have st : ∀ (e c : Nat) (S2 : St) (mo2 : Nat) (R2 : Nat → Nat), e + c = n → Fr ftr S S2 → (∀ i, i < k → S2.1 115 i = nI (t i)) → S2.1 115 k = nI c - 1 → mo2 ≤ 8 → BR S2 n mo2 R2 → (if tzF w k (tbF n w d) (mkS t k) c ≠ 0 ∧ mo < vsS w t k + tzF w k (tbF n w d) (mkS t k) c then mo2 = vsS w t k + tzF w k (tbF n w d) (mkS t k) c ∧ R2 = cmS n w d (up t k (gzF w k (tbF n w d) (mkS t k) c)) (k + 1) else mo2 = mo ∧ R2 = R) → f_X11_findFitted_18_n G 87 (nI n) Q (N + fxq n (fxS n d) (mkS t k) e) (nI mo2 - 1) (nI k) S2 := by
      intro e
      induction e with
      | zero =>
        intro c S2 mo2 R2 he f2 e2 e3 hm2 hB2 hst
        have he : c = n := by omega
        subst he
        show f_X11_findFitted_18_n G 87 (nI c) Q (N + 1) (nI mo2 - 1) (nI k) S2
        rw [f_X11_findFitted_18_n]
        refine ite_n (by simp (disch := omega) only [lit, nI_add, pk_mul, leI, ltI, eqI]; omega) (ex_y (r48 f2) ⟨by rw [hS.tried_l, in_iff (by omega)]; omega, by rw [hS.tried_l, in_iff (by omega)]; omega, nm_e (ite_n (by simp (disch := omega) only [lit, nI_add, pk_mul, leI, ltI, eqI]; omega) (ex_y (r48 (f2.uI (.inl rfl))) ⟨by rw [hS.tried_l, in_iff (by omega)]; omega, ite_n ?_ (M_back hn (by omega) ?_)⟩))⟩)
        · rw [clI (by omega), uI_s, if_pos rfl, e3, Int32.sub_add_cancel, ltI (by omega) (by omega)]; omega
        rw [← Int32.sub_eq_add_neg, clI (by omega)]
        obtain ⟨y1, y2⟩ := z (uI S2 115 k (S2.1 115 k + 1)) (f2.uI (.inl rfl)) (fun i hi => by rw [uI_s, if_neg (by omega)]; exact e2 i hi)
        have hB3 : BR (uI S2 115 k (S2.1 115 k + 1)) c mo2 R2 := fun h p hp => by rw [uI_n _ _ _ _ (by omega)]; exact hB2 h p hp
        have ne : mkS t k + 1 < 2 ^ c := by
          by_cases h : mkS t k + 1 < 2 ^ c
          · exact h
          · rw [show mkS t k = 2 ^ c - 1 from by omega, (lit_all hn).1] at m2; omega
        obtain ⟨_, g, g1, g2⟩ := or_ex hn ne
        obtain ⟨a1, a2⟩ := gzF_ok (w := w) (k := k) (m := mkS t k) (T := tbF c w d) c
        have pos := a1 g g1 g2
        have et : tbF c w (d + 1) (mkS t k) = tzF w k (tbF c w d) (mkS t k) c - 1 := by rw [tbF, show c - (d + 1) = k from by omega]
        rw [et, show vsS w t k + (tzF w k (tbF c w d) (mkS t k) c - 1) + 1 = vsS w t k + tzF w k (tbF c w d) (mkS t k) c from by omega] at y1 y2
        by_cases lt : mo < vsS w t k + tzF w k (tbF c w d) (mkS t k) c
        · rw [if_pos ⟨by omega, lt⟩] at hst
          obtain ⟨rfl, rfl⟩ := hst
          exact y1 lt hB3
        · rw [if_neg (fun h => lt h.2)] at hst
          obtain ⟨rfl, rfl⟩ := hst
          exact y2 lt hB3
      | succ e ihe =>
        intro c S2 mo2 R2 he f2 e2 e3 hm2 hB2 hst
        have tz := tzF_le (k := k) (m := mkS t k) hw (hT d) c
        have mh := mkS_hb (c := c) hn (by omega) k (fun i hi => (ht i hi).1)
        have ec : n - (e + 1) = c := by omega
        have nx : f_X11_findFitted_18_n G 87 (nI n) Q ((N + (if hb (mkS t k) c then 0 else fxS n d (mkS t k ||| (1 <<< c))) + fxq n (fxS n d) (mkS t k) e) + 1) (nI mo2 - 1) (nI k) S2 := by
          rw [f_X11_findFitted_18_n]
          have e115 : (uI S2 115 k (S2.1 115 k + 1)).1 115 k = nI c := by rw [uI_s, if_pos rfl, e3, Int32.sub_add_cancel]
          refine ite_n (by simp (disch := omega) only [lit, nI_add, pk_mul, leI, ltI, eqI]; omega) (ex_y (r48 f2) ⟨by rw [hS.tried_l, in_iff (by omega)]; omega, by rw [hS.tried_l, in_iff (by omega)]; omega, nm_e (ite_n (by simp (disch := omega) only [lit, nI_add, pk_mul, leI, ltI, eqI]; omega) (ex_y (r48 (f2.uI (.inl rfl))) ⟨by rw [hS.tried_l, in_iff (by omega)]; omega, ite_y ?_ ?_⟩))⟩)
          · rw [clI (by omega), e115, ltI (by omega) (by omega)]; omega
          rw [clI (a := k) (by omega)]
          have f3 : Fr ftr S (uI S2 115 k (S2.1 115 k + 1)) := f2.uI (.inl rfl)
          have e2' : ∀ i, i < k → (uI S2 115 k (S2.1 115 k + 1)).1 115 i = nI (t i) := fun i hi => by rw [uI_s, if_neg (by omega)]; exact e2 i hi
          have hB3 : BR (uI S2 115 k (S2.1 115 k + 1)) n mo2 R2 := fun h p hp => by rw [uI_n _ _ _ _ (by omega)]; exact hB2 h p hp
          generalize uI S2 115 k (S2.1 115 k + 1) = S3 at e115 f3 e2' hB3
          refine m_isNew (t := t) (c := c) (r48 f3) hS.tried_l (by omega) (by omega) (fun i hi => ⟨by have := (ht i hi).1; omega, e2' i hi⟩) e115 (fun hn' => ite_n (by decide) (ex_y (r48 f3) ⟨by rw [nI_1, hS.tried_l, in_iff (by omega)]; omega, nm_e ?_⟩)) (fun he' => ite_y rfl ?_)
          · have nb : ¬ hb (mkS t k) c := fun h => hn' (mh.2.mp h)
            rw [if_neg nb, nI_1, clI (by omega)]
            obtain ⟨on1, on2⟩ := or_n (m := mkS t k) (g := c) (by omega) (by omega) nb
            have ol := or_lt hn (m := mkS t k) (g := c) m1 (by omega)
            have mk1 : mkS (up t k c) (k + 1) = mkS t k ||| (1 <<< c) := by rw [mkS, mkS_up k k (Nat.le_refl k), up_s]
            have vs1 : vsS w (up t k c) (k + 1) = vsS w t k + w k c := by rw [vsS, vsS_up k k (Nat.le_refl k), up_s]
            have wl := hw k c
            have tl := hT d (mkS t k ||| (1 <<< c))
            have go := ih (N + fxq n (fxS n d) (mkS t k) e) (k + 1) (up t k c) R2 mo2 (uI S3 115 (k + 1) (-1)) (by omega) (f3.uI (.inl rfl)) (fun i hi => ?_) (by rw [uI_s, if_pos rfl]) hm2 (fun h p hp => by rw [uI_n _ _ _ _ (by omega)]; exact hB3 h p hp) ?_ (by rw [mk1]; exact ol) (by rw [mk1, on2, m2])
            · rw [mk1] at go
              rw [show N + fxS n d (mkS t k ||| (1 <<< c)) + fxq n (fxS n d) (mkS t k) e = N + fxq n (fxS n d) (mkS t k) e + fxS n d (mkS t k ||| (1 <<< c)) from by omega]
              exact go
            · rw [uI_s, if_neg (by omega)]
              by_cases e' : i = k
              · rw [e', up_s]; exact ⟨by omega, e115⟩
              · rw [up_n t e']; exact ⟨(ht i (by omega)).1, e2' i (by omega)⟩
            · intro S4 f4 e4
              rw [mk1, vs1, nI_pred k]
              have e4k : S4.1 115 k = nI (c + 1) - 1 := by rw [e4 k (by omega), up_s, nI_pred]
              have e4i : ∀ i, i < k → S4.1 115 i = nI (t i) := fun i hi => by rw [e4 i (by omega), up_n t (by omega)]
              refine ⟨fun lt hB4 => ihe (c + 1) S4 _ (cmS n w d (up t k c) (k + 1)) (by omega) f4 e4i e4k (by omega) hB4 ?_, fun lt hB4 => ihe (c + 1) S4 _ R2 (by omega) f4 e4i e4k hm2 hB4 ?_⟩
              · rw [tzF, gzF, if_neg nb, if_neg nb]
                have l2 : tzF w k (tbF n w d) (mkS t k) c < w k c + tbF n w d (mkS t k ||| (1 <<< c)) + 1 := by
                  by_cases q : tzF w k (tbF n w d) (mkS t k) c ≠ 0 ∧ mo < vsS w t k + tzF w k (tbF n w d) (mkS t k) c
                  · rw [if_pos q] at hst
                    obtain ⟨rfl, _⟩ := hst
                    omega
                  · rw [if_neg q] at hst
                    obtain ⟨rfl, _⟩ := hst
                    by_cases q0 : tzF w k (tbF n w d) (mkS t k) c = 0
                    · omega
                    · have : ¬ mo2 < vsS w t k + tzF w k (tbF n w d) (mkS t k) c := fun h => q ⟨q0, h⟩
                      omega
                have l3 : mo < vsS w t k + (w k c + tbF n w d (mkS t k ||| (1 <<< c)) + 1) := by
                  by_cases q : tzF w k (tbF n w d) (mkS t k) c ≠ 0 ∧ mo < vsS w t k + tzF w k (tbF n w d) (mkS t k) c
                  · omega
                  · rw [if_neg q] at hst
                    obtain ⟨rfl, _⟩ := hst
                    omega
                rw [if_pos l2, Nat.max_eq_right (Nat.le_of_lt l2), if_pos ⟨Nat.succ_ne_zero _, l3⟩]
                exact ⟨by omega, rfl⟩
              · rw [tzF, gzF, if_neg nb, if_neg nb]
                by_cases q : tzF w k (tbF n w d) (mkS t k) c ≠ 0 ∧ mo < vsS w t k + tzF w k (tbF n w d) (mkS t k) c
                · rw [if_pos q] at hst
                  obtain ⟨rfl, rfl⟩ := hst
                  have l2 : ¬ tzF w k (tbF n w d) (mkS t k) c < w k c + tbF n w d (mkS t k ||| (1 <<< c)) + 1 := by omega
                  rw [if_neg l2, Nat.max_eq_left (by omega), if_pos q]
                  exact ⟨rfl, rfl⟩
                · rw [if_neg q] at hst
                  obtain ⟨rfl, rfl⟩ := hst
                  rw [if_neg]
                  · exact ⟨rfl, rfl⟩
                  · rintro ⟨_, h⟩
                    by_cases q0 : tzF w k (tbF n w d) (mkS t k) c = 0
                    · rw [q0, Nat.max_eq_right (Nat.zero_le _)] at h; omega
                    · have : ¬ mo2 < vsS w t k + tzF w k (tbF n w d) (mkS t k) c := fun h => q ⟨q0, h⟩
                      omega
          · have hbb := mh.2.mpr he'
            rw [if_pos hbb, Nat.add_zero]
            refine ihe (c + 1) S3 mo2 R2 (by omega) f3 e2' (by rw [e115, nI_pred]) hm2 hB3 ?_
            rw [tzF, gzF, if_pos hbb, if_pos hbb]; exact hst
        rw [fxq, ec]
        by_cases b : hb (mkS t k) c
        · rw [if_pos b] at nx ⊢
          rw [show N + (1 + fxq n (fxS n d) (mkS t k) e) = N + 0 + fxq n (fxS n d) (mkS t k) e + 1 from by omega]; exact nx
        · rw [if_neg b] at nx ⊢
          rw [show N + (1 + fxS n d (mkS t k ||| (1 <<< c)) + fxq n (fxS n d) (mkS t k) e) = N + fxS n d (mkS t k ||| (1 <<< c)) + fxq n (fxS n d) (mkS t k) e + 1 from by omega]; exact nx
    exact st n 0 S1 mo R (by omega) f1 (fun i hi => (ht i hi).2) (by rw [hc]; rfl) hmo hB (by rw [if_neg (fun h => h.1 rfl)]; exact ⟨rfl, rfl⟩)
theorem M_fit (hR : Ref G S a L I un u T tn fl m) (hV : Va a) (h114 : ∀ p g, p < a 0 → g < a 0 → S.1 114 (6 * p + g) = nI (wF a L p g)) (z : ∀ S', Fr ftr S S' → (∀ p, p < a 0 → S'.1 116 p = nI (gsq (a 0) (wF a L) p)) → Q (nI (tbF (a 0) (wF a L) (a 0) 0)) S') : f_X11_findFitted G 87 Q S := by
  have h6 := hV.1
  have hS := hR.1.1
  refine ex_y hS.row ⟨inrow (n := 0) hS (by omega), nm_p (e' := nI (a 0)) hR.1.2.1.1 (ex_y hS.tried ⟨by rw [hS.tried_l]; exact (in_iff (k := 0) (by omega)).mpr (by omega), nm_e ?_⟩)⟩
  have w := M_try (Q := Q) (n := a 0) (w := wF a L) hS h6 wF_le h114 (a 0) 1 0 (fun _ => 0) (fun _ => 0) 0 (uI S 115 0 (-1)) (by omega) ((Fr.refl S).uI (.inl rfl)) (fun i hi => absurd hi (by omega)) (by rw [uI_s, if_pos rfl]) (by omega) (fun h => absurd rfl h) (fun S' f' _ => ⟨fun _ hB => ?_, fun h => absurd (show 0 < vsS (wF a L) (fun _ => 0) 0 + tbF (a 0) (wF a L) (a 0) (mkS (fun _ => 0) 0) + 1 by omega) h⟩) (by rw [mkS]; exact (p2 h6).2) (by rw [mkS]; decide)
  · exact ⟨_, w⟩
  · rw [f_X11_findFitted_18_n]
    refine ite_y (by decide) ?_
    rw [nI_pred, show vsS (wF a L) (fun _ => 0) 0 = 0 from rfl, Nat.zero_add, show mkS (fun _ => 0) 0 = 0 from rfl]
    refine z S' f' (fun p hp => ?_)
    rw [hB (by omega) p hp, cm_gs (a 0) (fun _ => 0) 0 (by omega) (fun i hi => absurd hi (by omega)) p hp]
theorem R_28 {v : Int32} (h : Inv G S) (k : ∀ S', Inv G S' → K G S') : f_X10_fitted G 0 v (fun r S1 => f_X11_fitted G 87 v (fun r2 S2 => r = r2 ∧ K G S2) S1) S := by
  obtain ⟨a, L, I, un, u, T, tn, fl, m, hV, hC, hR⟩ := h
  have h6 := hV.1.1
  have fin := k _ (inv hV hC.th hR.th)
  have r0 : ∀ {S1 : St}, Ref G S1 a L I un u T tn fl m → (S1.1 90 ((0 : Int32).toNatClampNeg)).toInt64.toInt = (a 0 : Nat) := fun hR1 => by
    rw [show ((0 : Int32).toNatClampNeg) = 0 from rfl, hR1.1.2.1.1, i32_64, nI_toInt (by omega)]
  have good : ∀ x, x ≤ a 0 → v = nI x → f_X10_fitted_19 G 0 v (fun r S1 => f_X11_fitted G 87 v (fun r2 S2 => r = r2 ∧ K G S2) S1) S := by
    rintro x hx rfl
    refine ex_y hC.1.r0_7 (ex_y hC.1.r0_0 (C_fit hC hV.1 hx (fun S1 hC1 o1 => nm_e ?_)))
    have hR1 := (hR.offR o1).th
    refine ex_y hR1.1.1.row ⟨inrow (n := 0) hR1.1.1 (by omega), m_in_y (l := 0) (h := a 0) (by omega) rfl (r0 hR1) (by omega) hx (ite_n (by decide) (M_layF hR1 hV.1 (fun S2 hR2 o2 e2 => M_fit hR2 hV.1 e2 (fun S3 f3 e3 => ?_))))⟩
    have hR3 := hR2.ag (S' := S3) (fun k _ => by rw [(f3.2 87 (by unfold ftr; omega)).1]) (fun i hi => (f3.2 i (by unfold ftr; omega)).1) (fun i hi => (f3.2 i (by unfold ftr; omega)).2) (by rw [f3.1])
    have hC3 := ((hC1.th.offC o2).fr f3 (by intro i hi; unfold ftr at hi; unfold rlC; omega))
    have fin3 := k _ (inv hV hC3 hR3)
    by_cases x0 : x = 0
    · rw [if_pos x0]
      exact ite_y (by rw [x0]; rfl) ⟨rfl, fin3⟩
    · rw [if_neg x0]
      obtain ⟨x, rfl⟩ : ∃ y, x = y + 1 := ⟨x - 1, by omega⟩
      refine ite_n (by rw [show (0 : Int32) = nI 0 from rfl, eqI (by omega) (by omega)]; omega) (ex_y hR3.1.1.bestRow ?_)
      rw [nI_pred, clI (by omega), e3 x (by omega)]
      exact ⟨by rw [hR3.1.1.bestRow_l, in_iff (by omega)]; omega, rfl, fin3⟩
  unfold f_X10_fitted
  by_cases v0 : v = 0
  · exact ite_y v0 (good 0 (by omega) v0)
  refine ite_n v0 (ex_y hC.1.r0_0 ?_)
  rcases ar_c (a 0) (by omega) (v - 1) with ⟨j, hj, ej⟩ | hv
  · rw [ej]
    refine c_has_y hC.2.1 hV.1 hj (ite_n (by decide) (good (j + 1) (by omega) ?_))
    rw [← nI_1, ← ej, Int32.sub_add_cancel]
  · refine c_has_n hC.2.1 hV.1 hv (ite_y rfl (nm_e (ex_y hR.th.1.1.row ⟨inrow (n := 0) hR.th.1.1 (by omega), m_in (fun h1 h2 => ?_) (fun _ => ite_y rfl ⟨rfl, fin⟩)⟩)))
    exfalso
    rw [r0 hR.th] at h2
    rw [i32_64] at h1 h2
    have e0 : (0 : Int64).toInt = 0 := rfl
    obtain ⟨x, hx, rfl⟩ : ∃ x, x ≤ a 0 ∧ v = nI x := ⟨v.toInt.toNat, by omega, i32n (by omega) (by omega)⟩
    have x0 : x ≠ 0 := fun e => v0 (by rw [e]; rfl)
    obtain ⟨x, rfl⟩ : ∃ y, x = y + 1 := ⟨x - 1, by omega⟩
    rw [nI_pred] at hv
    exact ar_no (n := a 0) (by omega) hv ⟨x, by omega, rfl⟩
end
