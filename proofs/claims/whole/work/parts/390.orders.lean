-- needs: 389
/-! orders. -/
/-- the tracks kept aside -/
def UBk (S : St) (n : Nat) (u : Un) : Prop := ∀ k, k < n → S.1 96 (n - 1 - k) = nI (u k).1 ∧ SnR (fun i => S.1 95 (58 * (n - 1 - k) + i)) (u k).2
/-- the reference between orders -/
def OIr (G : Gm) (S0 : St) (a : Rw) (L : Nat → Lw) (I : Im) (un : Nat) (u : Un) (T : Nat → Nat) (F : Nat → Int32) (m : Rw) (q N : Nat) (c : Cd) (Lz : Nat → Cz) (B : Nat) (S : St) (s : OSt) : Prop :=
  Ref G S s.1 L I s.2.1 s.2.2.1 T 0 F m ∧ Vld s.1 I s.2.1 s.2.2.1 T 0 m ∧ CdR S true N c ∧ (∀ i, i < q → ORec i (Lz i) S c N) ∧ S.1 87 22 = nI q ∧ S.1 87 53 = nI s.2.2.2.1 ∧ S.1 87 54 = nI s.2.2.2.2 - 1 ∧ s.2.2.2.1 ≤ B ∧ s.2.2.2.2 ≤ 1001 ∧ SnR (fun i => S.1 93 (986 + i)) a ∧ UBk S un u ∧ OffC S0 S ∧ (∀ i, i < 4 ∨ (5 ≤ i ∧ i < 8) ∨ 38 ≤ i → s.1 i = a i)
section
variable {G : Gm} {S S' : St} {a b m : Rw} {L : Nat → Lw} {I : Im} {un tn : Nat} {u : Un} {T : Nat → Nat} {fl : Nat → Int32} {Q : Int32 → St → Prop} {K : St → Prop} {dn ls N : Nat} {c : Cd}
theorem ORec.ag {i : Nat} {z : Cz} (h : ORec i z S c N) (e : S'.1 119 = S.1 119) : ORec i z S' c N := by
  unfold ORec; rw [e]; exact h
theorem M_giveBack {un' : Nat} {u' : Un} (hR : Ref G S b L I un' u' T tn fl m) (hu : un ≤ 16) (hs : SnR (fun i => S.1 93 (986 + i)) a) (hk : UBk S un u) (hb : ∀ i, i < 4 ∨ (5 ≤ i ∧ i < 8) ∨ 38 ≤ i → b i = a i) (z : ∀ S', Ref G S' a L I un u T tn fl m → OffC S S' → K S') : f_X11_giveBack G 87 (nI un) K S := by
  have hS := hR.1.1
  refine m_putBack (r := 17) hS (by omega) (fun S1 s1 s2 s3 => ?_)
  have eb : bk b a = a := by
    funext i
    by_cases h : i = 4 ∨ (8 ≤ i ∧ i < 38)
    · exact bk_y h
    · rw [bk_n h]; exact hb i (by omega)
  have hR1 : Ref G S1 a L I un' u' T tn fl m := by
    have := hR.put (S' := S1) (x := a) (hs.ag (fun i hi => by rw [s3, if_pos (by omega), show 58 * 17 + (4 + i - 4) = 986 + i from by omega])) (hb 5 (by omega)).symm (hb 6 (by omega)).symm (hb 7 (by omega)).symm s1 s2 (fun i hi => by rw [s3, if_neg hi])
    rw [eb] at this; exact this
  have hS1 := hR1.1.1
  have e95 : S1.1 95 = S.1 95 := s2 95 (by omega)
  have e96 : S1.1 96 = S.1 96 := s2 96 (by omega)
  have l2 : ∀ (d j : Nat) (S2 : St), d + j = 16 → S2.2 = S1.2 → (∀ i, i ≠ 93 → i ≠ 94 → S2.1 i = S1.1 i) → (∀ i, i < 928 → S2.1 93 i = S.1 95 i) → (∀ i, i < j → S2.1 94 i = S.1 96 i) → f_X11_giveBack_35_n G 87 (nI un) K (d + 1) (nI j) S2 := by
    intro d
    induction d with
    | zero =>
      intro j S2 hd f1 f2 f3 f4
      rw [f_X11_giveBack_35_n]
      refine ite_y (by simp (disch := omega) only [lit, nI_add, pk_mul, leI, ltI, eqI]; omega) (nm_e (z _ (hR1.unr ⟨by rw [uI_s, if_pos rfl], fun k hk' => ?_⟩ f1 (fun i h1 h2 h3 => by rw [uI_n _ _ _ _ h1]; exact f2 i h2 h3) (fun k hk' => by rw [uI_s, if_neg hk', f2 87 (by omega) (by omega)])) ?_))
      · obtain ⟨k1, k2⟩ := hk k hk'
        rw [uI_n _ _ _ _ (by omega), uI_n _ _ _ _ (by omega)]
        exact ⟨by rw [f4 _ (by omega)]; exact k1, k2.ag (fun i hi => f3 _ (by omega))⟩
      · refine ⟨by show S2.2.2 = _; rw [f1, s1], fun i hi => ⟨by rw [uI_n _ _ _ _ (by omega), f2 i (by omega) (by omega)]; exact s2 i (by omega), by show S2.2.1 i = _; rw [f1, s1]⟩⟩
    | succ d ih =>
      intro j S2 hd f1 f2 f3 f4
      rw [f_X11_giveBack_35_n, nI_1, clI (by omega)]
      refine ite_n (by simp (disch := omega) only [lit, nI_add, pk_mul, leI, ltI, eqI]; omega) (ex_y (by rw [f1]; exact hS1.sorts) (ex_y (by rw [f1]; exact hS1.sortsBefore) ⟨by rw [hS1.sortsBefore_l, in_iff (by omega)]; omega, by rw [hS1.sorts_l, in_iff (by omega)]; omega, nm_e (ih (j + 1) _ (by omega) f1 (fun i h1 h2 => by rw [uI_n _ _ _ _ h2]; exact f2 i h1 h2) (fun i hi => by rw [uI_n _ _ _ _ (by omega)]; exact f3 i hi) (fun i hi => ?_))⟩))
      rw [uI_s, f2 96 (by omega) (by omega), e96]
      by_cases e : i = j
      · rw [if_pos e, e]
      · rw [if_neg e]; exact f4 i (by omega)
  have l1 : ∀ (d j : Nat) (S2 : St), d + j = 928 → S2.2 = S1.2 → (∀ i, i ≠ 93 → S2.1 i = S1.1 i) → (∀ i, i < j → S2.1 93 i = S.1 95 i) → f_X11_giveBack_8_n G 87 (nI un) K (d + 1) (nI j) S2 := by
    intro d
    induction d with
    | zero =>
      intro j S2 hd f1 f2 f3
      rw [f_X11_giveBack_8_n]
      exact ite_y (by simp (disch := omega) only [lit, nI_add, pk_mul, leI, ltI, eqI]; omega) ⟨17, l2 16 0 S2 (by omega) f1 (fun i h1 _ => f2 i h1) (fun i hi => f3 i (by omega)) (fun i hi => absurd hi (by omega))⟩
    | succ d ih =>
      intro j S2 hd f1 f2 f3
      rw [f_X11_giveBack_8_n, nI_1, clI (by omega)]
      refine ite_n (by simp (disch := omega) only [lit, nI_add, pk_mul, leI, ltI, eqI]; omega) (ex_y (by rw [f1]; exact hS1.undos) (ex_y (by rw [f1]; exact hS1.undosBefore) ⟨by rw [hS1.undosBefore_l, in_iff (by omega)]; omega, by rw [hS1.undos_l, in_iff (by omega)]; omega, nm_e (ih (j + 1) _ (by omega) f1 (fun i h1 => by rw [uI_n _ _ _ _ h1]; exact f2 i h1) (fun i hi => ?_))⟩))
      rw [uI_s, f2 95 (by omega), e95]
      by_cases e : i = j
      · rw [if_pos e, e]
      · rw [if_neg e]; exact f3 i (by omega)
  exact ⟨929, l1 928 0 S1 (by omega) rfl (fun _ _ => rfl) (fun i hi => absurd hi (by omega))⟩
/-- all is kept aside -/
theorem M_keep (hR : Ref G S a L I un u T tn fl m) (hu : un ≤ 16) (z : ∀ S', Ref G S' a L I un u T tn fl m → SnR (fun i => S'.1 93 (986 + i)) a → UBk S' un u → S'.1 87 53 = nI 0 → S'.1 87 54 = nI 0 - 1 → S'.1 87 22 = S.1 87 22 → S'.1 99 = S.1 99 → S'.1 100 = S.1 100 → S'.1 119 = S.1 119 → OffC S S' → f_X11_orders_140 G 87 (nI un) Q 0 S') : f_X11_keepAll G 87 17 (fun S3 => (∀ x4 : Int32, x4 = S3.1 87 9 → f_X11_orders_77 G 87 x4 Q 0 S3)) S := by
  have hS := hR.1.1
  refine m_keepAll (r := 17) hS (by omega) (fun S1 s1 s2 s3 => nm_p (e' := nI un) (by rw [s2 87 (by omega)]; exact hR.2.2.1.1) ?_)
  have s3' : ∀ i, i < 928 → S1.1 93 i = S.1 93 i := fun i hi => by rw [s3, if_neg (by omega)]
  have hR1 : Ref G S1 a L I un u T tn fl m := hR.unr (by
    obtain ⟨g1, g2⟩ := hR.2.2.1
    refine ⟨by rw [s2 87 (by omega)]; exact g1, fun k hk => ?_⟩
    obtain ⟨k1, k2⟩ := g2 k hk
    rw [s2 94 (by omega)]
    exact ⟨k1, k2.ag (fun i hi => s3' _ (by omega))⟩) s1 (fun i h1 h2 h3 => s2 i h2) (fun k hk => by rw [s2 87 (by omega)])
  have hS1 := hR1.1.1
  have sn : SnR (fun i => S1.1 93 (986 + i)) a := hR.1.2.1.sn.ag (fun i hi => by rw [s3, if_pos (by omega), show 4 + (986 + i - 58 * 17) = 4 + i from by omega])
  have l2 : ∀ (d j : Nat) (S2 : St), d + j = 16 → S2.2 = S1.2 → (∀ i, i ≠ 95 → i ≠ 96 → S2.1 i = S1.1 i) → (∀ i, i < 928 → S2.1 95 i = S1.1 93 i) → (∀ i, i < j → S2.1 96 i = S1.1 94 i) → f_X11_orders_104_n G 87 (nI un) Q (d + 1) (nI j) S2 := by
    intro d
    induction d with
    | zero =>
      intro j S2 hd f1 f2 f3 f4
      rw [f_X11_orders_104_n]
      refine ite_y (by simp (disch := omega) only [lit, nI_add, pk_mul, leI, ltI, eqI]; omega) (nm_e (nm_e ?_))
      have w : ∀ i, i ≠ 87 → (uI (uI S2 87 53 0) 87 54 (-1)).1 i = S2.1 i := fun i hi => by rw [uI_n _ _ _ _ hi, uI_n _ _ _ _ hi]
      have w87 : ∀ k, k ≠ 53 → k ≠ 54 → (uI (uI S2 87 53 0) 87 54 (-1)).1 87 k = S1.1 87 k := fun k h1 h2 => by rw [uI_s, if_neg h2, uI_s, if_neg h1, f2 87 (by omega) (by omega)]
      refine z _ (hR1.ag (fun k hk => w87 k (by omega) (by omega)) (fun i hi => by rw [w i (by omega)]; exact f2 i (by omega) (by omega)) (fun i hi => by show S2.2.1 i = _; rw [f1]) (by show S2.2.2 87 = _; rw [f1])) ?_ (fun k hk => ?_) ?_ ?_ ?_ ?_ ?_ ?_ ?_
      · rw [w 93 (by omega), f2 93 (by omega) (by omega)]; exact sn
      · obtain ⟨k1, k2⟩ := hR1.2.2.1.2 k hk
        rw [w 96 (by omega), w 95 (by omega)]
        exact ⟨by rw [f4 _ (by omega)]; exact k1, k2.ag (fun i hi => f3 _ (by omega))⟩
      · rw [uI_s, if_neg (by omega), uI_s, if_pos rfl]; rfl
      · rw [uI_s, if_pos rfl]; rfl
      · rw [w87 22 (by omega) (by omega), s2 87 (by omega)]
      · rw [w 99 (by omega), f2 99 (by omega) (by omega), s2 99 (by omega)]
      · rw [w 100 (by omega), f2 100 (by omega) (by omega), s2 100 (by omega)]
      · rw [w 119 (by omega), f2 119 (by omega) (by omega), s2 119 (by omega)]
      · exact ⟨by show S2.2.2 = _; rw [f1, s1], fun i hi => ⟨by rw [w i (by omega), f2 i (by omega) (by omega)]; exact s2 i (by omega), by show S2.2.1 i = _; rw [f1, s1]⟩⟩
    | succ d ih =>
      intro j S2 hd f1 f2 f3 f4
      rw [f_X11_orders_104_n, nI_1, clI (by omega)]
      refine ite_n (by simp (disch := omega) only [lit, nI_add, pk_mul, leI, ltI, eqI]; omega) (ex_y (by rw [f1]; exact hS1.sortsBefore) (ex_y (by rw [f1]; exact hS1.sorts) ⟨by rw [hS1.sorts_l, in_iff (by omega)]; omega, by rw [hS1.sortsBefore_l, in_iff (by omega)]; omega, nm_e (ih (j + 1) _ (by omega) f1 (fun i h1 h2 => by rw [uI_n _ _ _ _ h2]; exact f2 i h1 h2) (fun i hi => by rw [uI_n _ _ _ _ (by omega)]; exact f3 i hi) (fun i hi => ?_))⟩))
      rw [uI_s, f2 94 (by omega) (by omega)]
      by_cases e : i = j
      · rw [if_pos e, e]
      · rw [if_neg e]; exact f4 i (by omega)
  have l1 : ∀ (d j : Nat) (S2 : St), d + j = 928 → S2.2 = S1.2 → (∀ i, i ≠ 95 → S2.1 i = S1.1 i) → (∀ i, i < j → S2.1 95 i = S1.1 93 i) → f_X11_orders_77_n G 87 (nI un) Q (d + 1) (nI j) S2 := by
    intro d
    induction d with
    | zero =>
      intro j S2 hd f1 f2 f3
      rw [f_X11_orders_77_n]
      exact ite_y (by simp (disch := omega) only [lit, nI_add, pk_mul, leI, ltI, eqI]; omega) ⟨17, l2 16 0 S2 (by omega) f1 (fun i h1 _ => f2 i h1) (fun i hi => f3 i (by omega)) (fun i hi => absurd hi (by omega))⟩
    | succ d ih =>
      intro j S2 hd f1 f2 f3
      rw [f_X11_orders_77_n, nI_1, clI (by omega)]
      refine ite_n (by simp (disch := omega) only [lit, nI_add, pk_mul, leI, ltI, eqI]; omega) (ex_y (by rw [f1]; exact hS1.undosBefore) (ex_y (by rw [f1]; exact hS1.undos) ⟨by rw [hS1.undos_l, in_iff (by omega)]; omega, by rw [hS1.undosBefore_l, in_iff (by omega)]; omega, nm_e (ih (j + 1) _ (by omega) f1 (fun i h1 => by rw [uI_n _ _ _ _ h1]; exact f2 i h1) (fun i hi => ?_))⟩))
      rw [uI_s, f2 93 (by omega)]
      by_cases e : i = j
      · rw [if_pos e, e]
      · rw [if_neg e]; exact f3 i (by omega)
  exact ⟨929, l1 928 0 S1 (by omega) rfl (fun _ _ => rfl) (fun i hi => absurd hi (by omega))⟩
theorem M_runAll {q : Nat} {Lz : Nat → Cz} {S0 : St} {F : Nat → Int32} (hV : Vld a I un u T 0 m) (q12 : q ≤ 12) (hN : N ≤ 400) (hz : ∀ i, i < q → zOk (Lz i)) (hI : OIr G S0 a L I un u T F m q N c Lz 0 S (a, un, u, 0, 0))
    (yf : ∀ i, runA L Lz q 0 (a, un, u, 0, 0) = .inl i → ∀ S2, Ref G S2 a L I un u T 0 (flN (upF F 2 (nI i)) 3) m → OffC S0 S2 → Q (-3) S2)
    (yg : ∀ s : OSt, runA L Lz q 0 (a, un, u, 0, 0) = .inr s → ∀ S2, Ref G S2 s.1 L I s.2.1 s.2.2.1 T 0 (flA F) m → OffC S0 S2 → Q (nI s.2.2.2.1) S2) : f_X11_orders_140 G 87 (nI un) Q 0 S := by
  have inner : ∀ (k140 : Int32 → St → Prop) (mm i : Nat), i < q → ∀ (d t : Nat) (S3 : St) (s : OSt), d + t = (Lz i).2.1 → OIr G S0 a L I un u T F m q N c Lz (20 * i + t) S3 s → (match runN L (Lz i) d s with | none => .inl i | some s' => runA L Lz mm (i + 1) s') = runA L Lz q 0 (a, un, u, 0, 0) → (∀ S4 s4, OIr G S0 a L I un u T F m q N c Lz (20 * (i + 1)) S4 s4 → runA L Lz mm (i + 1) s4 = runA L Lz q 0 (a, un, u, 0, 0) → k140 (nI (i + 1)) S4) → f_X11_orders_150_n G k140 87 (nI un) (nI i) Q (d + 1) (nI t) S3 := by
    intro k140 mm i hi d
    induction d with
    | zero =>
      intro t S3 s hd hI hr hk
      obtain ⟨g1, g2, g3, g4, g5, g6, g7, g8, g9, g10, g11, g12, g13⟩ := hI
      obtain ⟨r1, r2, r3, r4, _⟩ := g4 i hi
      rw [f_X11_orders_150_n, show 8 * nI i + 7 = nI (8 * i + 7) from by rw [show (8 : Int32) = nI 8 from rfl, show (7 : Int32) = nI 7 from rfl, pk_mul, nI_add], clI (by omega)]
      refine ex_y g1.1.1.nOrder ⟨ino g1.1.1 (by omega), ?_⟩
      rw [r3, nI_1 i]
      exact ite_y (by simp (disch := omega) only [lit, nI_add, pk_mul, leI, ltI, eqI]; omega) (hk S3 s ⟨g1, g2, g3, g4, g5, g6, g7, by omega, g9, g10, g11, g12, g13⟩ hr)
    | succ d ih =>
      intro t S3 s hd hI hr hk
      obtain ⟨g1, g2, g3, g4, g5, g6, g7, g8, g9, g10, g11, g12, g13⟩ := hI
      obtain ⟨r1, r2, r3, r4, _⟩ := g4 i hi
      rw [f_X11_orders_150_n, show 8 * nI i + 7 = nI (8 * i + 7) from by rw [show (8 : Int32) = nI 8 from rfl, show (7 : Int32) = nI 7 from rfl, pk_mul, nI_add], clI (by omega), show 8 * nI i = nI (8 * i) from by rw [show (8 : Int32) = nI 8 from rfl, pk_mul]]
      refine ex_y g1.1.1.nOrder ⟨ino g1.1.1 (by omega), ?_⟩
      rw [r3, nI_1 t]
      refine ite_n (by simp (disch := omega) only [lit, nI_add, pk_mul, leI, ltI, eqI]; omega) (m_run (b := s.1) (un := s.2.1) (u := s.2.2.1) (dn := s.2.2.2.1) (ls := s.2.2.2.2) g1 g2.1 g2.2.2.1 (by omega) (hz i hi) hN g3 (g4 i hi) g6 g7 (by omega) g9 (fun hn S4 hR4 f4 => ite_n (by decide) ?_) (fun b' un' u' dn' ls' hs S4 hR4 f4 h53 h54 => ite_y (by decide) ?_))
      · have hn : run1 L (Lz i) s = none := hn
        have er : runA L Lz q 0 (a, un, u, 0, 0) = .inl i := by
          rw [← hr]
          show (match (match run1 L (Lz i) s with | none => none | some s' => runN L (Lz i) d s') with | none => Sum.inl i | some s' => runA L Lz mm (i + 1) s') = _
          rw [hn]
        have k95 : S4.1 95 = S3.1 95 := f4.2.1 95 (by omega) (by omega) (by omega) (by omega) (by omega) (by omega) (by omega)
        have k96 : S4.1 96 = S3.1 96 := f4.2.1 96 (by omega) (by omega) (by omega) (by omega) (by omega) (by omega) (by omega)
        refine M_giveBack hR4 hV.2.2.1 (g10.ag (fun j _ => f4.2.2.2.1 _ (by omega))) (by unfold UBk; rw [k95, k96]; exact g11) g13 (fun S5 hR5 o5 => nm_e ?_)
        exact M_tell_n (n := 3) (hR5.flag (k := 2) (j := 55) (v := nI i) (by omega)) (by omega) (by omega) (fun S6 hR6 o6 => yf i er S6 hR6 ((((g12.trans f4.offC).trans o5).uI (by omega) (by omega)).trans o6))
      · have hs : run1 L (Lz i) s = some (b', un', u', dn', ls') := hs
        obtain ⟨v1, v2, v3, v4⟩ := run1_ok hs (hz i hi).1 g2
        have k : ∀ j, j = 95 ∨ j = 96 ∨ j = 99 ∨ j = 100 ∨ j = 119 → S4.1 j = S3.1 j := fun j hj => f4.2.1 j (by omega) (by omega) (by omega) (by omega) (by omega) (by omega) (by omega)
        refine ih (t + 1) S4 (b', un', u', dn', ls') (by omega) ⟨hR4, v1, g3.ag (k 99 (by omega)) (k 100 (by omega)), fun j hj => (g4 j hj).ag (k 119 (by omega)), ?_, h53, h54, ?_, v3 g9, g10.ag (fun j _ => f4.2.2.2.1 _ (by omega)), ?_, g12.trans f4.offC, fun j hj => ?_⟩ ?_ hk
        · rw [f4.2.2.1 22 (by omega) (by omega) (by omega) (by omega) (by omega) (by omega)]; exact g5
        · have v2 : dn' ≤ s.2.2.2.1 + 1 := v2
          show dn' ≤ 20 * i + (t + 1)
          omega
        · unfold UBk; rw [k 95 (by omega), k 96 (by omega)]; exact g11
        · rw [v4 j hj]; exact g13 j hj
        · rw [← hr]
          show _ = (match (match run1 L (Lz i) s with | none => none | some s' => runN L (Lz i) d s') with | none => Sum.inl i | some s' => runA L Lz mm (i + 1) s')
          rw [hs]
  have outer : ∀ (mm i : Nat) (S3 : St) (s : OSt), mm + i = q → OIr G S0 a L I un u T F m q N c Lz (20 * i) S3 s → runA L Lz mm i s = runA L Lz q 0 (a, un, u, 0, 0) → f_X11_orders_140_n G 87 (nI un) Q (mm + 1) (nI i) S3 := by
    intro mm
    induction mm with
    | zero =>
      intro i S3 s hi hI hr
      obtain ⟨g1, g2, g3, g4, g5, g6, g7, g8, g9, g10, g11, g12, g13⟩ := hI
      rw [f_X11_orders_140_n, g5, g6]
      exact ite_y (by simp (disch := omega) only [lit, nI_add, pk_mul, leI, ltI, eqI]; omega) (M_tell_y g1 (nn0 (by omega)) (fun S4 hR4 o4 => yg s hr.symm S4 hR4 (g12.trans o4)))
    | succ mm ih =>
      intro i S3 s hi hI hr
      rw [f_X11_orders_140_n, hI.2.2.2.2.1]
      exact ite_n (by simp (disch := omega) only [lit, nI_add, pk_mul, leI, ltI, eqI]; omega) ⟨_, inner _ mm i (by omega) (Lz i).2.1 0 S3 s (by omega) hI hr (fun S4 s4 hI4 hr4 => ih (i + 1) S4 s4 (by omega) hI4 hr4)⟩
  exact ⟨q + 1, outer q 0 S (a, un, u, 0, 0) (by omega) hI rfl⟩
theorem M_orders (h : Ref G S a L I un u T tn fl m) (hV : Vld a I un u T tn m)
    (yb : ∀ x, gText (tkT T tn) (tvT T tn) true 12 0 0 0 L0z = .inl x → ∀ S2, Ref G S2 a L I un u T 0 (flN (upF (upF fl 2 (-1)) 3 (nI (stT T tn x))) 6) m → OffC S S2 → Q (-6) S2)
    (yf : ∀ q Lz i, gText (tkT T tn) (tvT T tn) true 12 0 0 0 L0z = .inr (q, Lz) → runA L Lz q 0 (a, un, u, 0, 0) = .inl i → ∀ S2, Ref G S2 a L I un u T 0 (flN (upF (upF (upF fl 2 (-1)) 3 (-1)) 2 (nI i)) 3) m → OffC S S2 → Q (-3) S2)
    (yg : ∀ q Lz (s : OSt), gText (tkT T tn) (tvT T tn) true 12 0 0 0 L0z = .inr (q, Lz) → runA L Lz q 0 (a, un, u, 0, 0) = .inr s → ∀ S2, Ref G S2 s.1 L I s.2.1 s.2.2.1 T 0 (flA (upF (upF fl 2 (-1)) 3 (-1))) m → OffC S S2 → Q (nI s.2.2.2.1) S2) : f_X11_orders G 87 Q S := by
  have hT : Ref G (uI (uI S 87 0 0) 87 55 (-1)) a L I un u T tn (upF fl 2 (-1)) m := h.th.flag (k := 2) (j := 55) (by omega)
  have o0 : OffC S (uI (uI S 87 0 0) 87 55 (-1)) := ((OffC.refl S).uI (by omega) (by omega)).uI (by omega) (by omega)
  have hA := TkA_T (T := T) hV.2.2.2.2.1 hV.2.2.2.2.2.1
  have t4 := hA.1
  have hV0 := hV.tp0
  refine nm_e (nm_e ?_)
  generalize uI (uI S 87 0 0) 87 55 (-1) = S0 at hT o0 ⊢
  -- the end of it
  have e46 : ∀ S1 x, FrM S0 S1 → S1.1 87 20 = 1 → S1.1 87 19 = nI (stT T tn x) → gText (tkT T tn) (tvT T tn) true 12 0 0 0 L0z = .inl x → f_X11_orders_46 G 87 Q S1 := by
    intro S1 x f1 h20 h19 er
    refine m_endB h19 h20 (fun S2 f2 b14 b21 b19 b20 => ite_n (by rw [b20]; decide) ?_)
    have hr := hT.rd (f1.trans f2) b14 b21 b19
    exact M_tell_n (n := 6) hr (by omega) (by omega) (fun S3 h3 o3 => yb x er S3 h3 ((o0.trans (f1.trans f2).offC).trans o3))
  have g46 : ∀ q k p N c Lz S1, k ≤ tcT T tn → 1 ≤ q → q ≤ 12 → FrM S0 S1 → RTx G T tn true q k p N c S1 → (∀ i, i < q → ORec i (Lz i) S1 c N) → ¬ tkT T tn k = 159 → (tkT T tn k = 51 → gText (tkT T tn) (tvT T tn) true 12 0 0 0 L0z = .inr (q, Lz)) → (¬ tkT T tn k = 51 → gText (tkT T tn) (tvT T tn) true 12 0 0 0 L0z = .inl k) → f_X11_orders_46 G 87 Q S1 := by
    intro q k p N c Lz S1 hk hq1 hq f1 h1 hR h59 y51 n51
    have nK := h1.2.2.2.2.2.2.2.2.2.2.2
    refine m_end h1 (fun h51 S2 f2 b14 b21 b19 b20 b22 b24 bcd b98 b119 => ite_y b20 ?_) (fun h51 S2 f2 b14 b21 b19 b20 => ite_n (by rw [b20]; decide) ?_)
    · have hg := y51 h51
      have hr := hT.rd (f1.trans f2) b14 b21 b19
      have o2 : OffC S S2 := o0.trans (f1.trans f2).offC
      refine M_keep hr hV.2.2.1 (fun S3 hR3 sn3 ub3 g53 g54 g22 g99 g100 g119 o3 => ?_)
      refine M_runAll (S0 := S) (c := c) (N := N) hV0 hq (by omega) (gText_o 12 0 0 0 L0z q Lz hg (fun i hi => absurd hi (by omega))) ⟨hR3, hV0, bcd.ag g99 g100, fun i hi => ((hR i hi).ag b119).ag g119, by rw [g22]; exact b22, g53, g54, by show 0 ≤ _; omega, by show 0 ≤ _; omega, sn3, ub3, o2.trans o3, fun _ _ => rfl⟩ (fun i hi => yf q Lz i hg hi) (fun s hs => yg q Lz s hg hs)
    · have hr := hT.rd (f1.trans f2) b14 b21 b19
      exact M_tell_n (n := 6) hr (by omega) (by omega) (fun S3 h3 o3 => yb k (n51 h51) S3 h3 ((o0.trans (f1.trans f2).offC).trans o3))
  have main : ∀ mm q k p N c Lz S1, q + mm = 12 → 1 ≤ q → FrM S0 S1 → RTx G T tn true q k p N c S1 → (∀ i, i < q → ORec i (Lz i) S1 c N) → k ≤ tcT T tn → p ≤ 50 → gAft (tkT T tn) (tvT T tn) true mm q k p Lz = gText (tkT T tn) (tvT T tn) true 12 0 0 0 L0z → f_X11_orders_19_n G 87 Q (mm + 2) S1 := by
    intro mm
    induction mm with
    | zero =>
      intro q k p N c Lz S1 hq hq1 f1 h1 hR hk hp er
      rw [f_X11_orders_19_n]
      refine ite_y h1.2.2.2.2.2.2.2.1 (h1.sign (t := 59) (by omega) (fun h59 => ite_n (by decide) ?_) (fun h59 => ite_y rfl ?_))
      · have h59 : tkT T tn k = 159 := h59
        have hk2 : k < tcT T tn := tk_lt hA (by omega)
        refine h1.next hk2 (fun S2 f2 h2 => ?_)
        refine m_ordcl h2 (by omega) (by omega) hp (fun hlt => absurd hlt (by omega)) (fun x hx S3 f3 h19 h20 => ?_)
        rw [f_X11_orders_19_n]
        refine ite_n (by rw [h20]; decide) (e46 S3 x (f1.trans (f2.toM.trans f3.toM)) h20 h19 ?_)
        rw [← er]
        unfold gAft
        rcases hx with ⟨_, hx⟩ | ⟨hx, _⟩
        · rw [if_pos h59, if_pos rfl, hx]
        · omega
      · have h59 : ¬ tkT T tn k = 159 := h59
        refine g46 q k p N c Lz S1 hk hq1 (by omega) f1 h1 hR h59 (fun h51 => ?_) (fun h51 => ?_)
        · rw [← er]; unfold gAft; rw [if_neg h59, if_pos h51]
        · rw [← er]; unfold gAft; rw [if_neg h59, if_neg h51]
    | succ mm ih =>
      intro q k p N c Lz S1 hq hq1 f1 h1 hR hk hp er
      have w := fun k2 p2 N2 c2 L2 S2 => ih (q + 1) k2 p2 N2 c2 L2 S2 (by omega) (by omega)
      have wb : ∀ S3 x, FrM S0 S3 → S3.1 87 20 = 1 → S3.1 87 19 = nI (stT T tn x) → gText (tkT T tn) (tvT T tn) true 12 0 0 0 L0z = .inl x → f_X11_orders_19_n G 87 Q (mm + 2) S3 := by
        intro S3 x f3 h20 h19 er3
        rw [f_X11_orders_19_n]
        exact ite_n (by rw [h20]; decide) (e46 S3 x f3 h20 h19 er3)
      rw [f_X11_orders_19_n]
      generalize f_X11_orders_19_n G 87 Q (mm + 2) = W at w wb ⊢
      refine ite_y h1.2.2.2.2.2.2.2.1 (h1.sign (t := 59) (by omega) (fun h59 => ite_n (by decide) ?_) (fun h59 => ite_y rfl ?_))
      · have h59 : tkT T tn k = 159 := h59
        have hk2 : k < tcT T tn := tk_lt hA (by omega)
        have eA : gAft (tkT T tn) (tvT T tn) true (mm + 1) q k p Lz = gText (tkT T tn) (tvT T tn) true (mm + 1) q (k + 1) p Lz := by unfold gAft; rw [if_pos h59, if_neg (by omega)]
        refine h1.next hk2 (fun S2 f2 h2 => ?_)
        refine m_ordcl h2 (by omega) (by omega) hp (fun hlt k' p' z hz S3 N3 c3 f3 h3 hr3 hc3 hN3 => ?_) (fun x hx S3 f3 h19 h20 => ?_)
        · obtain ⟨b1, b2, b3⟩ := (gClause_ok (od := true) (k := k + 1) hA (by omega) hp).2 k' p' z hz
          refine w k' p' N3 c3 (updZ Lz q z) S3 (f1.trans (f2.toM.trans f3.toM)) h3 ?_ b2 b3 ?_
          · intro i hi
            unfold updZ
            by_cases ei : i = q
            · rw [if_pos ei, ei]; exact hr3
            · rw [if_neg ei]; exact (hR i (by omega)).keep (n := q) (f2.trans f3) (by omega) hc3 hN3
          · rw [← er, eA, gText_s, hz]
        · refine wb S3 x (f1.trans (f2.toM.trans f3.toM)) h20 h19 ?_
          rw [← er, eA, gText_s]
          rcases hx with ⟨hx, _⟩ | ⟨_, hx⟩
          · omega
          · rw [hx]
      · have h59 : ¬ tkT T tn k = 159 := h59
        refine g46 q k p N c Lz S1 hk hq1 (by omega) f1 h1 hR h59 (fun h51 => ?_) (fun h51 => ?_)
        · rw [← er]; unfold gAft; rw [if_neg h59, if_pos h51]
        · rw [← er]; unfold gAft; rw [if_neg h59, if_neg h51]
  refine m_beginText (od := true) hT hV rfl (fun S1 f1 h1 => ?_)
  refine m_ordcl h1 (by omega) (by omega) (by omega) (fun _ k' p' z hz S2 N2 c2 f2 h2 hr2 hc2 hN2 => ?_) (fun x hx S2 f2 h19 h20 => ?_)
  · obtain ⟨b1, b2, b3⟩ := (gClause_ok (od := true) (k := 0) hA (by omega) (by omega)).2 k' p' z hz
    refine ⟨13, main 11 1 k' p' N2 c2 (updZ L0z 0 z) S2 rfl (by omega) (f1.trans f2.toM) h2 ?_ b2 b3 ?_⟩
    · intro i hi
      have : i = 0 := by omega
      subst this
      exact hr2
    · rw [gText_s, hz]
  · refine ⟨1, ?_⟩
    rw [f_X11_orders_19_n]
    refine ite_n (by rw [h20]; decide) (e46 S2 x (f1.trans f2.toM) h20 h19 ?_)
    rw [gText_s]
    rcases hx with ⟨hx, _⟩ | ⟨_, hx⟩
    · omega
    · rw [hx]
theorem R_12 {K : Gm → St → Prop} (h : Inv G S) (k : ∀ S', Inv G S' → K G S') : f_X10_orders G 0 (fun r S1 => f_X11_orders G 87 (fun r2 S2 => r = r2 ∧ K G S2) S1) S := by
  obtain ⟨a, L, I, un, u, T, tn, fl, m, hV, hC, hR⟩ := h
  refine C_orders hC hV (fun x hx S1 hC1 o1 => ?_) (fun q Lz i hg hi S1 hC1 o1 => ?_) (fun q Lz s hg hs S1 hC1 hVs o1 => ?_)
  · refine M_orders (hR.offR o1) hV (fun x' hx' S2 h2 o2 => ⟨rfl, k S2 (inv hV.tp0 (hC1.offC o2) ?_)⟩) (fun q Lz i hg => by rw [hx] at hg; cases hg) (fun q Lz s hg => by rw [hx] at hg; cases hg)
    have e : x' = x := by rw [hx] at hx'; cases hx'; rfl
    rw [e] at h2; exact h2
  · refine M_orders (hR.offR o1) hV (fun x' hx' => by rw [hg] at hx'; cases hx') (fun q' Lz' i' hg' hi' S2 h2 o2 => ⟨rfl, k S2 (inv hV.tp0 (hC1.offC o2) ?_)⟩) (fun q' Lz' s' hg' hs' => by rw [hg] at hg'; cases hg'; rw [hi] at hs'; cases hs')
    rw [hg] at hg'
    cases hg'
    rw [hi] at hi'
    cases hi'
    exact h2
  · refine M_orders (hR.offR o1) hV (fun x' hx' => by rw [hg] at hx'; cases hx') (fun q' Lz' i' hg' hi' => by rw [hg] at hg'; cases hg'; rw [hs] at hi'; cases hi') (fun q' Lz' s' hg' hs' S2 h2 o2 => ?_)
    rw [hg] at hg'
    cases hg'
    rw [hs] at hs'
    cases hs'
    exact ⟨rfl, k S2 (inv hVs (hC1.offC o2) h2)⟩
end
