-- needs: 387
/-! orders: the class. -/
def runN (L : Nat → Lw) (z : Cz) : Nat → OSt → Option OSt
  | 0, s => some s
  | n + 1, s => match run1 L z s with
    | none => none
    | some s' => runN L z n s'
def runA (L : Nat → Lw) (Lz : Nat → Cz) : Nat → Nat → OSt → Nat ⊕ OSt
  | 0, _, s => .inr s
  | n + 1, i, s => match runN L (Lz i) (Lz i).2.1 s with
    | none => .inl i
    | some s' => runA L Lz n (i + 1) s'
section
variable {G : Gm} {S S' : St} {a b m : Rw} {L : Nat → Lw} {I : Im} {un tn : Nat} {u : Un} {T : Nat → Nat} {fl : Nat → Int32} {Q : Int32 → St → Prop} {K : St → Prop} {dn ls : Nat}
theorem run1_ok {z : Cz} {s s' : OSt} (h : run1 L z s = some s') (hz : z.1 ≤ 4) (hV : Vld s.1 I s.2.1 s.2.2.1 T tn m) : Vld s'.1 I s'.2.1 s'.2.2.1 T tn m ∧ s'.2.2.2.1 ≤ s.2.2.2.1 + 1 ∧ (s.2.2.2.2 ≤ 1001 → s'.2.2.2.2 ≤ 1001) ∧ (∀ i, i < 4 ∨ (5 ≤ i ∧ i < 8) ∨ 38 ≤ i → s'.1 i = s.1 i) := by
  unfold run1 at h
  split at h
  · split at h
    · cases h
    · split at h
      · cases h
      · unfold act1 at h
        split at h
        · cases h
        · rename_i r b' hb
          cases h
          obtain ⟨_, hr, he⟩ := actA_ok hV.1 hb
          refine ⟨hV.act hz hb, Nat.le_refl _, fun h => ?_, he⟩
          show (if z.1 = 1 then r + 1 else s.2.2.2.2) ≤ 1001
          split <;> omega
  · cases h
    exact ⟨hV, by omega, fun h => h, fun _ _ => rfl⟩
theorem c_trlCopy {t r : Nat} (rt : S.2.2 t 0 = some (t + 1)) (lt : G.2.1 (t + 1) = 512) (rr : S.2.2 r 0 = some (r + 1)) (lr : G.2.1 (r + 1) = 512) (hne : t + 1 < r ∨ r + 1 < t) (hT : TrlC S r un u) (z : ∀ S', Fr (fun i => i = t ∨ i = t + 1) S S' → TrlC S' t un u → K S') : f_X9_copyFrom G t r K S := by
  obtain ⟨h2, nx, h16, h1, hk⟩ := hT
  refine ex_y rr (ex_y rt ⟨by rw [lr, lt]; exact cp_ok (n := 512) (by omega) (by omega) (by omega), nm_e (nm_e (nm_e ?_))⟩)
  have c1 : (cpI S (r + 1) 0 (t + 1) 0 512).1 r = S.1 r := cpI_n (by omega)
  have c2 : ∀ k, k < 512 → (cpI S (r + 1) 0 (t + 1) 0 512).1 (t + 1) k = S.1 (r + 1) k := fun k hk => by
    have := cpI_s (S := S) (a := r + 1) (d := t + 1) (k := k) (n := 512) (by omega)
    rw [if_pos hk] at this; exact this
  have c3 : ∀ i, i ≠ t + 1 → (cpI S (r + 1) 0 (t + 1) 0 512).1 i = S.1 i := fun i hi => cpI_n hi
  have c4 : (cpI S (r + 1) 0 (t + 1) 0 512).2 = S.2 := rfl
  generalize cpI S (r + 1) 0 (t + 1) 0 512 = S1 at c1 c2 c3 c4 ⊢
  have d1 : (uI S1 t 1 (S1.1 r 1)).1 r 2 = nI un := by rw [uI_n _ _ _ _ (by omega), c1]; exact h2
  have d0 : S1.1 r 1 = nI nx := by rw [c1]; exact h1
  rw [d1, d0]
  have f0 : Fr (fun i => i = t ∨ i = t + 1) S S1 := ⟨by rw [c4], fun i hi => ⟨c3 i (by omega), by rw [c4]⟩⟩
  refine z _ ((f0.uI (.inl rfl)).uI (.inl rfl)) ⟨by rw [uI_s, if_pos rfl], nx, h16, by rw [uI_s, if_neg (by omega), uI_s, if_pos rfl], fun k hk' => ?_⟩
  rw [uI_n _ _ _ _ (by omega), uI_n _ _ _ _ (by omega)]
  obtain ⟨t1, t2, t3, t4⟩ := hk k hk'
  have rl : (nx + 15 - k) % 16 < 16 := Nat.mod_lt _ (by omega)
  exact ⟨fun i hi => by rw [c2 _ (by omega)]; exact t1 i hi, fun i hi => by rw [c2 _ (by omega)]; exact t2 i hi, by rw [c2 _ (by omega)]; exact t3, by rw [c2 _ (by omega)]; exact t4⟩
theorem Cls.actO {un' : Nat} {u' : Un} (h : Cls G S a L I un u T tn fl m) (hM : ∀ i, rlC i → i ≠ 2 → i ≠ 3 → i ≠ 5 → i ≠ 18 → i ≠ 19 → S'.1 i = S.1 i) (hR : S'.2.2 = S.2.2) (hP : ParC S' 1 b) (hT : TrlC S' 18 un' u') (h2 : b 2 = a 2) : Cls G S' b L I un' u' T tn fl m := by
  obtain ⟨h1, h2', h3, h4, h5, h6, h7, h8, h9⟩ := h
  unfold rlC at hM
  have e : ∀ i, (i ≤ 7 ∨ i = 9 ∨ i = 10 ∨ i = 11 ∨ i = 18 ∨ i = 19 ∨ i = 75 ∨ i = 76 ∨ i = 86 ∨ (68 ≤ i ∧ i ≤ 73) ∨ 121 ≤ i) → (i ≠ 2 ∧ i ≠ 3 ∧ i ≠ 5 ∧ i ≠ 18 ∧ i ≠ 19) → S'.1 i = S.1 i := fun i hi hn => hM i hi hn.1 hn.2.1 hn.2.2.1 hn.2.2.2.1 hn.2.2.2.2
  exact ⟨by rw [hR]; exact h1, hP, (h3.ag (fun i _ => e i (by omega) (by omega)) hR).eqa h2, h4.ag (e _ (by omega) (by omega)) (e _ (by omega) (by omega)) (e _ (by omega) (by omega)), h5.ag (fun i _ => e i (by omega) (by omega)) hR, hT, h7.ag (by rw [e 75 (by omega) (by omega)]) (e _ (by omega) (by omega)), h8.ag (e _ (by omega) (by omega)) (by rw [e 75 (by omega) (by omega)]) (e _ (by omega) (by omega)), h9.ag (fun i _ _ => e i (by omega) (by omega))⟩
theorem TxtOK.ag {od : Bool} {q N : Nat} {c : Cd} {Lz : Nat → Cz} (h : TxtOK od S q N c Lz) (e : ∀ i, 80 ≤ i → i ≤ 85 → S'.1 i = S.1 i) : TxtOK od S' q N c Lz := by
  obtain ⟨h1, h2, h3, h4, h5⟩ := h
  exact ⟨by rw [e 80 (by omega) (by omega)]; exact h1, by rw [e 80 (by omega) (by omega)]; exact h2, by rw [e 85 (by omega) (by omega)]; exact h3, fun i hi => (h4 i hi).ag (by rw [e 81 (by omega) (by omega)]) (by rw [e 82 (by omega) (by omega)]) (by rw [e 83 (by omega) (by omega)]) (e 84 (by omega) (by omega)), h5⟩
/-- the class between orders -/
def OIc (G : Gm) (S0 : St) (a : Rw) (L : Nat → Lw) (I : Im) (un : Nat) (u : Un) (T : Nat → Nat) (F : Nat → Int32) (m : Rw) (q N : Nat) (c : Cd) (Lz : Nat → Cz) (B : Nat) (S : St) (s : OSt) : Prop :=
  Cls G S s.1 L I s.2.1 s.2.2.1 T 0 F m ∧ Vld s.1 I s.2.1 s.2.2.1 T 0 m ∧ TxtOK true S q N c Lz ∧ S.1 30 6 = nI s.2.2.2.1 ∧ S.1 30 7 = nI s.2.2.2.2 - 1 ∧ s.2.2.2.1 ≤ B ∧ s.2.2.2.2 ≤ 1001 ∧ ParC S 31 a ∧ TrlC S 39 un u ∧ (∀ k, k < 6 → S.2.2 38 k = S.2.2 8 k) ∧ OffR S0 S ∧ s.1 2 = a 2
theorem C_begin (hV : Vld a I un u T 0 m) (h : Cls G S a L I un u T 0 fl m) (z : ∀ S', Cls G S' a L I un u T 0 fl m → (∀ i, 75 ≤ i → i ≤ 85 → S'.1 i = S.1 i) → S'.1 30 6 = nI 0 → S'.1 30 7 = nI 0 - 1 → ParC S' 31 a → TrlC S' 39 un u → (∀ k, k < 6 → S'.2.2 38 k = S'.2.2 8 k) → OffR S S' → K S') : f_X0_begin G 30 1 18 K S := by
  have hS := h.1
  have ha6 := hV.1.2.2.1
  refine ex_y hS.r30_0 (c_copyFrom hS.p31 hS.p1 h.2.1 (by omega) (fun S1 ⟨s1, s2, s3, s4, s5⟩ hP1 => ?_))
  have hL1 : LwD G S1 1 a L := h.2.2.1.cp ha6 (fun i h1 _ => s2 i (by omega)) (fun i h1 _ => s3 i (by omega)) (s3 17 (by omega)) (fun j _ => by rw [s3 _ (by omega)]) (fun j hj t ht => by
    obtain ⟨t', w1, w2, _⟩ := h.2.2.1.1 j hj
    rw [ht] at w1; cases w1; omega)
  have hP : ParC S1 1 a := h.2.1.ag (fun i _ _ => s2 i (by omega))
  have hC1 : Cls G S1 a L I un u T 0 fl m := h.put hV.2.1 (fun i hi _ => s2 i (by unfold rlC at hi; omega)) (fun i _ _ h3 => s3 i (by omega)) hP hL1
  have o1 : OffR S S1 := fun i h1 h2 => ⟨s2 i (by omega), by rw [s1], s3 i (by omega)⟩
  refine ex_y hC1.1.r30_1 (c_trlCopy hC1.1.r39_0 hC1.1.l40 hC1.1.r18_0 hC1.1.l19 (by omega) hC1.2.2.2.2.2.1 (fun S2 f2 hT2 => nm_e (nm_e ?_)))
  have f3 : Fr (fun i => i = 30 ∨ i = 39 ∨ i = 40) S1 (uI (uI S2 30 6 0) 30 7 (-1)) := ((f2.mono (fun i hi => by omega)).uI (.inl rfl)).uI (.inl rfl)
  refine z _ (hC1.fr f3 (by intro i hi; unfold rlC; omega)) (fun i h1 h2 => by rw [(f3.2 i (by omega)).1]; exact s2 i (by omega)) ?_ ?_ (hP1.fr f3 (by intro i h1 h2; omega)) (hT2.ag ?_ ?_) (fun k hk => ?_) (o1.trans (Fr.offR f3 (by intro i hi; omega)))
  · rw [uI_s, if_neg (by omega), uI_s, if_pos rfl]; rfl
  · rw [uI_s, if_pos rfl]; rfl
  · rw [uI_n _ _ _ _ (by omega), uI_n _ _ _ _ (by omega)]
  · rw [uI_n _ _ _ _ (by omega), uI_n _ _ _ _ (by omega)]
  · rw [f3.1, show S1.2.2 38 k = S.2.2 (1 + 7) k from s4 k hk, s3 8 (by omega)]
theorem C_orders (h : Cls G S a L I un u T tn fl m) (hV : Vld a I un u T tn m)
    (yb : ∀ x, gText (tkT T tn) (tvT T tn) true 12 0 0 0 L0z = .inl x → ∀ S2, Cls G S2 a L I un u T 0 (flN (upF (upF fl 2 (-1)) 3 (nI (stT T tn x))) 6) m → OffR S S2 → Q (-6) S2)
    (yf : ∀ q Lz i, gText (tkT T tn) (tvT T tn) true 12 0 0 0 L0z = .inr (q, Lz) → runA L Lz q 0 (a, un, u, 0, 0) = .inl i → ∀ S2, Cls G S2 a L I un u T 0 (flN (upF (upF (upF fl 2 (-1)) 3 (-1)) 2 (nI i)) 3) m → OffR S S2 → Q (-3) S2)
    (yg : ∀ q Lz (s : OSt), gText (tkT T tn) (tvT T tn) true 12 0 0 0 L0z = .inr (q, Lz) → runA L Lz q 0 (a, un, u, 0, 0) = .inr s → ∀ S2, Cls G S2 s.1 L I s.2.1 s.2.2.1 T 0 (flA (upF (upF fl 2 (-1)) 3 (-1))) m → Vld s.1 I s.2.1 s.2.2.1 T 0 m → OffR S S2 → Q (nI s.2.2.2.1) S2) : f_X10_orders G 0 Q S := by
  have h0 : Cls G (uI S 0 12 (-1)) a L I un u T tn (upF fl 2 (-1)) m := h.flag (k := 2) (by omega)
  have o0 : OffR S (uI S 0 12 (-1)) := (OffR.refl S).uI (by omega)
  have offD : ∀ {S1 S2 : St}, FrD S1 S2 → OffR S1 S2 := fun f i h1 h2 => ⟨f.2 i (by omega), by rw [f.1], by rw [f.1]⟩
  have hV0 := hV.tp0
  refine nm_e (ex_y h0.1.r0_8 (c_reads (od := true) (L0 := L0z) (h0.tp hV) rfl (fun q Lz hg S1 N c f1 b1 b9 ht => ite_n (by decide) ?_) (fun x hx S1 f1 b1 b9 => ite_y rfl ?_)))
  · have hC1 := h0.rd f1.1 f1.2 b1 b9
    have o1 : OffR S S1 := o0.trans (offD f1)
    generalize hF : upF (upF fl 2 (-1)) 3 (-1) = F at hC1 yf yg
    refine ex_y hC1.1.r0_6 (ex_y hC1.1.r0_0 (ex_y hC1.1.r0_3 (C_begin hV0 hC1 (fun S2 hC2 k2 e6 e7 p31 t39 r38 o2 => ex_y hC2.1.r0_8 (ex_y hC2.1.r75_10 ?_)))))
    have ht2 : TxtOK true S2 q N c Lz := ht.ag (fun i h1 h2 => k2 i (by omega) h2)
    have q12 : q ≤ 12 := ht.2.2.2.2.2.1
    have inner : ∀ (k48 : Int32 → St → Prop) (mm i : Nat), i < q → ∀ (d t : Nat) (S3 : St) (s : OSt), d + t = (Lz i).2.1 → OIc G S a L I un u T F m q N c Lz (20 * i + t) S3 s → (match runN L (Lz i) d s with | none => .inl i | some s' => runA L Lz mm (i + 1) s') = runA L Lz q 0 (a, un, u, 0, 0) → (∀ S4 s4, OIc G S a L I un u T F m q N c Lz (20 * (i + 1)) S4 s4 → runA L Lz mm (i + 1) s4 = runA L Lz q 0 (a, un, u, 0, 0) → k48 (nI (i + 1)) S4) → f_X10_orders_58_n G k48 0 80 (nI i) Q (d + 1) (nI t) S3 := by
      intro k48 mm i hi d
      induction d with
      | zero =>
        intro t S3 s hd hI hr hk
        obtain ⟨g1, g2, g3, g4, g5, g6, g7, g8, g9, g10, g11, g12⟩ := hI
        obtain ⟨r1, r2, r3, r4, r5, _⟩ := g3.2.2.2.1 i hi
        rw [f_X10_orders_58_n]
        refine c_repO g1.1 (by omega) ?_
        rw [r2, nI_1]
        exact ite_y (by simp (disch := omega) only [lit, nI_add, pk_mul, leI, ltI, eqI]; omega) (hk S3 s ⟨g1, g2, g3, g4, g5, by omega, g7, g8, g9, g10, g11, g12⟩ hr)
      | succ d ih =>
        intro t S3 s hd hI hr hk
        obtain ⟨g1, g2, g3, g4, g5, g6, g7, g8, g9, g10, g11, g12⟩ := hI
        obtain ⟨r1, r2, r3, r4, r5, _⟩ := g3.2.2.2.1 i hi
        have r3 : (Lz i).1 ≤ 4 := r3
        rw [f_X10_orders_58_n]
        refine c_repO g1.1 (by omega) ?_
        rw [r2, nI_1, nI_1]
        refine ite_n (by simp (disch := omega) only [lit, nI_add, pk_mul, leI, ltI, eqI]; omega) (ex_y g1.1.r0_6 (ex_y g1.1.r0_0 (ex_y g1.1.r0_3 (c_runOnce (b := s.1) (un := s.2.1) (u := s.2.2.1) (dn := s.2.2.2.1) (ls := s.2.2.2.2) g1 g2.1 g2.2.2.1 g3 hi g4 g5 (by omega) g7 (fun hn S4 f4 => ite_y rfl ?_) (fun b' un' u' dn' ls' hs S4 f4 hP hT h6 h7 => ite_n (by decide) ?_)))))
        · have hn : run1 L (Lz i) s = none := hn
          have er : runA L Lz q 0 (a, un, u, 0, 0) = .inl i := by
            rw [← hr]
            show (match (match run1 L (Lz i) s with | none => none | some s' => runN L (Lz i) d s') with | none => Sum.inl i | some s' => runA L Lz mm (i + 1) s') = _
            rw [hn]
          have e4 : ∀ i, ¬ XO i → S4.1 i = S3.1 i := fun i hi => (f4.2 i hi).1
          refine ex_y (by rw [f4.1]; exact g1.1.r0_6) (ex_y (by rw [f4.1]; exact g1.1.r0_0) (ex_y (by rw [f4.1]; exact g1.1.r0_3) ?_))
          -- it is all taken back
          have hS4 : ShC G S4.2.2 := by rw [f4.1]; exact g1.1
          have p31' : ParC S4 31 a := g8.fr f4 (by intro i h1 h2; unfold XO; omega)
          have t39' : TrlC S4 39 un u := g9.ag (e4 39 (by unfold XO; omega)) (e4 40 (by unfold XO; omega))
          refine ex_y hS4.r30_0 (c_copyFrom hS4.p1 hS4.p31 p31' (by omega) (fun S5 ⟨s1, s2, s3, s4, s5⟩ hP5 => ?_))
          have e8 : ∀ k, S5.2.2 8 k = S4.2.2 8 k := by
            intro k
            by_cases hk : k < 6
            · rw [show S5.2.2 8 k = S4.2.2 (31 + 7) k from s4 k hk, f4.1]; exact g10 k hk
            · exact s5 k (by omega)
          have ha6 := hV.1.2.2.1
          have hLb : LwD G S4 1 a L := (g1.2.2.1.ag (fun i hi => e4 i (by unfold XO; omega)) f4.1).eqa g12.symm
          have hL5 : LwD G S5 1 a L := hLb.cp ha6 (fun i h1 _ => s2 i (by omega)) (fun i h1 _ => s3 i (by omega)) (s3 17 (by omega)) (fun j _ => e8 j) (fun j hj t ht => by
            obtain ⟨t', w1, w2, _⟩ := hLb.1 j hj
            rw [ht] at w1; cases w1; omega)
          have t39'' : TrlC S5 39 un u := t39'.ag (s2 39 (by omega)) (s2 40 (by omega))
          have hS5 : ShC G S5.2.2 := hS4.fr (fun i j _ h1 _ _ _ => by rw [s3 i (by omega)]) (fun _ _ => rfl) (Nat.le_refl _)
          refine ex_y hS5.r30_1 (c_trlCopy hS5.r18_0 hS5.l19 hS5.r39_0 hS5.l40 (by omega) t39'' (fun S6 f6 hT6 => nm_e ?_))
          have hC6 : Cls G S6 a L I un u T 0 F m := by
            have c3 : Cls G S3 s.1 L I s.2.1 s.2.2.1 T 0 F m := g1
            obtain ⟨j1, j2, j3, j4, j5, j6, j7, j8, j9⟩ := c3
            have e : ∀ i, rlC i → ¬ (i ≤ 7 ∧ 1 ≤ i) → i ≠ 18 → i ≠ 19 → S6.1 i = S3.1 i := by
              intro i hi h17 h18 h19
              unfold rlC at hi
              rw [(f6.2 i (by omega)).1, s2 i (by omega)]
              exact e4 i (by unfold XO; omega)
            unfold rlC at e
            have R6 : S6.2.2 = S5.2.2 := f6.1
            have RR : ∀ i, i ≠ 8 → S6.2.2 i = S3.2.2 i := fun i hi => by rw [R6, s3 i (by omega), f4.1]
            refine ⟨by rw [R6]; exact hS5, hP5.ag (fun i _ _ => (f6.2 i (by omega)).1), hL5.ag (fun i hi => (f6.2 i (by omega)).1) R6, j4.ag (e _ (by omega) (by omega) (by omega) (by omega)) (e _ (by omega) (by omega) (by omega) (by omega)) (e _ (by omega) (by omega) (by omega) (by omega)), j5.agR (fun i hi => e i (by omega) (by omega) (by omega) (by omega)) (fun i hi => RR i (by omega)) (RR 17 (by omega)) hV.2.1, hT6, j7.ag (by rw [e 75 (by omega) (by omega) (by omega) (by omega)]) (e _ (by omega) (by omega) (by omega) (by omega)), j8.ag (e _ (by omega) (by omega) (by omega) (by omega)) (by rw [e 75 (by omega) (by omega) (by omega) (by omega)]) (e _ (by omega) (by omega) (by omega) (by omega)), j9.ag (fun i _ _ => e i (by omega) (by omega) (by omega) (by omega))⟩
          have o6 : OffR S S6 := ((g11.trans (Fr.offR f4 (by intro i hi; unfold XO at hi; omega))).trans (fun i h1 h2 => ⟨s2 i (by omega), by rw [s1], s3 i (by omega)⟩)).trans (Fr.offR f6 (by intro i hi; omega))
          refine C_refuse (n := 3) (hC6.flag (k := 2) (v := nI i) (by omega)) (by omega) (by omega) (fun S7 hC7 o7 => ?_)
          exact yf q Lz i hg er S7 hC7 ((o6.uI (by omega)).trans o7)
        · have hs : run1 L (Lz i) s = some (b', un', u', dn', ls') := hs
          obtain ⟨v1, v2, v3, v4⟩ := run1_ok hs r3 g2
          have e4 : ∀ i, ¬ XO i → S4.1 i = S3.1 i := fun i hi => (f4.2 i hi).1
          refine ih (t + 1) S4 (b', un', u', dn', ls') (by omega) ⟨?_, v1, g3.ag (fun i h1 h2 => e4 i (by unfold XO; omega)), h6, h7, ?_, v3 g7, g8.fr f4 (by intro i h1 h2; unfold XO; omega), g9.ag (e4 39 (by unfold XO; omega)) (e4 40 (by unfold XO; omega)), by rw [f4.1]; exact g10, g11.trans (Fr.offR f4 (by intro i hi; unfold XO at hi; omega)), ?_⟩ ?_ hk
          · exact g1.actO (fun i hi _ _ _ _ _ => e4 i (by unfold rlC at hi; unfold XO; omega)) f4.1 hP hT (v4 2 (by omega))
          · have v2 : dn' ≤ s.2.2.2.1 + 1 := v2
            show dn' ≤ 20 * i + (t + 1)
            omega
          · rw [v4 2 (by omega)]; exact g12
          · rw [← hr]
            show _ = (match (match run1 L (Lz i) s with | none => none | some s' => runN L (Lz i) d s') with | none => Sum.inl i | some s' => runA L Lz mm (i + 1) s')
            rw [hs]
    have outer : ∀ (mm i : Nat) (S3 : St) (s : OSt), mm + i = q → OIc G S a L I un u T F m q N c Lz (20 * i) S3 s → runA L Lz mm i s = runA L Lz q 0 (a, un, u, 0, 0) → f_X10_orders_48_n G 0 80 Q (mm + 1) (nI i) S3 := by
      intro mm
      induction mm with
      | zero =>
        intro i S3 s hi hI hr
        obtain ⟨g1, g2, g3, g4, g5, g6, g7, g8, g9, g10, g11, g12⟩ := hI
        have e80 : S3.1 80 5 = nI q := g3.1
        rw [f_X10_orders_48_n, e80]
        refine ite_y (by simp (disch := omega) only [lit, nI_add, pk_mul, leI, ltI, eqI]; omega) (ex_y g1.1.r0_6 ?_)
        rw [g4]
        exact C_accept g1 (fun S4 hC4 o4 => yg q Lz s hg hr.symm S4 hC4 g2 (g11.trans o4))
      | succ mm ih =>
        intro i S3 s hi hI hr
        have e80 : S3.1 80 5 = nI q := hI.2.2.1.1
        rw [f_X10_orders_48_n, e80]
        exact ite_n (by simp (disch := omega) only [lit, nI_add, pk_mul, leI, ltI, eqI]; omega) ⟨_, inner _ mm i (by omega) (Lz i).2.1 0 S3 s (by omega) hI hr (fun S4 s4 hI4 hr4 => ih (i + 1) S4 s4 (by omega) hI4 hr4)⟩
    exact ⟨q + 1, outer q 0 S2 (a, un, u, 0, 0) (by omega) ⟨hC2, hV0, ht2, e6, e7, by show 0 ≤ _; omega, by show 0 ≤ _; omega, p31, t39, r38, o1.trans o2, rfl⟩ rfl⟩
  · have hC1 := h0.rd f1.1 f1.2 b1 b9
    exact C_refuse (n := 6) hC1 (by omega) (by omega) (fun S2 hC2 o2 => yb x hx S2 hC2 ((o0.trans (offD f1)).trans o2))
end
