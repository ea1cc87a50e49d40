/-! law: the class; both. -/
section
variable {G G' : Gm} {S S' : St} {a m : Rw} {L : Nat → Lw} {I : Im} {un tn : Nat} {u : Un} {T : Nat → Nat} {fl : Nat → Int32} {Q : Int32 → Gm → St → Prop} {K : Gm → St → Prop} {n k p N q : Nat} {c : Cd} {Lz : Nat → Cz}
theorem Cls.tp (h : Cls G S a L I un u T tn fl m) (hV : Vld a I un u T tn m) : TpC G S T tn := ⟨h.1, h.2.2.2.2.2.2.1.1, h.2.2.2.2.2.2.1.2, hV.2.2.2.2.1, hV.2.2.2.2.2.1⟩
theorem Cls.rd {v : Int32} (h : Cls G S a L I un u T tn fl m) (hR : S'.2 = S.2) (f : ∀ i, (i < 75 ∨ 85 < i ∨ i = 76) → S'.1 i = S.1 i) (h1 : S'.1 75 1 = 0) (h9 : S'.1 75 9 = v) : Cls G S' a L I un u T 0 (upF fl 3 v) m := by
  obtain ⟨g1, g2, g3, g4, g5, g6, g7, g8, g9⟩ := h
  have R : S'.2.2 = S.2.2 := by rw [hR]
  refine ⟨by rw [R]; exact g1, g2.ag (fun i _ _ => f i (by omega)), g3.ag (fun i _ => f i (by omega)) R, g4.ag (f _ (by omega)) (f _ (by omega)) (f _ (by omega)), g5.ag (fun i _ => f i (by omega)) R, g6.ag (f _ (by omega)) (f _ (by omega)), ⟨h1, fun i hi => absurd hi (by omega)⟩, ?_, g9.ag (fun i _ _ => f i (by omega))⟩
  obtain ⟨x0, x1, x2, x3, x4⟩ := g8
  refine ⟨?_, ?_, ?_, ?_, fun k hk => ?_⟩
  · rw [f 0 (by omega)]; unfold upF; rw [if_neg (by omega)]; exact x0
  · rw [f 0 (by omega)]; unfold upF; rw [if_neg (by omega)]; exact x1
  · rw [f 0 (by omega)]; unfold upF; rw [if_neg (by omega)]; exact x2
  · unfold upF; rw [if_pos rfl]; exact h9
  · rw [f 86 (by omega)]; unfold upF; rw [if_neg (by omega)]; exact x4 k hk
theorem Cls.tape0 (h : Cls G S a L I un u T tn fl m) : Cls G (uI S 75 1 0) a L I un u T 0 fl m := by
  obtain ⟨g1, g2, g3, g4, g5, g6, g7, g8, g9⟩ := h
  have e : ∀ i, i ≠ 75 → (uI S 75 1 0).1 i = S.1 i := fun i hi => uI_n _ _ _ _ hi
  exact ⟨g1, g2.ag (fun i _ _ => e i (by omega)), g3.ag (fun i _ => e i (by omega)) rfl, g4.ag (e _ (by omega)) (e _ (by omega)) (e _ (by omega)), g5.ag (fun i _ => e i (by omega)) rfl, g6.ag (e _ (by omega)) (e _ (by omega)), ⟨by rw [uI_s, if_pos rfl]; rfl, fun i hi => absurd hi (by omega)⟩, g8.ag (e _ (by omega)) (by rw [uI_s, if_neg (by omega)]) (e _ (by omega)), g9.ag (fun i _ _ => e i (by omega))⟩
/-- memory grows -/
def Grw (G G' : Gm) : Prop := G.2.2 ≤ G'.2.2 ∧ ∀ i, i < G.2.2 → G'.1 i = G.1 i ∧ G'.2.1 i = G.2.1 i
theorem TextC.gr {t : Nat} {lw : Lw} (h : TextC G S.1 S.2.2 t lw) (g : Grw G G') (hM : ∀ i, i < G.2.2 → S'.1 i = S.1 i) (hR : S'.2.2 t = S.2.2 t) : TextC G' S'.1 S'.2.2 t lw := by
  obtain ⟨r0, r3, r4, n12, m5, l1, l4, l5, k7, tb, c, hc, hq⟩ := h
  refine ⟨by rw [hR]; exact r0, by rw [hR]; exact r3, by rw [hR]; exact r4, n12, by rw [hM t (by omega)]; exact m5, by rw [(g.2 _ (by omega)).2]; exact l1, by rw [(g.2 _ (by omega)).2]; exact l4, by rw [(g.2 _ (by omega)).2]; exact l5, by rw [(g.2 _ (by omega)).1]; exact k7, by have := g.1; omega, c, ?_, ?_⟩
  · rw [hM (t + 5) (by omega), (g.2 _ (by omega)).2]; exact hc
  · rw [hM (t + 1) (by omega), hM (t + 4) (by omega), (g.2 _ (by omega)).2]; exact hq
theorem PSh.gr {q : Nat} (h : PSh G S.2.2 q) (g : Grw G G') (hq : q + 7 < G.2.2) (hR : S'.2.2 q = S.2.2 q) : PSh G' S'.2.2 q := by
  unfold PSh at h ⊢
  rw [hR, (g.2 (q + 1) (by omega)).2, (g.2 (q + 2) (by omega)).2, (g.2 (q + 3) (by omega)).2, (g.2 (q + 4) (by omega)).2, (g.2 (q + 5) (by omega)).2, (g.2 (q + 6) (by omega)).2, (g.2 (q + 7) (by omega)).2]
  exact h
theorem LwD.gr {p : Nat} (h : LwD G S p a L) (g : Grw G G') (hp : p + 7 < G.2.2) (hM : ∀ i, i < G.2.2 → S'.1 i = S.1 i) (hR : ∀ i, i < G.2.2 → S'.2.2 i = S.2.2 i) (h17 : 17 < G.2.2) : LwD G' S' p a L := by
  refine ⟨fun k hk => ?_, fun k hk t ht => ?_⟩
  · obtain ⟨t, t1, t2, t3⟩ := h.1 k hk
    have tb := t3.2.2.2.2.2.2.2.2.2.1
    exact ⟨t, by rw [hR _ hp]; exact t1, t2, t3.gr g hM (hR t (by omega))⟩
  · rw [hR _ hp] at ht
    have := h.2 k hk t ht
    unfold Dj at this ⊢
    rw [hR 17 h17]; exact this
theorem Cls.gr (h : Cls G S a L I un u T tn fl m) (g : Grw G G') (hM : ∀ i, i < G.2.2 → S'.1 i = S.1 i) (hR : ∀ i, i < G.2.2 → S'.2.2 i = S.2.2 i) : Cls G' S' a L I un u T tn fl m := by
  obtain ⟨g1, g2, g3, g4, g5, g6, g7, g8, g9⟩ := h
  have b := g1.2.2
  refine ⟨g1.fr (fun i j hi _ _ _ _ => by rw [hR i (by omega)]) (fun i hi => (g.2 i (by omega)).2) g.1, g2.ag (fun i _ _ => hM i (by omega)), g3.gr g (by omega) hM hR (by omega), g4.ag (hM _ (by omega)) (hM _ (by omega)) (hM _ (by omega)), ?_, g6.ag (hM _ (by omega)) (hM _ (by omega)), g7.ag (by rw [hM 75 (by omega)]) (hM _ (by omega)), g8.ag (hM _ (by omega)) (by rw [hM 75 (by omega)]) (hM _ (by omega)), g9.ag (fun i _ _ => hM i (by omega))⟩
  obtain ⟨i1, i2, i3⟩ := g5
  have h17 := hR 17 (by omega)
  refine ⟨fun k hk => ?_, by rw [h17]; exact i2, by rw [h17]; exact i3⟩
  rcases i1 k hk with ⟨e1, e2⟩ | ⟨q, b, M, e1, e2, e3, e4, e5, e6, e7, e8⟩
  · exact .inl ⟨e1, by rw [h17]; exact e2⟩
  · exact .inr ⟨q, b, M, e1, by rw [h17]; exact e2, e3, by have := g.1; omega, by rw [(g.2 q (by omega)).1]; exact e5, e6.gr g e4 (hR q (by omega)), e7.ag (fun i _ _ => hM i (by omega)), e8.gr g e4 hM hR (by omega)⟩
theorem Ref.gm (h : Ref G S a L I un u T tn fl m) (hg : ∀ i, 87 ≤ i → i ≤ 120 → G'.2.1 i = G.2.1 i) : Ref G' S a L I un u T tn fl m :=
  ⟨⟨⟨h.1.1.1, fun i hi => by rw [hg (88 + i) (by omega) (by omega)]; exact h.1.1.2 i hi⟩, h.1.2⟩, h.2⟩
/-- a text read to a text kept -/
theorem text_of {t : Nat} (hT : TxtOK false S q N c Lz) (hC : Copied G S q (2 * N) G' S') (hn : ∀ i, i < q → ((Lz i).1 = 3 ↔ (Lz i).2.2.1 = none) ∧ (Lz i).2.2.2.1 = none) : TextC G' S'.1 S'.2.2 G.2.2 (toLw q Lz) := by
  obtain ⟨h5, h6, hcd, hR, hq1, hq, hN⟩ := hT
  obtain ⟨a1, a2, a3, a4, a5, a6, a7, a8, a9, a10, a11, a12, a13, a14⟩ := hC
  refine ⟨a8, a9, a10, hq, a11, a4, a5, by rw [a6]; omega, a3, by rw [a1]; omega, c, fun k hk => ?_, fun i hi => ?_⟩
  · rw [a6] at hk
    rw [a14 _ (by omega), a14 _ (by omega)]
    exact hcd k (by omega)
  · have hi : i < q := hi
    obtain ⟨r1, r2, r3, r4, r5, m0, m1, m2, m3, g0, g1, g2, g3, gN, s0, s1, s2⟩ := hR i hi
    obtain ⟨n1, n2⟩ := hn i hi
    rw [n2] at s1
    have s1 : m1 = m2 := s1
    subst s1
    have u9 : ∀ w, usC false (S.1 83 i) w → U9 w := fun w hw => hw.2.1 rfl
    refine ⟨by rw [a12 i hi]; exact r1, m0, m1, m3, ?_, ?_, ?_, ?_, cls_of (i := i) r3 n1 (s0.keep (fun _ _ _ => rfl) u9) (s2.keep (fun _ _ _ => rfl) u9)⟩
    · rw [a13 _ (by omega)]; exact g0
    · rw [a13 _ (by omega)]; exact g2
    · rw [a13 _ (by omega)]; exact g3
    · rw [a6]; omega
theorem Va.addl (hV : Va a) (h : a 2 < 6) : Va (up a 2 (a 2 + 1)) := by
  have z : ∀ i, i ≠ 2 → up a 2 (a 2 + 1) i = a i := fun i hi => up_n a hi
  obtain ⟨h0, h1, h2, h3, h4, h5, h6, h7, h8, h9, h10, h11, h12, h13⟩ := hV
  refine ⟨?_, ?_, ?_, ?_, ?_, ?_, ?_, ?_, fun k hk => ?_, fun k hk => ?_, fun k hk => ?_, fun k hk => ?_, fun k hk => ?_, fun k hk => ?_⟩
  · rw [z _ (by omega)]; exact h0
  · rw [z _ (by omega)]; exact h1
  · rw [up_s]; omega
  · rw [up_s, z _ (by omega)]; omega
  · rw [z _ (by omega)]; exact h4
  · rw [z _ (by omega)]; exact h5
  · rw [z _ (by omega)]; exact h6
  · rw [z _ (by omega)]; exact h7
  · rw [z _ (by omega)]; exact h8 k hk
  · rw [z _ (by omega)]; exact h9 k hk
  · rw [z _ (by omega)]; exact h10 k hk
  · rw [z _ (by omega)]; exact h11 k hk
  · rw [z _ (by omega)]; exact h12 k hk
  · rw [z _ (by omega)] at hk
    rw [z _ (by omega), z _ (by omega)]; exact h13 k hk
theorem Vld.tp0 (h : Vld a I un u T tn m) : Vld a I un u T 0 m := ⟨h.1, h.2.1, h.2.2.1, h.2.2.2.1, by omega, fun i hi => absurd hi (by omega), h.2.2.2.2.2.2⟩
/-- the class has one law more -/
theorem Cls.addl {t : Nat} {lw : Lw} (h : Cls G S a L I un u T tn fl m) (hV : Va a) (ha : a 2 < 6) (ht : 121 ≤ t) (hT : TextC G S.1 S.2.2 t lw) (hD : Dj S.2.2 t) : Cls G (uI (uR S 8 (a 2) (some t)) 1 8 (nI (a 2 + 1))) (up a 2 (a 2 + 1)) (addL L (a 2) lw) I un u T tn fl m := by
  obtain ⟨g1, g2, g3, g4, g5, g6, g7, g8, g9⟩ := h
  have e : ∀ i, i ≠ 1 → (uI (uR S 8 (a 2) (some t)) 1 8 (nI (a 2 + 1))).1 i = S.1 i := fun i hi => uI_n _ _ _ _ hi
  have r : ∀ i, i ≠ 8 → (uI (uR S 8 (a 2) (some t)) 1 8 (nI (a 2 + 1))).2.2 i = S.2.2 i := fun i hi => uR_n hi
  have r8 : ∀ k, (uI (uR S 8 (a 2) (some t)) 1 8 (nI (a 2 + 1))).2.2 8 k = if k = a 2 then some t else S.2.2 8 k := fun k => uR_s
  have hP : ParC (uI (uR S 8 (a 2) (some t)) 1 8 (nI (a 2 + 1))) 1 (up a 2 (a 2 + 1)) := (g2.ag (S' := uR S 8 (a 2) (some t)) (fun i _ _ => rfl)).set (by unfold pos; omega)
  have tx : ∀ t' lw', 121 ≤ t' → TextC G S.1 S.2.2 t' lw' → TextC G (uI (uR S 8 (a 2) (some t)) 1 8 (nI (a 2 + 1))).1 (uI (uR S 8 (a 2) (some t)) 1 8 (nI (a 2 + 1))).2.2 t' lw' := fun t' lw' h1 h2 => h2.fr (fun i hi _ => e i (by omega)) (r t' (by omega))
  have dj : ∀ t', Dj S.2.2 t' → Dj (uI (uR S 8 (a 2) (some t)) 1 8 (nI (a 2 + 1))).2.2 t' := fun t' h' => by unfold Dj at h' ⊢; rw [r 17 (by omega)]; exact h'
  refine ⟨g1.fr (fun i j hi h8 _ _ _ => by rw [r i h8]) (fun _ _ => rfl) (Nat.le_refl _), hP, ⟨fun k hk => ?_, fun k hk t' ht' => ?_⟩, g4.ag (e _ (by omega)) (e _ (by omega)) (e _ (by omega)), ?_, g6.ag (e _ (by omega)) (e _ (by omega)), g7.ag (by rw [e 75 (by omega)]) (e _ (by omega)), g8.ag (e _ (by omega)) (by rw [e 75 (by omega)]) (e _ (by omega)), g9.ag (fun i _ _ => e i (by omega))⟩
  · rw [up_s] at hk
    show ∃ t', (uI (uR S 8 (a 2) (some t)) 1 8 (nI (a 2 + 1))).2.2 8 k = some t' ∧ _
    rw [r8]
    unfold addL
    by_cases ek : k = a 2
    · rw [if_pos ek, if_pos ek]; exact ⟨t, rfl, ht, tx t lw ht hT⟩
    · rw [if_neg ek, if_neg ek]
      obtain ⟨t', t1, t2, t3⟩ := g3.1 k (by omega)
      exact ⟨t', t1, t2, tx t' _ t2 t3⟩
  · rw [up_s] at hk
    have ht' : (uI (uR S 8 (a 2) (some t)) 1 8 (nI (a 2 + 1))).2.2 8 k = some t' := ht'
    rw [r8] at ht'
    by_cases ek : k = a 2
    · rw [if_pos ek] at ht'; cases ht'; exact dj t hD
    · rw [if_neg ek] at ht'; exact dj t' (g3.2 k (by omega) t' ht')
  · obtain ⟨i1, i2, i3⟩ := g5
    have h17 := r 17 (by omega)
    refine ⟨fun k hk => ?_, by rw [h17]; exact i2, by rw [h17]; exact i3⟩
    rcases i1 k hk with ⟨e1, e2⟩ | ⟨q, b, M, e1, e2, e3, e4, e5, e6, e7, e8⟩
    · exact .inl ⟨e1, by rw [h17]; exact e2⟩
    · refine .inr ⟨q, b, M, e1, by rw [h17]; exact e2, e3, e4, e5, ?_, e7.ag (fun i _ _ => e i (by omega)), ?_⟩
      · unfold PSh at e6 ⊢; rw [r q (by omega)]; exact e6
      · refine ⟨fun k' hk' => ?_, fun k' hk' t' ht' => ?_⟩
        · obtain ⟨t', t1, t2, t3⟩ := e8.1 k' hk'
          exact ⟨t', by rw [r _ (by omega)]; exact t1, t2, tx t' _ t2 t3⟩
        · rw [r _ (by omega)] at ht'
          exact dj t' (e8.2 k' hk' t' ht')
theorem C_law (h : Cls G S a L I un u T tn fl m) (hV : Vld a I un u T tn m) (y6 : a 2 = 6 → ∀ S2, Cls G S2 a L I un u T 0 (flN fl 5) m → OffR S S2 → Q (-5) G S2) (yb : ∀ x, ¬ a 2 = 6 → gText (tkT T tn) (tvT T tn) false 12 0 0 0 L0z = .inl x → ∀ S2, Cls G S2 a L I un u T 0 (flN (upF fl 3 (nI (stT T tn x))) 6) m → OffR S S2 → Q (-6) G S2) (yg : ∀ q Lz, ¬ a 2 = 6 → gText (tkT T tn) (tvT T tn) false 12 0 0 0 L0z = .inr (q, Lz) → ∀ G2 S2, Grw G G2 → Cls G2 S2 (up a 2 (a 2 + 1)) (addL L (a 2) (toLw q Lz)) I un u T 0 (flA (upF fl 3 (-1))) m → OffR S S2 → Q (nI (a 2)) G2 S2) (hz : ∀ q Lz, gText (tkT T tn) (tvT T tn) false 12 0 0 0 L0z = .inr (q, Lz) → ∀ i, i < q → ((Lz i).1 = 3 ↔ (Lz i).2.2.1 = none) ∧ (Lz i).2.2.2.1 = none) : f_X10_law G 0 Q S := by
  have hl := hV.1.2.2.1
  refine ex_y h.1.r0_0 ?_
  have e8 : S.1 1 8 = nI (a 2) := h.2.1.2.2.1
  rw [e8]
  refine ite_c (fun d => ?_) (fun d => ?_)
  · rw [lit, ltI (by omega) (by omega)] at d
    have offD : ∀ S1, FrD S S1 → OffR S S1 := fun S1 f i h1 h2 => ⟨f.2 i (by omega), by rw [f.1], by rw [f.1]⟩
    refine ex_y h.1.r0_8 (c_reads (od := false) (L0 := L0z) (h.tp hV) rfl (fun q Lz hg S1 N c f1 b1 b9 ht => ite_n (by decide) ?_) (fun x hx S1 f1 b1 b9 => ite_y rfl ?_))
    · have hC := h.rd f1.1 f1.2 b1 b9
      refine ex_y hC.1.r0_0 (ex_y hC.1.r0_8 (ex_y hC.1.r75_10 ?_))
      have hN := ht.2.2.2.2.2.2
      have hq := ht.2.2.2.2.2.1
      refine c_copy hC.1 hq (by omega) ht.1 ht.2.1 (fun G2 S2 hcp => ⟨G.2.2, rfl, ?_, ?_⟩)
      · exact ⟨by rw [hcp.1]; omega, hcp.2.2.1⟩
      · have gr : Grw G G2 := ⟨by rw [hcp.1]; omega, hcp.2.1⟩
        have hC2 := hC.gr gr (fun i hi => (hcp.2.2.2.2.2.2.1 i hi).1) (fun i hi => (hcp.2.2.2.2.2.2.1 i hi).2.2)
        have tx := text_of ht hcp (hz q Lz hg) (t := 0)
        have b121 := hC.1.2.2
        have dj : Dj S2.2.2 G.2.2 := by
          intro k q' hq'
          have e17 : S2.2.2 17 k = S1.2.2 17 k := by rw [(hcp.2.2.2.2.2.2.1 17 (by omega)).2.2]
          rw [e17] at hq'
          obtain ⟨i1, i2, i3⟩ := hC.2.2.2.2.1
          by_cases hk : k < 2
          · rcases i1 k hk with ⟨e1, e2⟩ | ⟨q2, b, M, e1, e2, e3, e4, _⟩
            · rw [e2] at hq'; cases hq'
            · rw [e2] at hq'; cases hq'; right; omega
          · rw [i3 k (by omega)] at hq'; cases hq'
        have c8 : S2.1 1 8 = nI (a 2) := hC2.2.1.2.2.1
        unfold f_X5_addLaw
        rw [c8]
        refine ite_n (nI_nn (by omega)) (ite_y (by rw [lit, ltI (by omega) (by omega)]; exact d) (ex_y (by exact hC2.1.p1.2.2.2.2.2.2.1) ?_))
        rw [in_iff (by omega), clI (by omega), show G2.2.1 (1 + 7) = 6 from hC2.1.l8]
        refine ⟨d, nm_e (nm_e ?_)⟩
        have d8 : (uR S2 8 (a 2) (some G.2.2)).1 1 8 = nI (a 2) := c8
        rw [d8, nI_1]
        have d9 : (uI (uR S2 (1 + 7) (a 2) (some G.2.2)) 1 8 (nI (a 2 + 1))).1 1 8 = nI (a 2 + 1) := by rw [uI_s, if_pos rfl]
        rw [d9, nI_pred]
        have hC3 := hC2.addl hV.1 d b121 tx dj
        refine C_accept hC3 (fun S4 hC4 o4 => yg q Lz (by omega) hg G2 S4 gr hC4 ?_)
        refine ((offD S1 f1).trans ?_).trans o4
        intro i h1 h2
        have x := hcp.2.2.2.2.2.2.1 i (by omega)
        refine ⟨?_, x.2.1, ?_⟩
        · rw [uI_n _ _ _ _ (by omega)]; exact x.1
        · show (uR S2 8 (a 2) (some G.2.2)).2.2 i = _
          rw [uR_n (by omega)]; exact x.2.2
    · have hC := h.rd f1.1 f1.2 b1 b9
      exact C_refuse (n := 6) hC (by omega) (by omega) (fun S2 hC2 o2 => yb x (by omega) hx S2 hC2 ((offD S1 f1).trans o2))
  · rw [lit, ltI (by omega) (by omega)] at d
    refine ex_y h.1.r0_8 (nm_e ?_)
    exact C_refuse (n := 5) h.tape0 (by omega) (by omega) (fun S2 hC2 o2 => y6 (by omega) S2 hC2 (((OffR.refl S).uI (by omega)).trans o2))
/-- clauses of a law have one sum, unless they bar -/
theorem gClause_l {tk tv : Nat → Nat} {k p k' p' : Nat} {z : Cz} (h : gClause tk tv false k p = .inr (k', p', z)) : (z.1 = 3 ↔ z.2.2.1 = none) ∧ z.2.2.2.1 = none := by
  unfold gClause at h
  by_cases hv : vbB false ≤ tk k ∧ tk k ≤ vbB false + vbL false
  · rw [if_pos hv] at h
    cases h1 : gOpt (decide (tk k - vbB false ≠ vbL false)) (gSum tk tv false 8) (k + 1) (k + 1) p with
    | inl x => rw [h1] at h; cases h
    | inr r =>
      obtain ⟨k1, p1, one⟩ := r
      rw [h1] at h
      simp only [] at h
      have gr : gRest tk tv false (tk k - vbB false) k1 p1 = .inr (k1, p1, none, 1) := by unfold gRest; rw [if_neg (by simp)]
      rw [gr] at h
      simp only [] at h
      cases h3 : gOpt (decide (tk k1 = 9)) (gTest tk tv false 8) k1 (k1 + 1) p1 with
      | inl x => rw [h3] at h; cases h
      | inr r3 =>
        obtain ⟨k3, p3, test⟩ := r3
        rw [h3] at h
        cases h
        refine ⟨?_, rfl⟩
        show tk k - vbB false = 3 ↔ one = none
        unfold gOpt at h1
        by_cases h33 : tk k - vbB false = vbL false
        · have : decide (tk k - vbB false ≠ vbL false) = false := by rw [h33]; decide
          rw [this, if_neg (by simp)] at h1
          cases h1
          exact ⟨fun _ => rfl, fun _ => h33⟩
        · have : decide (tk k - vbB false ≠ vbL false) = true := decide_eq_true h33
          rw [this, if_pos rfl] at h1
          refine ⟨fun h' => absurd h' h33, fun h' => ?_⟩
          subst h'
          revert h1
          cases gSum tk tv false 8 (k + 1) p with
          | inl q => intro h1; cases h1
          | inr r => obtain ⟨q1, q2, q3⟩ := r; intro h1; cases h1
  · rw [if_neg hv] at h; cases h
theorem gText_l {tk tv : Nat → Nat} : ∀ mm n k p (L : Nat → Cz) q Lz, gText tk tv false mm n k p L = .inr (q, Lz) → (∀ i, i < n → ((L i).1 = 3 ↔ (L i).2.2.1 = none) ∧ (L i).2.2.2.1 = none) → ∀ i, i < q → ((Lz i).1 = 3 ↔ (Lz i).2.2.1 = none) ∧ (Lz i).2.2.2.1 = none := by
  intro mm
  induction mm with
  | zero => intro n k p L q Lz h; cases h
  | succ mm ih =>
    intro n k p L q Lz h hn
    rw [gText_s] at h
    cases hc : gClause tk tv false k p with
    | inl x => rw [hc] at h; cases h
    | inr r =>
      obtain ⟨k', p', z⟩ := r
      rw [hc] at h
      simp only [] at h
      have hz := gClause_l hc
      have hn' : ∀ i, i < n + 1 → ((updZ L n z i).1 = 3 ↔ (updZ L n z i).2.2.1 = none) ∧ (updZ L n z i).2.2.2.1 = none := by
        intro i hi
        unfold updZ
        by_cases e : i = n
        · rw [if_pos e]; exact hz
        · rw [if_neg e]; exact hn i (by omega)
      unfold gAft at h
      by_cases h9 : tk k' = 159
      · rw [if_pos h9] at h
        by_cases hm : mm = 0
        · rw [if_pos hm] at h; cases h
        · rw [if_neg hm] at h; exact ih (n + 1) (k' + 1) p' _ q Lz h hn'
      · rw [if_neg h9] at h
        by_cases h51 : tk k' = 51
        · rw [if_pos h51] at h; cases h; exact hn'
        · rw [if_neg h51] at h; cases h
theorem R_11 (h : Inv G S) (k : ∀ G' S', Inv G' S' → K G' S') : f_X10_law G 0 (fun r G1 S1 => f_X11_law G1 87 (fun r2 S2 => r = r2 ∧ K G1 S2) S1) S := by
  obtain ⟨a, L, I, un, u, T, tn, fl, m, hV, hC, hR⟩ := h
  have hl := hV.1.2.2.1
  refine C_law hC hV (fun h6 S1 hC1 o1 => ?_) (fun x h6 hx S1 hC1 o1 => ?_) (fun q Lz h6 hg G1 S1 gr hC1 o1 => ?_) (fun q Lz hg => gText_l 12 0 0 0 L0z q Lz hg (fun i hi => absurd hi (by omega)))
  · refine M_law (hR.offR o1) hV (fun _ S2 h2 o2 => ⟨rfl, k G S2 (inv hV.tp0 (hC1.offC o2) h2)⟩) (fun x h' => absurd h6 h') (fun q Lz h' => absurd h6 h')
  · refine M_law (hR.offR o1) hV (fun h' => absurd h' h6) (fun x' _ hx' S2 h2 o2 => ⟨rfl, k G S2 (inv hV.tp0 (hC1.offC o2) ?_)⟩) (fun q Lz _ hg => ?_)
    · have e : x' = x := by rw [hx] at hx'; cases hx'; rfl
      rw [e] at h2; exact h2
    · rw [hx] at hg; cases hg
  · have hR1 : Ref G1 S1 a L I un u T tn fl m := (hR.offR o1).gm (fun i h1 h2 => (gr.2 i (by have := hC.1.2.2; omega)).2)
    refine M_law hR1 hV (fun h' => absurd h' h6) (fun x' _ hx' => by rw [hg] at hx'; cases hx') (fun q' Lz' _ hg' S2 h2 o2 => ⟨rfl, k G1 S2 ?_⟩)
    rw [hg] at hg'
    cases hg'
    refine inv ?_ (hC1.offC o2) h2
    have := (hV.tp0).set (x := 2) (v := a 2 + 1) (hV.1.addl (by omega)) (by omega)
    exact this
end
