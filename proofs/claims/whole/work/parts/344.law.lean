/-! law, on both sides. -/
section
variable {G : Gm} {S S' : St} {a m : Rw} {L : Nat → Lw} {I : Im} {un tn : Nat} {u : Un} {T : Nat → Nat} {fl : Nat → Int32} {Q : Int32 → St → Prop} {K : Gm → St → Prop} {od : Bool} {n k p N q : Nat} {c : Cd} {Lz : Nat → Cz}
theorem UU9 : UU false = U9 := by
  funext w
  unfold UU U9
  rw [if_neg (by simp)]
/-- clauses read to a law's clauses -/
theorem cls_of {i m0 m2 m3 : Nat} {z : Cz} (h3 : z.1 ≤ 3) (hn : z.1 = 3 ↔ z.2.2.1 = none) (h0 : SgO 0 c U9 m0 m2 z.2.2.1) (h2 : SgO 1 c U9 m2 m3 z.2.2.2.2) : ClS c m0 m2 m3 (z.1, z.2.2.2.2.getD (fun _ => some 1), z.2.2.1.getD (fun _ => none)) := by
  refine ⟨h3, h0.le, h2.le, ?_, ?_⟩
  · show z.1 = 3 ∨ _
    cases ho : z.2.2.1 with
    | none => exact .inl (hn.mpr ho)
    | some f => rw [ho] at h0; exact .inr h0
  · show (m2 = m3 ∧ _) ∨ _
    cases ht : z.2.2.2.2 with
    | none => rw [ht] at h2; exact .inl ⟨h2, fun _ => rfl⟩
    | some f =>
      rw [ht] at h2
      obtain ⟨h, hh, s⟩ := h2
      exact .inr ⟨s.keep.1, h, hh, s⟩
/-- the laws with one more -/
def addL (L : Nat → Lw) (n : Nat) (lw : Lw) : Nat → Lw := fun k => if k = n then lw else L k
theorem RowR.ag {f f' : Nat → Int32} (h : RowR f a) (e : ∀ i, i < 85 → f' i = f i) : RowR f' a := by
  obtain ⟨g0, g1, g2, g3, g4, g5, g6, g7, g8, g9, g10⟩ := h
  refine ⟨?_, ?_, ?_, ?_, fun k hk => ?_, fun k hk => ?_, fun k hk => ?_, fun k hk l hl => ?_, fun k hk => ?_, fun k hk => ?_, fun k hk => ?_⟩
  · rw [e _ (by omega)]; exact g0
  · rw [e _ (by omega)]; exact g1
  · rw [e _ (by omega)]; exact g2
  · rw [e _ (by omega)]; exact g3
  · rw [e _ (by omega)]; exact g4 k hk
  · rw [e _ (by omega)]; exact g5 k hk
  · rw [e _ (by omega)]; exact g6 k hk
  · rw [e _ (by omega)]; exact g7 k hk l hl
  · rw [e _ (by omega)]; exact g8 k hk
  · rw [e _ (by omega)]; exact g9 k hk
  · rw [e _ (by omega)]; exact g10 k hk
theorem M_lawEnd (h : Ref G S a L I un u T tn fl m) (hV : Vld a I un u T tn m) (h6 : ¬ a 2 = 6) (f : FrM S S') (h14 : S'.1 87 14 = 0) (h21 : S'.1 87 21 = 0) (h19 : S'.1 87 19 = -1) (h22 : S'.1 87 22 = nI q) (h24 : S'.1 87 24 = nI N) (hcd : CdR S' false N c) (hq1 : 1 ≤ q) (hq : q ≤ 12) (hN : N ≤ 400) (hR : ∀ i, i < q → LRec i (Lz i) S' c N) (z : ∀ S2, Ref G S2 (up a 2 (a 2 + 1)) (addL L (a 2) (toLw q Lz)) I un u T 0 (flA (upF fl 3 (-1))) m → OffC S S2 → Q (nI (a 2)) S2) : (∃ a3, S'.2.2 87 4 = some a3 ∧ (vp_in 2 (G.2.1 a3) ∧ (∀ x5 : Int32, x5 = 85 + (900 * (S'.1 a3 (2 : Int32).toNatClampNeg)) → (∃ a6, S'.2.2 87 4 = some a6 ∧ (vp_in (x5 + 1) (G.2.1 a6) ∧ ∀ S8, S8 = uI S' a6 (x5 + 1).toNatClampNeg (S'.1 87 22) → f_X11_law_110 G 87 x5 Q 0 S8))))) := by
  have hl := hV.1.2.2.1
  have hr := h.rd f h14 h21 h19
  have hS := hr.1.1
  have r2 : S'.1 90 ((2 : Int32).toNatClampNeg) = nI (a 2) := hr.1.2.1.2.2.1
  refine ex_y hS.row ⟨inrow (n := 2) hS (by omega), ?_⟩
  rw [r2]
  refine nm_p (e' := nI (85 + 900 * a 2)) (by rw [show (900 : Int32) = nI 900 from rfl, show (85 : Int32) = nI 85 from rfl, pk_mul, nI_add]) (ex_y hS.row ?_)
  rw [nI_1, clI (by omega), h22]
  refine ⟨inrow hS (by omega), nm_e ?_⟩
  have w90 : ∀ i, i ≠ 90 → (uI S' 90 (85 + 900 * a 2 + 1) (nI q)).1 i = S'.1 i := fun i hi => uI_n _ _ _ _ hi
  refine m_lawrow (nl := a 2) (w := 85 + 900 * a 2) (q := q) (N := N) (f0 := S'.1 90) rfl (by omega) hq hN (fun S1 e2 e1 elo e98 ec ehi => ?_) hS (by rw [w90 87 (by omega)]; exact h22) (by rw [w90 87 (by omega)]; exact h24)
  have R1 : S1.2.2 = S'.2.2 := by rw [e2]; rfl
  have hS1 : ShR G S1.2.2 := by rw [R1]; exact hS
  have lo : ∀ i, i < 85 + 900 * a 2 + 1 → S1.1 90 i = S'.1 90 i := fun i hi => by rw [elo i (by omega), uI_s, if_neg (by omega)]
  have b2 : S1.1 90 ((2 : Int32).toNatClampNeg) = nI (a 2) := by rw [show ((2 : Int32).toNatClampNeg) = 2 from rfl, lo 2 (by omega)]; exact r2
  refine ex_y hS1.row ⟨inrow (n := 2) hS1 (by omega), inrow (n := 2) hS1 (by omega), ?_⟩
  rw [b2, nI_1]
  refine nm_e (ex_y (by exact hS1.row) ⟨inrow (n := 2) hS1 (by omega), ?_⟩)
  have b3 : (uI S1 90 ((2 : Int32).toNatClampNeg) (nI (a 2 + 1))).1 90 ((2 : Int32).toNatClampNeg) = nI (a 2 + 1) := by rw [uI_s, if_pos rfl]
  rw [b3, nI_pred]
  -- the new row
  have row : ∀ i, i ≠ 2 → (uI S1 90 2 (nI (a 2 + 1))).1 90 i = S1.1 90 i := fun i hi => uI_p _ _ _ _ hi
  have hR0 : RowR (uI S1 90 2 (nI (a 2 + 1)) |>.1 90) (up a 2 (a 2 + 1)) := by
    refine (hr.1.2.1.ag (f' := S1.1 90) (fun i hi => lo i (by omega))).set (i0 := 2) (x := 2) (v := a 2 + 1) (fun i hi => row i hi) (by rw [uI_s, if_pos rfl]) (by unfold posR; omega)
  have cl : ∀ i, i < q → ∃ m0 m2 m3, S1.1 90 (85 + 900 * a 2 + 2 + 8 * i) = nI (Lz i).1 ∧ S1.1 90 (85 + 900 * a 2 + 2 + 8 * i + 3) = nI m0 ∧ S1.1 90 (85 + 900 * a 2 + 2 + 8 * i + 4) = nI m2 ∧ S1.1 90 (85 + 900 * a 2 + 2 + 8 * i + 5) = nI m2 ∧ S1.1 90 (85 + 900 * a 2 + 2 + 8 * i + 6) = nI m3 ∧ m3 ≤ N ∧ ClS c m0 m2 m3 ((toLw q Lz).2 i) := by
    intro i hi
    obtain ⟨g1, g2, g3, m0, m2, m3, x0, x2, x2b, x3, xN, s0, s2⟩ := hR i hi
    rw [UU9] at s0 s2
    have w98 : ∀ j, j < 8 * q → S1.1 90 (85 + 900 * a 2 + 2 + j) = S'.1 98 j := fun j hj => by rw [e98 j hj, w90 98 (by omega)]
    refine ⟨m0, m2, m3, ?_, ?_, ?_, ?_, ?_, xN, cls_of (i := i) g2 g3 s0 s2⟩
    · rw [w98 _ (by omega)]; exact g1
    · rw [Nat.add_assoc, w98 _ (by omega)]; exact x0
    · rw [Nat.add_assoc, w98 _ (by omega)]; exact x2
    · rw [Nat.add_assoc, w98 _ (by omega)]; exact x2b
    · rw [Nat.add_assoc, w98 _ (by omega)]; exact x3
  have hL1 : LwR (uI S1 90 2 (nI (a 2 + 1)) |>.1 90) (up a 2 (a 2 + 1)) (addL L (a 2) (toLw q Lz)) := by
    intro k hk
    rw [up_s] at hk
    unfold addL
    by_cases ek : k = a 2
    · rw [if_pos ek, ek]
      refine ⟨?_, hq, c, N, hN, fun j hj => ?_, fun i hi => ?_⟩
      · rw [row _ (by omega), elo _ (by omega), uI_s, if_pos rfl]; rfl
      · obtain ⟨c1, c2⟩ := hcd j hj
        obtain ⟨d1, d2⟩ := ec j hj
        rw [row _ (by omega), row _ (by omega), d1, d2, w90 99 (by omega), w90 100 (by omega)]
        exact ⟨c1, c2⟩
      · obtain ⟨m0, m2, m3, x0, x1, x2, x3, x4, x5, x6⟩ := cl i hi
        refine ⟨by rw [row _ (by omega)]; exact x0, m0, m2, m3, by rw [row _ (by omega)]; exact x1, by rw [row _ (by omega)]; exact x2, by rw [row _ (by omega)]; exact x3, by rw [row _ (by omega)]; exact x4, x5, x6⟩
    · rw [if_neg ek]
      exact (hr.1.2.2.2.1 k (by omega)).ag (fun i h1 h2 => by rw [row _ (by omega), lo _ (by omega)])
  have hR2 : Ref G (uI S1 90 2 (nI (a 2 + 1))) (up a 2 (a 2 + 1)) (addL L (a 2) (toLw q Lz)) I un u T 0 (upF fl 3 (-1)) m := by
    obtain ⟨⟨h1, _, h3, _, h5⟩, i6, i7, i8, i9, i10, i11⟩ := hr
    have w : ∀ i, i ≠ 90 → (uI S1 90 2 (nI (a 2 + 1))).1 i = S'.1 i := fun i hi => by rw [uI_n _ _ _ _ hi, e1 i hi, w90 i hi]
    have wJ : (uI S1 90 2 (nI (a 2 + 1))).2 = S'.2 := e2
    refine ⟨⟨by rw [wJ]; exact h1, hR0, by rw [w 89 (by omega)]; exact h3, hL1, by rw [w 87 (by omega)]; exact h5⟩, ?_, ?_, ?_, ?_, ?_, ?_⟩
    · unfold ImgR; rw [w 92 (by omega), w 91 (by omega)]; exact i6
    · unfold UnR; rw [w 87 (by omega), w 94 (by omega), w 93 (by omega)]; exact i7
    · unfold TapR; rw [w 87 (by omega), w 97 (by omega)]; exact i8
    · unfold FlR; rw [w 87 (by omega), w 88 (by omega)]; exact i9
    · unfold MonR; rw [w 87 (by omega), w 120 (by omega)]; exact i10
    · unfold CoR; rw [wJ]; exact i11
  refine M_tell_y hR2 (nI_pos' (by omega)) (fun S3 h3 o3 => z S3 h3 ?_)
  have o1 : OffC S' (uI S1 90 2 (nI (a 2 + 1))) := ⟨by show S1.2.2 = _; rw [R1], fun i hi => ⟨by rw [uI_n _ _ _ _ (by omega), e1 i (by omega), w90 i (by omega)], by show S1.2.1 i = _; rw [e2]; rfl⟩⟩
  exact (f.offC.trans o1).trans o3
theorem M_law (h : Ref G S a L I un u T tn fl m) (hV : Vld a I un u T tn m) (y6 : a 2 = 6 → ∀ S2, Ref G S2 a L I un u T 0 (flN fl 5) m → OffC S S2 → Q (-5) S2) (yb : ∀ x, ¬ a 2 = 6 → gText (tkT T tn) (tvT T tn) false 12 0 0 0 L0z = .inl x → ∀ S2, Ref G S2 a L I un u T 0 (flN (upF fl 3 (nI (stT T tn x))) 6) m → OffC S S2 → Q (-6) S2) (yg : ∀ q Lz, ¬ a 2 = 6 → gText (tkT T tn) (tvT T tn) false 12 0 0 0 L0z = .inr (q, Lz) → ∀ S2, Ref G S2 (up a 2 (a 2 + 1)) (addL L (a 2) (toLw q Lz)) I un u T 0 (flA (upF fl 3 (-1))) m → OffC S S2 → Q (nI (a 2)) S2) : f_X11_law G 87 Q S := by
  have hl := hV.1.2.2.1
  have hT := h.th
  have hA := TkA_T (T := T) hV.2.2.2.2.1 hV.2.2.2.2.2.1
  have t4 := hA.1
  refine nm_e (ex_y hT.1.1.row ⟨inrow (n := 2) hT.1.1 (by omega), ?_⟩)
  have r2 : (uI S 87 0 0).1 90 ((2 : Int32).toNatClampNeg) = nI (a 2) := hT.1.2.1.2.2.1
  rw [r2]
  have o0 : OffC S (uI S 87 0 0) := offth
  refine ite_c (fun d => nm_e ?_) (fun d => ?_)
  · rw [lit, eqI (by omega) (by omega)] at d
    have hr : Ref G (uI (uI S 87 0 0) 87 14 0) a L I un u T 0 fl m := by
      obtain ⟨⟨h1, h2, h3, h4, h5⟩, i6, i7, i8, i9, i10, i11⟩ := hT
      have e : ∀ i, i ≠ 87 → (uI (uI S 87 0 0) 87 14 0).1 i = (uI S 87 0 0).1 i := fun i hi => uI_n _ _ _ _ hi
      have pp : ∀ j, j ≠ 14 → (uI (uI S 87 0 0) 87 14 0).1 87 j = (uI S 87 0 0).1 87 j := fun j hj => uI_p _ _ _ _ hj
      refine ⟨⟨h1, by rw [e 90 (by omega)]; exact h2, by rw [e 89 (by omega)]; exact h3, by rw [e 90 (by omega)]; exact h4, by rw [pp 21 (by omega)]; exact h5⟩, ?_, ?_, ?_, ?_, ?_, i11⟩
      · unfold ImgR; rw [e 92 (by omega), e 91 (by omega)]; exact i6
      · unfold UnR; rw [pp 9 (by omega), e 94 (by omega), e 93 (by omega)]; exact i7
      · exact ⟨by rw [uI_s, if_pos rfl]; rfl, fun i hi => absurd hi (by omega)⟩
      · unfold FlR; rw [pp 1 (by omega), pp 12 (by omega), pp 55 (by omega), pp 19 (by omega), e 88 (by omega)]; exact i9
      · unfold MonR; rw [pp 59 (by omega), e 120 (by omega)]; exact i10
    exact M_tell_n (n := 5) hr (by omega) (by omega) (fun S2 h2 o2 => y6 d S2 h2 ((o0.uI (by omega) (by omega)).trans o2))
  · rw [lit, eqI (by omega) (by omega)] at d
    -- the end of it
    have e64 : ∀ S1 x, FrM (uI S 87 0 0) S1 → S1.1 87 20 = 1 → S1.1 87 19 = nI (stT T tn x) → gText (tkT T tn) (tvT T tn) false 12 0 0 0 L0z = .inl x → f_X11_law_64 G 87 Q S1 := by
      intro S1 x f1 h20 h19 er
      refine m_endB h19 h20 (fun S2 f2 b14 b21 b19 b20 => ite_n (by rw [b20]; decide) ?_)
      have hr := hT.rd (f1.trans f2) b14 b21 b19
      exact M_tell_n (n := 6) hr (by omega) (by omega) (fun S3 h3 o3 => yb x d er S3 h3 ((o0.trans (f1.trans f2).offC).trans o3))
    have main : ∀ mm q k p N c Lz S1, q + mm = 12 → 1 ≤ q → FrM (uI S 87 0 0) S1 → RTx G T tn false q k p N c S1 → (∀ i, i < q → LRec i (Lz i) S1 c N) → k ≤ tcT T tn → p ≤ 50 → gAft (tkT T tn) (tvT T tn) false mm q k p Lz = gText (tkT T tn) (tvT T tn) false 12 0 0 0 L0z → f_X11_law_37_n G 87 Q (mm + 2) S1 := by
      intro mm
      induction mm with
      | zero =>
        intro q k p N c Lz S1 hq hq1 f1 h1 hR hk hp er
        have nK := h1.2.2.2.2.2.2.2.2.2.2.2
        rw [f_X11_law_37_n]
        refine ite_y h1.2.2.2.2.2.2.2.1 (h1.sign (t := 59) (by omega) (fun h59 => ite_n (by decide) ?_) (fun h59 => ite_y rfl ?_))
        · have h59 : tkT T tn k = 159 := h59
          have hk2 : k < tcT T tn := tk_lt hA (by omega)
          refine h1.next hk2 (fun S2 f2 h2 => ?_)
          refine m_lawcl h2 (by omega) (by omega) hp (fun hlt => absurd hlt (by omega)) (fun x hx S3 f3 h19 h20 => ?_)
          rw [f_X11_law_37_n]
          refine ite_n (by rw [h20]; decide) (e64 S3 x (f1.trans (f2.toM.trans f3.toM)) h20 h19 ?_)
          rw [← er]
          unfold gAft
          rcases hx with ⟨_, hx⟩ | ⟨hx, _⟩
          · rw [if_pos h59, if_pos rfl, hx]
          · omega
        · have h59 : ¬ tkT T tn k = 159 := h59
          refine m_end h1 (fun h51 S2 f2 b14 b21 b19 b20 b22 b24 bcd b98 b119 => ite_y b20 ?_) (fun h51 S2 f2 b14 b21 b19 b20 => ite_n (by rw [b20]; decide) ?_)
          · refine M_lawEnd hT hV d (f1.trans f2) b14 b21 b19 b22 b24 bcd hq1 (by omega) (by omega) (fun i hi => ?_) (fun S3 h3 o3 => yg q Lz d ?_ S3 h3 (o0.trans o3))
            · have := hR i hi
              unfold LRec; rw [b98]; exact this
            · rw [← er]; unfold gAft; rw [if_neg h59, if_pos h51]
          · have hr := hT.rd (f1.trans f2) b14 b21 b19
            refine M_tell_n (n := 6) hr (by omega) (by omega) (fun S3 h3 o3 => yb k d ?_ S3 h3 ((o0.trans (f1.trans f2).offC).trans o3))
            rw [← er]; unfold gAft; rw [if_neg h59, if_neg h51]
      | succ mm ih =>
        intro q k p N c Lz S1 hq hq1 f1 h1 hR hk hp er
        have nK := h1.2.2.2.2.2.2.2.2.2.2.2
        have w := fun k2 p2 N2 c2 L2 S2 => ih (q + 1) k2 p2 N2 c2 L2 S2 (by omega) (by omega)
        have wb : ∀ S3 x, FrM (uI S 87 0 0) S3 → S3.1 87 20 = 1 → S3.1 87 19 = nI (stT T tn x) → gText (tkT T tn) (tvT T tn) false 12 0 0 0 L0z = .inl x → f_X11_law_37_n G 87 Q (mm + 2) S3 := by
          intro S3 x f3 h20 h19 er3
          rw [f_X11_law_37_n]
          exact ite_n (by rw [h20]; decide) (e64 S3 x f3 h20 h19 er3)
        rw [f_X11_law_37_n]
        generalize f_X11_law_37_n G 87 Q (mm + 2) = W at w wb ⊢
        refine ite_y h1.2.2.2.2.2.2.2.1 (h1.sign (t := 59) (by omega) (fun h59 => ite_n (by decide) ?_) (fun h59 => ite_y rfl ?_))
        · have h59 : tkT T tn k = 159 := h59
          have hk2 : k < tcT T tn := tk_lt hA (by omega)
          have eA : gAft (tkT T tn) (tvT T tn) false (mm + 1) q k p Lz = gText (tkT T tn) (tvT T tn) false (mm + 1) q (k + 1) p Lz := by unfold gAft; rw [if_pos h59, if_neg (by omega)]
          refine h1.next hk2 (fun S2 f2 h2 => ?_)
          refine m_lawcl h2 (by omega) (by omega) hp (fun hlt k' p' z hz S3 N3 c3 f3 h3 hr3 hc3 hN3 => ?_) (fun x hx S3 f3 h19 h20 => ?_)
          · obtain ⟨b1, b2, b3⟩ := (gClause_ok (od := false) (k := k + 1) hA (by omega) hp).2 k' p' z hz
            refine w k' p' N3 c3 (updZ Lz q z) S3 (f1.trans (f2.toM.trans f3.toM)) h3 ?_ b2 b3 ?_
            · intro i hi
              unfold updZ
              by_cases ei : i = q
              · rw [if_pos ei, ei]; exact hr3
              · rw [if_neg ei]; exact (hR i (by omega)).keep (n := q) (f2.trans f3) (by omega) hc3 hN3
            · rw [← er, eA, gText_s, hz]
          · refine wb S3 x (f1.trans (f2.toM.trans f3.toM)) h20 h19 ?_
            rw [← er, eA, gText_s]
            rcases hx with ⟨hx, _⟩ | ⟨_, hx⟩
            · omega
            · rw [hx]
        · have h59 : ¬ tkT T tn k = 159 := h59
          refine m_end h1 (fun h51 S2 f2 b14 b21 b19 b20 b22 b24 bcd b98 b119 => ite_y b20 ?_) (fun h51 S2 f2 b14 b21 b19 b20 => ite_n (by rw [b20]; decide) ?_)
          · refine M_lawEnd hT hV d (f1.trans f2) b14 b21 b19 b22 b24 bcd hq1 (by omega) (by omega) (fun i hi => ?_) (fun S3 h3 o3 => yg q Lz d ?_ S3 h3 (o0.trans o3))
            · have := hR i hi
              unfold LRec; rw [b98]; exact this
            · rw [← er]; unfold gAft; rw [if_neg h59, if_pos h51]
          · have hr := hT.rd (f1.trans f2) b14 b21 b19
            refine M_tell_n (n := 6) hr (by omega) (by omega) (fun S3 h3 o3 => yb k d ?_ S3 h3 ((o0.trans (f1.trans f2).offC).trans o3))
            rw [← er]; unfold gAft; rw [if_neg h59, if_neg h51]
    refine m_beginText (od := false) hT hV rfl (fun S1 f1 h1 => ?_)
    refine m_lawcl h1 (by omega) (by omega) (by omega) (fun _ k' p' z hz S2 N2 c2 f2 h2 hr2 hc2 hN2 => ?_) (fun x hx S2 f2 h19 h20 => ?_)
    · obtain ⟨b1, b2, b3⟩ := (gClause_ok (od := false) (k := 0) hA (by omega) (by omega)).2 k' p' z hz
      refine ⟨13, main 11 1 k' p' N2 c2 (updZ L0z 0 z) S2 rfl (by omega) (f1.trans f2.toM) h2 ?_ b2 b3 ?_⟩
      · intro i hi
        have : i = 0 := by omega
        subst this
        exact hr2
      · rw [gText_s, hz]
    · refine ⟨1, ?_⟩
      rw [f_X11_law_37_n]
      refine ite_n (by rw [h20]; decide) (e64 S2 x (f1.trans f2.toM) h20 h19 ?_)
      rw [gText_s]
      rcases hx with ⟨hx, _⟩ | ⟨_, hx⟩
      · omega
      · rw [hx]
end
