/-! law: the reference. -/
def toLw (q : Nat) (L : Nat → Cz) : Lw := (q, fun i => ((L i).1, (L i).2.2.2.2.getD (fun _ => some 1), (L i).2.2.1.getD (fun _ => none)))
def L0z : Nat → Cz := fun _ => (0, 1, none, none, none)
/-- what reading a text changes of the reference -/
def FrM (B S : St) : Prop := S.2.2 = B.2.2 ∧ (∀ i, i ≠ 87 → (i < 98 ∨ 102 < i) → i ≠ 119 → S.1 i = B.1 i) ∧ (∀ i, i ≠ 87 → S.2.1 i = B.2.1 i) ∧ (∀ j, j ≠ 14 → j ≠ 15 → j ≠ 16 → j ≠ 17 → j ≠ 19 → j ≠ 20 → j ≠ 21 → j ≠ 22 → j ≠ 24 → j ≠ 27 → j ≠ 30 → j ≠ 31 → S.1 87 j = B.1 87 j) ∧ (∀ j, j ≠ 18 → S.2.1 87 j = B.2.1 87 j)
theorem FrM.refl (B : St) : FrM B B := ⟨rfl, fun _ _ _ _ => rfl, fun _ _ => rfl, fun _ _ _ _ _ _ _ _ _ _ _ _ _ => rfl, fun _ _ => rfl⟩
theorem FrM.trans {S S' S'' : St} (h : FrM S S') (h' : FrM S' S'') : FrM S S'' :=
  ⟨h'.1.trans h.1, fun i a b c => (h'.2.1 i a b c).trans (h.2.1 i a b c), fun i a => (h'.2.2.1 i a).trans (h.2.2.1 i a), fun j a b c d e f g i k l m n => (h'.2.2.2.1 j a b c d e f g i k l m n).trans (h.2.2.2.1 j a b c d e f g i k l m n), fun j a => (h'.2.2.2.2 j a).trans (h.2.2.2.2 j a)⟩
theorem FrL.toM {B S : St} {n : Nat} (h : FrL n B S) : FrM B S := ⟨h.1, h.2.1, h.2.2.1, fun j a b c d e f g i k l m n => h.2.2.2.1 j b c d e f i k l m n, h.2.2.2.2.1⟩
theorem FrM.u {B S : St} {j : Nat} {v : Int32} (h : FrM B S) (hj : j = 14 ∨ j = 15 ∨ j = 16 ∨ j = 17 ∨ j = 19 ∨ j = 20 ∨ j = 21 ∨ j = 22 ∨ j = 24 ∨ j = 27) : FrM B (uI S 87 j v) :=
  h.trans ⟨rfl, fun i a _ _ => uI_n _ _ _ _ a, fun _ _ => rfl, fun i a b c d e f g k l m n o => uI_p _ _ _ _ (by omega), fun _ _ => rfl⟩
theorem FrN.toM {B S : St} (h : FrN B S) : FrM B S := h.toE.toL (n := 0) |>.toM
theorem FrM.offC {B S : St} (h : FrM B S) : OffC B S := ⟨h.1, fun i hi => ⟨h.2.1 i (by omega) (by omega) (by omega), h.2.2.1 i (by omega)⟩⟩
section
variable {G : Gm} {S S' : St} {a m : Rw} {L : Nat → Lw} {I : Im} {un tn : Nat} {u : Un} {T : Nat → Nat} {fl : Nat → Int32} {Q : Int32 → St → Prop} {K : St → Prop} {od : Bool} {n k p N q : Nat} {c : Cd} {Lz : Nat → Cz}
theorem Ref.rd {v : Int32} (h : Ref G S a L I un u T tn fl m) (f : FrM S S') (h14 : S'.1 87 14 = 0) (h21 : S'.1 87 21 = 0) (h19 : S'.1 87 19 = v) : Ref G S' a L I un u T 0 (upF fl 3 v) m := by
  obtain ⟨⟨h1, h2, h3, h4, h5⟩, h6, h7, h8, h9, h10, h11⟩ := h
  have r : ∀ i, i ≠ 87 → (i < 98 ∨ 102 < i) → i ≠ 119 → S'.1 i = S.1 i := f.2.1
  have p : ∀ j, j = 1 ∨ j = 9 ∨ j = 12 ∨ j = 55 ∨ j = 59 → S'.1 87 j = S.1 87 j := fun j hj => f.2.2.2.1 j (by omega) (by omega) (by omega) (by omega) (by omega) (by omega) (by omega) (by omega) (by omega) (by omega) (by omega) (by omega)
  refine ⟨⟨by rw [f.1]; exact h1, by rw [r 90 (by omega) (by omega) (by omega)]; exact h2, by rw [r 89 (by omega) (by omega) (by omega)]; exact h3, by rw [r 90 (by omega) (by omega) (by omega)]; exact h4, h21⟩, ?_, ?_, ?_, ?_, ?_, ?_⟩
  · unfold ImgR; rw [r 92 (by omega) (by omega) (by omega), r 91 (by omega) (by omega) (by omega)]; exact h6
  · unfold UnR; rw [p 9 (by omega), r 94 (by omega) (by omega) (by omega), r 93 (by omega) (by omega) (by omega)]; exact h7
  · exact ⟨h14, fun i hi => absurd hi (by omega)⟩
  · obtain ⟨g0, g1, g2, g3, g4⟩ := h9
    refine ⟨?_, ?_, ?_, ?_, fun k hk => ?_⟩
    · rw [p 1 (by omega)]; unfold upF; rw [if_neg (by omega)]; exact g0
    · rw [p 12 (by omega)]; unfold upF; rw [if_neg (by omega)]; exact g1
    · rw [p 55 (by omega)]; unfold upF; rw [if_neg (by omega)]; exact g2
    · unfold upF; rw [if_pos rfl]; exact h19
    · rw [r 88 (by omega) (by omega) (by omega)]; unfold upF; rw [if_neg (by omega)]; exact g4 k hk
  · unfold MonR; rw [p 59 (by omega), r 120 (by omega) (by omega) (by omega)]; exact h10
  · unfold CoR; rw [f.2.2.1 103 (by omega), f.2.2.1 104 (by omega), f.2.2.1 105 (by omega), f.2.2.1 118 (by omega)]; exact h11
theorem Ref.tp (h : Ref G S a L I un u T tn fl m) (hV : Vld a I un u T tn m) : TpR G S T tn := ⟨h.1.1, h.2.2.2.1.1, h.2.2.2.1.2, hV.2.2.2.2.1, hV.2.2.2.2.2.1⟩
theorem m_beginText (h : Ref G S a L I un u T tn fl m) (hV : Vld a I un u T tn m) {v : Int32} (hv : v = (if od = true then 1 else 0)) (z : ∀ S', FrM S S' → RTx G T tn od 0 0 0 0 (fun _ => (0, 0)) S' → K S') : f_X11_beginText G 87 v K S := by
  refine ⟨?_, nm_e ?_⟩
  · rw [hv]; split
    · exact .inr rfl
    · exact .inl rfl
  have tp := h.tp hV
  have tp1 : TpR G (uI S 87 21 v) T tn := ⟨tp.1, by rw [uI_s, if_neg (by omega)]; exact tp.2.1, by rw [uI_n _ _ _ _ (by omega)]; exact tp.2.2.1, tp.2.2.2⟩
  refine m_begin tp1 (fun S1 r1 f1 => nm_e (nm_e (nm_e (z _ ?_ ?_))))
  · exact ((((((((FrM.refl S).u (by omega)).u (by omega)).u (by omega)).u (by omega)).trans f1.toM).u (by omega)).u (by omega)).u (by omega)
  · have g : ∀ j, j ≠ 15 → j ≠ 16 → j ≠ 17 → j ≠ 19 → j ≠ 20 → j ≠ 21 → j ≠ 22 → j ≠ 24 → j ≠ 27 → (uI (uI (uI S1 87 22 0) 87 24 0) 87 27 0).1 87 j = S.1 87 j := by
      intro j a b c d e f g h i
      rw [uI_p _ _ _ _ i, uI_p _ _ _ _ h, uI_p _ _ _ _ g, f1.2.2.1 j a b c, uI_p _ _ _ _ d, uI_p _ _ _ _ e, uI_p _ _ _ _ b, uI_p _ _ _ _ f]
    have gi : ∀ i, i ≠ 87 → (uI (uI (uI S1 87 22 0) 87 24 0) 87 27 0).1 i = S.1 i := by
      intro i hi
      rw [uI_n _ _ _ _ hi, uI_n _ _ _ _ hi, uI_n _ _ _ _ hi, (f1.2.1 i hi).1, uI_n _ _ _ _ hi, uI_n _ _ _ _ hi, uI_n _ _ _ _ hi, uI_n _ _ _ _ hi]
    have gk : ∀ j, j ≠ 22 → j ≠ 24 → j ≠ 27 → (uI (uI (uI S1 87 22 0) 87 24 0) 87 27 0).1 87 j = S1.1 87 j := by
      intro j a b c
      rw [uI_p _ _ _ _ c, uI_p _ _ _ _ b, uI_p _ _ _ _ a]
    have R1 : S1.2.2 = S.2.2 := f1.1
    refine ⟨⟨by show ShR G S1.2.2; rw [R1]; exact tp.1, by rw [g 14 (by omega) (by omega) (by omega) (by omega) (by omega) (by omega) (by omega) (by omega) (by omega)]; exact tp.2.1, by rw [gi 97 (by omega)]; exact tp.2.2.1, tp.2.2.2⟩, ?_, ?_, ?_, FrE.refl _, ⟨?_, ?_, ?_⟩, ?_, ?_, ?_, ?_, fun i hi => absurd hi (by omega), by omega⟩
    · rw [gk 21 (by omega) (by omega) (by omega), f1.2.2.1 21 (by omega) (by omega) (by omega), uI_p _ _ _ _ (by omega), uI_p _ _ _ _ (by omega), uI_p _ _ _ _ (by omega), uI_s, if_pos rfl]; exact hv
    · have := h.2.2.2.2.2.2
      show CoR S1
      unfold CoR
      rw [(f1.2.1 103 (by omega)).2, (f1.2.1 104 (by omega)).2, (f1.2.1 105 (by omega)).2, (f1.2.1 118 (by omega)).2]
      exact this
    · rw [uI_p _ _ _ _ (by omega), uI_p _ _ _ _ (by omega), uI_s, if_pos rfl]; rfl
    · rw [gk 15 (by omega) (by omega) (by omega)]; exact r1.1
    · rw [gk 16 (by omega) (by omega) (by omega)]; exact r1.2.1
    · rw [gk 17 (by omega) (by omega) (by omega)]; exact r1.2.2
    · rw [gk 19 (by omega) (by omega) (by omega), f1.2.2.1 19 (by omega) (by omega) (by omega), uI_s, if_pos rfl]
    · rw [gk 20 (by omega) (by omega) (by omega), f1.2.2.1 20 (by omega) (by omega) (by omega), uI_p _ _ _ _ (by omega), uI_s, if_pos rfl]
    · rw [uI_p _ _ _ _ (by omega), uI_s, if_pos rfl]; rfl
    · rw [uI_s, if_pos rfl]; rfl
theorem tok51 {t v : Nat} {so : Int32} {w : Int64} (h : TokW t v so w) : so = 0 ↔ t = 51 := by
  rcases h with ⟨h1, h2⟩ | ⟨h1, h2, _⟩ | ⟨h1, h2, _⟩ | ⟨h1, h2, _⟩ | ⟨h1, h2, h3, _⟩
  · exact ⟨fun _ => h1, fun _ => h2⟩
  · rw [h2]; exact ⟨fun h => absurd h (by decide), fun h => by omega⟩
  · rw [h2]; exact ⟨fun h => absurd h (by decide), fun h => by omega⟩
  · rw [h2]; exact ⟨fun h => absurd h (by decide), fun h => by omega⟩
  · rw [h3]; exact ⟨fun h => absurd h (by decide), fun h => by omega⟩
theorem m_endB {x : Int32} (h19 : S.1 87 19 = x) (h20 : S.1 87 20 = 1) (z : ∀ S', FrM S S' → S'.1 87 14 = 0 → S'.1 87 21 = 0 → S'.1 87 19 = x → S'.1 87 20 = 1 → K S') : f_X11_endText G 87 K S := by
  refine ite_n (by rw [h20]; decide) (nm_e (nm_e (z _ (((FrM.refl S).u (by omega)).u (by omega)) ?_ ?_ ?_ ?_)))
  · rw [uI_s, if_pos rfl]
  · rw [uI_s, if_neg (by omega), uI_s, if_pos rfl]
  · rw [uI_s, if_neg (by omega), uI_s, if_neg (by omega)]; exact h19
  · rw [uI_s, if_neg (by omega), uI_s, if_neg (by omega)]; exact h20
theorem m_end (h : RTx G T tn od n k p N c S) (y : tkT T tn k = 51 → ∀ S', FrM S S' → S'.1 87 14 = 0 → S'.1 87 21 = 0 → S'.1 87 19 = -1 → S'.1 87 20 = 0 → S'.1 87 22 = nI n → S'.1 87 24 = nI N → CdR S' od N c → S'.1 98 = S.1 98 → S'.1 119 = S.1 119 → K S') (e : ¬ tkT T tn k = 51 → ∀ S', FrM S S' → S'.1 87 14 = 0 → S'.1 87 21 = 0 → S'.1 87 19 = nI (stT T tn k) → S'.1 87 20 = 1 → K S') : f_X11_endText G 87 K S := by
  obtain ⟨h1, h2, h3, h4, _, h5, h6, h7, h8, h9, h10, h11⟩ := id h
  refine ite_y h7 (ite_c (fun d => ?_) (fun d => ?_))
  · rw [tok51 h5.2.2] at d
    refine nm_e (nm_e (y d _ (((FrM.refl S).u (by omega)).u (by omega)) ?_ ?_ ?_ ?_ ?_ ?_ ?_ ?_ ?_))
    · rw [uI_s, if_pos rfl]
    · rw [uI_s, if_neg (by omega), uI_s, if_pos rfl]
    · rw [uI_s, if_neg (by omega), uI_s, if_neg (by omega)]; exact h6
    · rw [uI_s, if_neg (by omega), uI_s, if_neg (by omega)]; exact h7
    · rw [uI_s, if_neg (by omega), uI_s, if_neg (by omega)]; exact h4
    · rw [uI_s, if_neg (by omega), uI_s, if_neg (by omega)]; exact h8
    · exact h10.ag (by rw [uI_n _ _ _ _ (by omega), uI_n _ _ _ _ (by omega)]) (by rw [uI_n _ _ _ _ (by omega), uI_n _ _ _ _ (by omega)])
    · rw [uI_n _ _ _ _ (by omega), uI_n _ _ _ _ (by omega)]
    · rw [uI_n _ _ _ _ (by omega), uI_n _ _ _ _ (by omega)]
  · rw [tok51 h5.2.2] at d
    refine h.must_n (fun S1 f1 a19 a20 => nm_e (nm_e (e d _ ((f1.toM.u (by omega)).u (by omega)) ?_ ?_ ?_ ?_)))
    · rw [uI_s, if_pos rfl]
    · rw [uI_s, if_neg (by omega), uI_s, if_pos rfl]
    · rw [uI_s, if_neg (by omega), uI_s, if_neg (by omega)]; exact a19
    · rw [uI_s, if_neg (by omega), uI_s, if_neg (by omega)]; exact a20
/-- the row with one more law -/
theorem m_lawrow {nl w : Nat} {f0 : Nat → Int32} (hw : w = 85 + 900 * nl) (hnl : nl < 6) (hq : q ≤ 12) (hN : N ≤ 400) (z : ∀ S', S'.2 = S.2 → (∀ i, i ≠ 90 → S'.1 i = S.1 i) → (∀ i, i ≤ w + 1 → S'.1 90 i = S.1 90 i) → (∀ j, j < 8 * q → S'.1 90 (w + 2 + j) = S.1 98 j) → (∀ j, j < N → S'.1 90 (w + 98 + 2 * j) = S.1 99 j ∧ S'.1 90 (w + 98 + 2 * j + 1) = S.1 100 j) → (∀ i, w + 900 ≤ i → S'.1 90 i = S.1 90 i) → (∃ a2, S'.2.2 87 4 = some a2 ∧ (vp_in 2 (G.2.1 a2) ∧ (vp_in 2 (G.2.1 a2) ∧ ∀ S5, S5 = uI S' a2 (2 : Int32).toNatClampNeg ((S'.1 a2 (2 : Int32).toNatClampNeg) + 1) → (∃ a6, S5.2.2 87 4 = some a6 ∧ (vp_in 2 (G.2.1 a6) ∧ f_X11_tell G 87 ((S5.1 a6 (2 : Int32).toNatClampNeg) - 1) (fun r9 S8 => Q r9 S8) S5)))))) (hS : ShR G S.2.2) (h22 : S.1 87 22 = nI q) (h24 : S.1 87 24 = nI N) : f_X11_law_110 G 87 (nI w) Q 0 S := by
  have hw2 : w + 898 ≤ 5485 := by omega
  have l145 : ∀ x j S1, j + x = N → S1.2 = S.2 → (∀ i, i ≠ 90 → S1.1 i = S.1 i) → (∀ i, i ≤ w + 1 → S1.1 90 i = S.1 90 i) → (∀ i, i < 8 * q → S1.1 90 (w + 2 + i) = S.1 98 i) → (∀ i, i < j → S1.1 90 (w + 98 + 2 * i) = S.1 99 i ∧ S1.1 90 (w + 98 + 2 * i + 1) = S.1 100 i) → (∀ i, w + 900 ≤ i → S1.1 90 i = S.1 90 i) → f_X11_law_145_n G 87 (nI w) Q (x + 1) (nI j) S1 := by
    intro x
    induction x with
    | zero =>
      intro j S1 hj e2 e1 elo e98 ec ehi
      rw [f_X11_law_145_n]
      refine ite_y (by rw [e1 87 (by omega), h24, leI (by omega) (by omega)]; omega) (z S1 e2 e1 elo e98 (fun i hi => ec i (by omega)) ehi)
    | succ x ih =>
      intro j S1 hj e2 e1 elo e98 ec ehi
      have R1 : S1.2.2 = S.2.2 := by rw [e2]
      have ww := ih (j + 1)
      rw [f_X11_law_145_n]
      generalize f_X11_law_145_n G 87 (nI w) Q (x + 1) = W at ww ⊢
      refine ite_n (by rw [e1 87 (by omega), h24, leI (by omega) (by omega)]; omega) (ex_y (by rw [R1]; exact hS.row) (ex_y (by rw [R1]; exact hS.nOp) ?_))
      rw [show (98 : Int32) = nI 98 from rfl, show (2 : Int32) = nI 2 from rfl, nI_add, pk_mul, nI_add, hS.nOp_l, hS.row_l, in_iff (by omega), in_iff (by omega), clI (by omega), clI (by omega), e1 99 (by omega)]
      refine ⟨by omega, by omega, nm_e (ex_y (by show S1.2.2 87 4 = _; rw [R1]; exact hS.row) (ex_y (by show S1.2.2 87 26 = _; rw [R1]; exact hS.nArg) ?_))⟩
      rw [show nI (w + 98 + 2 * j) + 1 = nI (w + 98 + 2 * j + 1) from nI_1 _, hS.nArg_l, hS.row_l, in_iff (by omega), in_iff (by omega), clI (by omega), uI_n _ 90 _ _ (show (100 : Nat) ≠ 90 from by omega), e1 100 (by omega), nI_1]
      refine ⟨by omega, by omega, nm_e (ww _ (by omega) e2 (fun i hi => ?_) (fun i hi => ?_) (fun i hi => ?_) (fun i hi => ?_) (fun i hi => ?_))⟩
      · rw [uI_n _ _ _ _ hi, uI_n _ _ _ _ hi]; exact e1 i hi
      · rw [uI_s, if_neg (by omega), uI_s, if_neg (by omega)]; exact elo i hi
      · rw [uI_s, if_neg (by omega), uI_s, if_neg (by omega)]; exact e98 i hi
      · by_cases ei : i = j
        · subst ei
          refine ⟨?_, ?_⟩
          · rw [uI_s, if_neg (by omega), uI_s, if_pos rfl]
          · rw [uI_s, if_pos rfl]
        · obtain ⟨c1, c2⟩ := ec i (by omega)
          refine ⟨?_, ?_⟩
          · rw [uI_s, if_neg (by omega), uI_s, if_neg (by omega)]; exact c1
          · rw [uI_s, if_neg (by omega), uI_s, if_neg (by omega)]; exact c2
      · rw [uI_s, if_neg (by omega), uI_s, if_neg (by omega)]; exact ehi i hi
  have l110 : ∀ x j S1, j + x = 8 * q → S1.2 = S.2 → (∀ i, i ≠ 90 → S1.1 i = S.1 i) → (∀ i, i ≤ w + 1 → S1.1 90 i = S.1 90 i) → (∀ i, i < j → S1.1 90 (w + 2 + i) = S.1 98 i) → (∀ i, w + 98 ≤ i → S1.1 90 i = S.1 90 i) → f_X11_law_110_n G 87 (nI w) Q (x + 1) (nI j) S1 := by
    intro x
    induction x with
    | zero =>
      intro j S1 hj e2 e1 elo e98 ehi
      rw [f_X11_law_110_n]
      refine ite_y (by rw [e1 87 (by omega), h22, show (8 : Int32) = nI 8 from rfl, pk_mul, leI (by omega) (by omega)]; omega) ⟨N + 1, ?_⟩
      exact l145 N 0 S1 (by omega) e2 e1 elo (fun i hi => e98 i (by omega)) (fun i hi => absurd hi (by omega)) (fun i hi => ehi i (by omega))
    | succ x ih =>
      intro j S1 hj e2 e1 elo e98 ehi
      have R1 : S1.2.2 = S.2.2 := by rw [e2]
      have ww := ih (j + 1)
      rw [f_X11_law_110_n]
      generalize f_X11_law_110_n G 87 (nI w) Q (x + 1) = W at ww ⊢
      refine ite_n (by rw [e1 87 (by omega), h22, show (8 : Int32) = nI 8 from rfl, pk_mul, leI (by omega) (by omega)]; omega) (ex_y (by rw [R1]; exact hS.row) (ex_y (by rw [R1]; exact hS.nClause) ?_))
      rw [show (2 : Int32) = nI 2 from rfl, nI_add, nI_add, hS.nClause_l, hS.row_l, in_iff (by omega), in_iff (by omega), clI (by omega), clI (by omega), e1 98 (by omega), nI_1]
      refine ⟨by omega, by omega, nm_e (ww _ (by omega) e2 (fun i hi => ?_) (fun i hi => ?_) (fun i hi => ?_) (fun i hi => ?_))⟩
      · rw [uI_n _ _ _ _ hi]; exact e1 i hi
      · rw [uI_s, if_neg (by omega)]; exact elo i hi
      · by_cases ei : i = j
        · subst ei
          rw [uI_s, if_pos rfl]
        · rw [uI_s, if_neg (by omega)]; exact e98 i (by omega)
      · rw [uI_s, if_neg (by omega)]; exact ehi i hi
  exact ⟨8 * q + 1, l110 (8 * q) 0 S (by omega) rfl (fun _ _ => rfl) (fun _ _ => rfl) (fun i hi => absurd hi (by omega)) (fun _ _ => rfl)⟩
end
