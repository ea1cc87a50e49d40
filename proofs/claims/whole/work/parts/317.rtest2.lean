/-! The reference reads tests: nots, brackets, and, or; whole expressions. -/
section
variable {G : Gm} {B S S' : St} {tk ts te tv : Nat → Nat} {tc : Nat} {od : Bool} {Q : Int32 → St → Prop} {K : St → Prop} {k p N : Nat} {c : Cd} {pl : List (Nat × Nat)} {v1 : Int32} {so : Option (Nat → Nat → Ex)}
theorem gNot_t {sub : Nat → Nat → Ex} : ∀ n (b : Bool) k p, gNot tk sub n (!b) k p = match gNot tk sub n b k p with | .inl q => (.inl q : Ex) | .inr (k', p', f) => .inr (k', p', notF f) := by
  have base : ∀ (b : Bool) k p, (match sub k p with | .inl q => (.inl q : Ex) | .inr (k', p', f) => .inr (k', p', if (!b) = true then notF f else f)) = match (match sub k p with | .inl q => (.inl q : Ex) | .inr (k', p', f) => .inr (k', p', if b = true then notF f else f)) with | .inl q => (.inl q : Ex) | .inr (k', p', f) => .inr (k', p', notF f) := by
    intro b k p
    cases sub k p with
    | inl q => rfl
    | inr r =>
      obtain ⟨k1, p1, f⟩ := r
      cases b with
      | false => rfl
      | true =>
        simp only [Bool.not_true, if_true]
        rw [notF2]; rfl
  intro n
  induction n with
  | zero => intro b k p; exact base b k p
  | succ n ih =>
    intro b k p
    unfold gNot
    by_cases h : tk k = 15
    · rw [if_pos h, if_pos h]; exact ih (!b) (k + 1) p
    · rw [if_neg h, if_neg h]; exact base b k p
theorem m_pushN {o : Nat} (hE : EnvR G B tk ts te tv tc od) (h : RSt B tk ts te tv od k p N c pl S) (hk : k < tc) (ho : 2 ≤ o ∧ o ≤ 10) (z : ∀ S', RSt B tk ts te tv od (k + 1) p N c (pl ++ [(o, 0)]) S' → K S') : f_X11_push G 87 (nI (po o)) 0 (fun S17 => f_X11_next G 87 (fun S18 => K S18) S17) S := by
  have t4 := hE.2.1.1
  have len2 := h.2.2.2.2.2.2.2.2.2.2.1
  have em2 := h.2.2.2.2.2.2.2.2.2.2.2
  refine m_push (x := 0) hE h (by omega) (by omega) (fun S2 a1 a2 a3 a4 a5 a6 a7 a8 a9 => ?_)
  refine hE.2.2.2.2 S2 k _ a1 hk a2 (fun S3 b1 f3 => z S3 ?_)
  have bO : brk (pl ++ [(o, 0)]) = brk pl := by
    rw [brk_app]
    have : brk [(o, 0)] = 0 := by unfold brk; rw [if_neg (by show ¬ 13 ≤ o; omega)]; rfl
    rw [this]; rfl
  refine ⟨a1.trans f3.toE, b1, ?_, ?_, ?_, ?_, a7.ag (f3.2.1 99 (by omega)).1 (f3.2.1 100 (by omega)).1, a8.ag (f3.2.2.1 30 (by omega) (by omega) (by omega)) (f3.2.1 101 (by omega)).1 (f3.2.1 102 (by omega)).1, ?_, ?_, ?_, ?_⟩
  · rw [f3.2.2.1 19 (by omega) (by omega) (by omega)]; exact a3
  · rw [f3.2.2.1 20 (by omega) (by omega) (by omega)]; exact a4
  · rw [f3.2.2.1 24 (by omega) (by omega) (by omega)]; exact a5
  · rw [f3.2.2.1 27 (by omega) (by omega) (by omega)]; exact a6
  · rw [f3.2.2.1 31 (by omega) (by omega) (by omega), a9, bO]
  · intro x hx
    rw [List.mem_append, List.mem_singleton] at hx
    rcases hx with hx | rfl
    · exact h.2.2.2.2.2.2.2.2.2.1 x hx
    · exact ⟨ho.1, by show o ≤ 14; omega, fun h => by have : o = 11 ∨ o = 12 := h; omega⟩
  · rw [List.length_append, List.length_singleton]; omega
  · rw [emN_app]
    have : emN [(o, 0)] = 1 := by unfold emN; rw [if_pos (by show o ≤ 10; omega)]; rfl
    omega
/-- push, emit, next: and, or -/
theorem m_pushE {o : Nat} (hE : EnvR G B tk ts te tv tc od) (h : RSt B tk ts te tv od k p N c pl S) (hk : k < tc) (ho : o = 11 ∨ o = 12) (z : ∀ S', RSt B tk ts te tv od (k + 1) p (N + 1) (updC c N (o, 0)) (pl ++ [(o, N)]) S' → K S') : f_X11_push G 87 (nI (po o)) (nI N) (fun S1 => f_X11_emit G 87 (nI (po o)) 0 (fun S2 => f_X11_next G 87 (fun S18 => K S18) S2) S1) S := by
  have t4 := hE.2.1.1
  have len2 := h.2.2.2.2.2.2.2.2.2.2.1
  have em2 := h.2.2.2.2.2.2.2.2.2.2.2
  refine m_push (x := N) hE h (by omega) (by omega) (fun S1 a1 a2 a3 a4 a5 a6 a7 a8 a9 => ?_)
  have hS : ShR G S1.2.2 := by rw [a1.1]; exact hE.1
  unfold f_X11_emit
  refine ex_y hS.nOp ?_
  rw [a5, hS.nOp_l, in_iff (by omega), clI (by omega)]
  refine ⟨by omega, nm_e (ex_y (by exact hS.nArg) ?_)⟩
  rw [show (uI S1 99 N (nI (po o))).1 87 24 = nI N from by rw [uI_n _ _ _ _ (by omega)]; exact a5, hS.nArg_l, in_iff (by omega), clI (by omega)]
  refine ⟨by omega, nm_e (nm_e ?_)⟩
  rw [show (uI (uI S1 99 N (nI (po o))) 100 N 0).1 87 24 = nI N from by rw [uI_n _ _ _ _ (by omega), uI_n _ _ _ _ (by omega)]; exact a5]
  have q : ∀ j, j ≠ 24 → (uI (uI (uI S1 99 N (nI (po o))) 100 N 0) 87 24 (nI N + 1)).1 87 j = S1.1 87 j := by
    intro j hj
    rw [uI_p _ _ _ _ hj, uI_n _ _ _ _ (by omega), uI_n _ _ _ _ (by omega)]
  have q2 : ∀ i, i ≠ 87 → i ≠ 99 → i ≠ 100 → (uI (uI (uI S1 99 N (nI (po o))) 100 N 0) 87 24 (nI N + 1)).1 i = S1.1 i := by
    intro i a b c
    rw [uI_n _ _ _ _ a, uI_n _ _ _ _ c, uI_n _ _ _ _ b]
  have fE : FrE B (uI (uI (uI S1 99 N (nI (po o))) 100 N 0) 87 24 (nI N + 1)) := ((a1.ua (by omega)).ua (by omega)).u87 (by omega)
  have r24 : (uI (uI (uI S1 99 N (nI (po o))) 100 N 0) 87 24 (nI N + 1)).1 87 24 = nI (N + 1) := by rw [uI_s, if_pos rfl, nI_1]
  have rcd : CdR (uI (uI (uI S1 99 N (nI (po o))) 100 N 0) 87 24 (nI N + 1)) od (N + 1) (updC c N (o, 0)) := by
    intro i hi
    have r1 : (uI (uI (uI S1 99 N (nI (po o))) 100 N 0) 87 24 (nI N + 1)).1 99 i = if i = N then nI (po o) else S1.1 99 i := by
      rw [uI_n _ 87 _ _ (by omega), uI_n _ 100 _ _ (by omega), uI_s]
    have r2 : (uI (uI (uI S1 99 N (nI (po o))) 100 N 0) 87 24 (nI N + 1)).1 100 i = if i = N then 0 else S1.1 100 i := by
      rw [uI_n _ 87 _ _ (by omega), uI_s, uI_n _ 99 _ _ (by omega)]
    rw [r1, r2]
    by_cases e : i = N
    · subst e
      rw [if_pos rfl, if_pos rfl, updC_s, opR_po (x := (o, 0)) (by show 2 ≤ o ∧ o ≤ 12; omega), agR_0 (by omega)]
      exact ⟨rfl, rfl⟩
    · rw [if_neg e, if_neg e, updC_n e]
      exact a7 i (by omega)
  have rt : RT tk ts te tv k (uI (uI (uI S1 99 N (nI (po o))) 100 N 0) 87 24 (nI N + 1)) := by
    unfold RT; rw [q 15 (by omega), q 16 (by omega), q 17 (by omega)]; exact a2
  have rpl := a8.ag (S' := uI (uI (uI S1 99 N (nI (po o))) 100 N 0) 87 24 (nI N + 1)) (q 30 (by omega)) (q2 101 (by omega) (by omega) (by omega)) (q2 102 (by omega) (by omega) (by omega))
  have r19 := (q 19 (by omega)).trans a3
  have r20 := (q 20 (by omega)).trans a4
  have r27 := (q 27 (by omega)).trans a6
  have r31 := (q 31 (by omega)).trans a9
  generalize uI (uI (uI S1 99 N (nI (po o))) 100 N 0) 87 24 (nI N + 1) = S2 at fE r24 rcd rt rpl r19 r20 r27 r31 ⊢
  refine hE.2.2.2.2 S2 k _ fE hk rt (fun S3 b1 f3 => z S3 ?_)
  have bO : brk (pl ++ [(o, N)]) = brk pl := by
    rw [brk_app]
    have : brk [(o, N)] = 0 := by unfold brk; rw [if_neg (by show ¬ 13 ≤ o; omega)]; rfl
    rw [this]; rfl
  refine ⟨fE.trans f3.toE, b1, ?_, ?_, ?_, ?_, rcd.ag (f3.2.1 99 (by omega)).1 (f3.2.1 100 (by omega)).1, rpl.ag (f3.2.2.1 30 (by omega) (by omega) (by omega)) (f3.2.1 101 (by omega)).1 (f3.2.1 102 (by omega)).1, ?_, ?_, ?_, ?_⟩
  · rw [f3.2.2.1 19 (by omega) (by omega) (by omega)]; exact r19
  · rw [f3.2.2.1 20 (by omega) (by omega) (by omega)]; exact r20
  · rw [f3.2.2.1 24 (by omega) (by omega) (by omega)]; exact r24
  · rw [f3.2.2.1 27 (by omega) (by omega) (by omega)]; exact r27
  · rw [f3.2.2.1 31 (by omega) (by omega) (by omega), r31, bO]
  · intro x hx
    rw [List.mem_append, List.mem_singleton] at hx
    rcases hx with hx | rfl
    · obtain ⟨w1, w2, w3⟩ := h.2.2.2.2.2.2.2.2.2.1 x hx
      exact ⟨w1, w2, fun h => by have := w3 h; omega⟩
    · exact ⟨by show 2 ≤ o; omega, by show o ≤ 14; omega, fun _ => by show N < N + 1; omega⟩
  · rw [List.length_append, List.length_singleton]; omega
  · rw [emN_app]
    have : emN [(o, N)] = 0 := by unfold emN; rw [if_neg (by show ¬ o ≤ 10; omega)]; rfl
    omega
def RSbT (G : Gm) (B : St) (tk ts te tv : Nat → Nat) (tc : Nat) (od : Bool) (v1 : Int32) (K : St → Prop) (hb nb : Nat) (so : Option (Nat → Nat → Ex)) : Prop :=
  (so = none ∧ nb = 0) ∨ ∃ s nb', so = some s ∧ nb = nb' + 1 ∧ gOk tc s ∧ RTm G B tk ts te tv tc od v1 K 1 1 hb nb' (GoZ G v1 K tc) (fun t => opO t = 0 ∧ opN t = 0) s
theorem m_btest (h : RSt B tk ts te tv od k p N c pl S) (y : ∀ o, (tk k = 14 ∧ o = 12) ∨ (tk k = 13 ∧ o = 11) → f_X11_settle G 87 (nI (bn o)) (fun S1 => f_X11_push G 87 (nI (po o)) (S1.1 87 24) (fun S2 => f_X11_emit G 87 (nI (po o)) 0 (fun S3 => f_X11_next G 87 (fun S4 => Q 0 S4) S3) S2) S1) S) (n : ¬ tk k = 14 → ¬ tk k = 13 → f_X11_inner G 87 (fun r8 S7 => (if r8 = (-1) then Q 4 S7 else f_X11_isSign G 87 41 (fun r11 S10 => f_X11_must G 87 r11 (fun S12 => (if (S12.1 87 20) = 0 then f_X11_settle G 87 1 (fun S14 => (∀ S15, S15 = uI S14 87 30 ((S14.1 87 30) - 1) → (∀ S16, S16 = uI S15 87 31 ((S15.1 87 31) - 1) → Q 2 S16))) S12 else Q 2 S12)) S10) S7)) S) : f_X11_behindTest G 87 Q S := by
  refine m_word (t := 14) h (by omega) (fun e => ite_n (by decide) ?_) (fun e => ite_y rfl ?_)
  · exact y 12 (.inl ⟨e, rfl⟩)
  · refine m_word (t := 13) h (by omega) (fun e2 => ite_n (by decide) ?_) (fun e2 => ite_y rfl (n e e2))
    exact y 11 (.inr ⟨e2, rfl⟩)
theorem noO {t : Nat} (ho : opO t = 0) (hn : opN t = 0) : ¬ t = 14 ∧ ¬ t = 13 := by
  unfold opO at ho; unfold opN at hn
  refine ⟨fun h => ?_, fun h => ?_⟩
  · rw [if_pos h] at hn; omega
  · rw [if_pos h] at ho; omega
theorem r_pln (hE : EnvR G B tk ts te tv tc od) {n : Nat} (hs : RSbT G B tk ts te tv tc od v1 K (2 * n + 4) n so) : RTm G B tk ts te tv tc od v1 K 4 4 (2 * n + 4) n (fun k S => ¬ tk k = 15 → GoZ G v1 K tc k S) (fun _ => True) (gPln tk (gSum tk tv od n) so) := by
  intro P k p N c S hk hp hst hbr hcx hS y e h15
  have hA := hE.2.1
  have t4 := hA.1
  refine El.plain hS.2.2.2.1 (fun n1 hn1 => m_word (t := 15) hS (by omega) (fun h => absurd h h15) (fun _ => ite_y rfl ?_))
  refine m_sign (t := 40) hS (by omega) (fun h40 => ite_n (by decide) ?_) (fun h40 => ite_y rfl ?_)
  · have h40 : tk k = 140 := h40
    have hk2 : k < tc := tk_lt hA (by omega)
    have e0 : gPln tk (gSum tk tv od n) so k p = gBr tk 141 so k p := by unfold gPln; rw [if_pos h40]
    refine m_open (o := 13) hE hS hk2 (by omega) (fun hb8 S1 h1 => ?_) (fun hb8 S1 hB => ?_)
    · rcases hs with ⟨hn0, hn2⟩ | ⟨s, nb', hn0, hn2, hok, hsim⟩
      · omega
      · have stP : stopL (P ++ [(13, 0)]) 1 := .inr ⟨P, (13, 0), rfl, by show bn 13 < 1; decide⟩
        have brP : brk (P ++ [(13, 0)]) + nb' = 8 := by
          rw [brk_app]
          have : brk [(13, 0)] = 1 := rfl
          omega
        have iP : inn (P ++ [(13, 0)]) 0 = 13 := by rw [inn_app]; rfl
        refine hsim (P ++ [(13, 0)]) (k + 1) p N c S1 (by omega) hp stP brP ⟨by rw [iP]; omega, fun h => by rw [iP] at h; omega, .inr ⟨P, (13, 0), rfl, by show 10 ≤ 13; omega⟩⟩ h1 ?_ ?_ n1 (by omega)
        · intro k' p' F hg S2 N' c' ps h hS2 hrep hh hbn hc hno
          obtain ⟨b1, b2, b3⟩ := (hok (k + 1) p (by omega) hp).2 k' p' F hg
          obtain ⟨no1, no2⟩ := noO hno.1 hno.2
          refine El.test hS2.2.2.2.1 (fun n2 hn2 => m_btest hS2 (fun o ho => by omega) (fun _ _ => ?_))
          have p12 : ∀ x, x ∈ ps → x.1 ≤ 12 := fun x hx => bn_12 (by have := hbn x hx; omega)
          have iq : inn ((P ++ [(13, 0)]) ++ ps) 0 = 13 := by rw [inn_app, inn_no p12]; exact iP
          refine m_inner hE hS2 (by omega) ?_
          rw [iq]
          refine ite_n (by decide) (m_sign (t := 41) hS2 (by omega) (fun hc93 => ?_) (fun hc93 => ?_))
          · have hc93 : tk k' = 141 := hc93
            have hk3 : k' < tc := tk_lt hA (by omega)
            refine m_must_y hE hS2 hk3 (fun S3 hS3 => ite_y hS3.2.2.2.1 ?_)
            refine m_settle (least := 1) hE hS3 (by omega) (by omega) (by omega) hrep hbn stP (fun S4 N4 c4 hS4 hseg hN4 hc4 => nm_e (nm_e ?_))
            have hcl := hS4.cls (.inl rfl) (by omega)
            refine y (k' + 1) p' F ?_ _ N4 c4 [] h (by rw [List.append_nil]; exact hcl) hseg hh (fun x hx => by cases hx) (fun j hj => (hc4 j hj).trans (hc j hj)) trivial n2 (by omega)
            rw [e0, hn0]; unfold gBr; simp only []; rw [hg]; simp only []; rw [if_pos hc93]
          · have hc93 : ¬ tk k' = 141 := hc93
            refine m_must_n hE hS2 b2 (fun S3 hB h20 => ite_n (by rw [h20]; decide) (m_badEnd hE hB (e k' ?_) (by omega)))
            rw [e0, hn0]; unfold gBr; simp only []; rw [hg]; simp only []; rw [if_neg hc93]
        · intro x hx S2 hRE
          refine e x ?_ S2 hRE
          rw [e0, hn0]; unfold gBr; simp only []; rw [hx]
    · refine m_badEnd hE hB (e k ?_) (by omega)
      rcases hs with ⟨hn0, hn2⟩ | ⟨s, nb', hn0, hn2, hok, hsim⟩
      · rw [e0, hn0]; rfl
      · omega
  · have h40 : ¬ tk k = 140 := h40
    have e0 : gPln tk (gSum tk tv od n) so k p = gCmp tk (gSum tk tv od n) k p := by unfold gPln; rw [if_neg h40]
    exact r_cmp hE n P k p N c S hk hp hst hbr hcx hS (fun k' p' F hg => y k' p' F (e0.trans hg)) (fun x hx => e x (e0.trans hx)) n1 hn1
theorem r_plain (hE : EnvR G B tk ts te tv tc od) {n : Nat} (hs : RSbT G B tk ts te tv tc od v1 K (2 * n + 4) n so) : RTm G B tk ts te tv tc od v1 K 4 3 (2 * n + 4) n (GoZ G v1 K tc) (fun _ => True) (gPlain tk (gSum tk tv od n) so) := by
  have hA := hE.2.1
  have t4 := hA.1
  have main : ∀ m (P : List (Nat × Nat)) (k p N : Nat) (c : Cd) (S : St), tc ≤ k + m → k ≤ tc → p ≤ 50 → stopL P 4 → brk P + n = 8 → (inn P 0 ≠ 14 ∧ (inn P 0 = 0 → ¬ v1 = 0) ∧ (P = [] ∨ ∃ P' y, P = P' ++ [y] ∧ 10 ≤ y.1)) → RSt B tk ts te tv od k p N c P S →
     (∀ k' p' F, gNot tk (gPln tk (gSum tk tv od n) so) m false k p = .inr (k', p', F) → ∀ S' N' c' ps h, RSt B tk ts te tv od k' p' N' c' (P ++ ps) S' → Rep c' (UU od) N' ps 1 N h F → h ≤ 2 * n + 4 → (∀ x, x ∈ ps → 3 ≤ bn x.1) → (∀ j, j < N → c' j = c j) → El G v1 K tc 3 2 k' S') →
     (∀ x, gNot tk (gPln tk (gSum tk tv od n) so) m false k p = .inl x → ∀ S', REn B (ts x) S' → K S') → GoZ G v1 K tc k S := by
    intro m
    have nonot : ∀ m (P : List (Nat × Nat)) (k p N : Nat) (c : Cd) (S : St), ¬ tk k = 15 → k ≤ tc → p ≤ 50 → stopL P 4 → brk P + n = 8 → (inn P 0 ≠ 14 ∧ (inn P 0 = 0 → ¬ v1 = 0) ∧ (P = [] ∨ ∃ P' y, P = P' ++ [y] ∧ 10 ≤ y.1)) → RSt B tk ts te tv od k p N c P S →
     (∀ k' p' F, gNot tk (gPln tk (gSum tk tv od n) so) m false k p = .inr (k', p', F) → ∀ S' N' c' ps h, RSt B tk ts te tv od k' p' N' c' (P ++ ps) S' → Rep c' (UU od) N' ps 1 N h F → h ≤ 2 * n + 4 → (∀ x, x ∈ ps → 3 ≤ bn x.1) → (∀ j, j < N → c' j = c j) → El G v1 K tc 3 2 k' S') →
     (∀ x, gNot tk (gPln tk (gSum tk tv od n) so) m false k p = .inl x → ∀ S', REn B (ts x) S' → K S') → GoZ G v1 K tc k S := by
      intro m P k p N c S h15 hk hp hst hbr hcx hS y e
      have er : gNot tk (gPln tk (gSum tk tv od n) so) m false k p = match gPln tk (gSum tk tv od n) so k p with | .inl q => (.inl q : Ex) | .inr (k', p', f) => .inr (k', p', f) := by
        cases m with
        | zero => rfl
        | succ m => show (if tk k = 15 then _ else _) = _; rw [if_neg h15]; rfl
      refine r_pln hE hs P k p N c S hk hp hst hbr hcx hS ?_ ?_ h15
      · intro k' p' F hg S1 N1 c1 ps h hS1 hrep hh hbn hc _
        exact y k' p' F (by rw [er, hg]) S1 N1 c1 ps h hS1 hrep hh (fun x hx => by have := hbn x hx; omega) hc
      · intro x hx S1 hS1
        exact e x (by rw [er, hx]) S1 hS1
    induction m with
    | zero =>
      intro P k p N c S hm hk hp hst hbr hcx hS y e
      exact nonot 0 P k p N c S (by rw [hA.2.1 k (by omega)]; omega) hk hp hst hbr hcx hS y e
    | succ m ih =>
      intro P k p N c S hm hk hp hst hbr hcx hS y e
      by_cases h15 : tk k = 15
      · have hk2 : k < tc := tk_lt hA (by omega)
        have er : gNot tk (gPln tk (gSum tk tv od n) so) (m + 1) false k p = match gNot tk (gPln tk (gSum tk tv od n) so) m false (k + 1) p with | .inl q => (.inl q : Ex) | .inr (k', p', f) => .inr (k', p', notF f) := by
          show (if tk k = 15 then _ else _) = _
          rw [if_pos h15]; exact gNot_t m false (k + 1) p
        refine El.plain hS.2.2.2.1 (fun n1 hn1 => m_word (t := 15) hS (by omega) (fun _ => ite_n (by decide) ?_) (fun h => absurd h15 h))
        refine m_pushN (o := 10) hE hS hk2 (by omega) (fun S1 hS1 => ?_)
        have bO : brk (P ++ [(10, 0)]) = brk P := by rw [brk_app]; rfl
        have iO : inn (P ++ [(10, 0)]) 0 = inn P 0 := by rw [inn_app]; rfl
        refine ih (P ++ [(10, 0)]) (k + 1) p N c S1 (by omega) (by omega) hp (.inr ⟨P, _, rfl, by show bn 10 < 4; decide⟩) (by rw [bO]; exact hbr) ⟨by rw [iO]; exact hcx.1, by rw [iO]; exact hcx.2.1, .inr ⟨P, _, rfl, by show 10 ≤ 10; omega⟩⟩ hS1 ?_ ?_ n1 (by omega)
        · intro k' p' F hg S2 N2 c2 ps h hS2 hrep hh hbn hc
          refine y k' p' (notF F) (by rw [er, hg]) S2 N2 c2 ((10, 0) :: ps) h ?_ (.inr (.inr (.inl ⟨rfl, rfl, F, hrep, rfl⟩))) hh ?_ hc
          · rw [List.append_assoc] at hS2; exact hS2
          · intro x hx
            rcases List.mem_cons.mp hx with rfl | hx
            · show 3 ≤ bn 10; decide
            · exact hbn x hx
        · intro x hx S2 hS2
          exact e x (by rw [er, hx]) S2 hS2
      · exact nonot (m + 1) P k p N c S h15 hk hp hst hbr hcx hS y e
  intro P k p N c S hk hp hst hbr hcx hS y e
  exact main 400 P k p N c S (by omega) hk hp hst hbr hcx hS (fun k' p' F hg S' N' c' ps h a1 a2 a3 a4 a5 => y k' p' F hg S' N' c' ps h a1 a2 a3 a4 a5 trivial) e
theorem r_loopL (hE : EnvR G B tk ts te tv tc od) {L Lss Lsp hb nb : Nat} {op : Nat → Nat} {st : Nat → Prop} {g : Nat → Nat → Ex} (hL : L < Lss) (hL2 : L ≤ Lsp) (hop : ∀ t, op t ≠ 0 → ((t = 14 ∧ op t = 12) ∨ (t = 13 ∧ op t = 11)) ∧ bn (op t) = L) (h51 : op 51 = 0) (hok : gOk tc g)
    (hs : RTm G B tk ts te tv tc od v1 K Lss Lsp hb nb (GoZ G v1 K tc) st g) :
    ∀ n (P ps : List (Nat × Nat)) (k p N i h : Nat) (c : Cd) (F : Fn) (S : St), tc < k + n → k ≤ tc → p ≤ 50 → stopL P L → brk P + nb = 8 → (inn P 0 ≠ 14 ∧ (inn P 0 = 0 → ¬ v1 = 0) ∧ (P = [] ∨ ∃ P' y, P = P' ++ [y] ∧ 10 ≤ y.1)) → RSt B tk ts te tv od k p N c (P ++ ps) S → Rep c (UU od) N ps 1 i h F → h ≤ hb → (∀ x, x ∈ ps → L ≤ bn x.1) → st (tk k) →
     (∀ k' p' F', gLoop tk op orF g n k p F = .inr (k', p', F') → ∀ S' N' c' ps' h', RSt B tk ts te tv od k' p' N' c' (P ++ ps') S' → Rep c' (UU od) N' ps' 1 i h' F' → h' ≤ hb → (∀ x, x ∈ ps' → L ≤ bn x.1) → (∀ j, j < i → c' j = c j) → (op (tk k') = 0 ∧ st (tk k')) → El G v1 K tc 3 2 k' S') →
     (∀ x, gLoop tk op orF g n k p F = .inl x → ∀ S', REn B (ts x) S' → K S') → El G v1 K tc 3 2 k S := by
  intro n
  have hA := hE.2.1
  have t4 := hA.1
  induction n with
  | zero => intro P ps k p N i h c F S h1; intros; omega
  | succ n ih =>
    intro P ps k p N i h c F S hn hk hp hst hbr hcx hS hrep hh hbn hstk y e
    by_cases h0 : op (tk k) = 0
    · have er : gLoop tk op orF g (n + 1) k p F = .inr (k, p, F) := by unfold gLoop; rw [if_pos h0]
      exact y k p F er S N c ps h hS hrep hh hbn (fun _ _ => rfl) ⟨h0, hstk⟩
    · have hk2 : k < tc := tk_lt hA (fun e => h0 (by rw [e]; exact h51))
      obtain ⟨o1, o4⟩ := hop (tk k) h0
      have ob : op (tk k) = 11 ∨ op (tk k) = 12 := by omega
      refine El.test hS.2.2.2.1 (fun n2 hn2 => m_btest hS (fun o ho => ?_) (fun hn1 hn3 => by omega))
      have eo : o = op (tk k) := by omega
      rw [eo, o4]
      refine m_settle hE hS (by omega) (by rcases ob with h | h <;> rw [h] at o4 <;> have : _ = L := o4 <;> revert this <;> (intro h'; rw [← h']; decide)) (by rcases ob with h | h <;> rw [h] at o4 <;> have : _ = L := o4 <;> revert this <;> (intro h'; rw [← h']; decide)) hrep hbn hst (fun S1 N1 c1 hS1 hseg hN1 hc1 => ?_)
      rw [hS1.2.2.2.2.1]
      refine m_pushE hE hS1 hk2 ob (fun S3 hS3 => ?_)
      have bO : brk (P ++ [(op (tk k), N1)]) = brk P := by
        rw [brk_app]
        have : brk [(op (tk k), N1)] = 0 := by unfold brk; rw [if_neg (by show ¬ 13 ≤ op (tk k); omega)]; rfl
        rw [this]; rfl
      have iO : inn (P ++ [(op (tk k), N1)]) 0 = inn P 0 := by
        rw [inn_app, inn_no (l := [(op (tk k), N1)]) (fun x hx => by rw [List.mem_singleton] at hx; rw [hx]; show op (tk k) ≤ 12; omega)]
      refine hs (P ++ [(op (tk k), N1)]) (k + 1) p (N1 + 1) _ S3 (by omega) hp (.inr ⟨P, _, rfl, by show bn (op (tk k)) < Lss; omega⟩) (by rw [bO]; exact hbr) ⟨by rw [iO]; exact hcx.1, by rw [iO]; exact hcx.2.1, .inr ⟨P, _, rfl, by show 10 ≤ op (tk k); omega⟩⟩ hS3 ?_ ?_ n2 (by omega)
      · intro k' p' F' hg S4 N4 c4 ps4 h4 hS4 hrep4 hh4 hbn4 hc4 hst4
        obtain ⟨d1, d2, d3⟩ := (hok (k + 1) p (by omega) hp).2 k' p' F' hg
        have er : gLoop tk op orF g (n + 1) k p F = gLoop tk op orF g n k' p' (orF (op (tk k)) F F') := by
          show (if op (tk k) = 0 then _ else _) = _
          rw [if_neg h0, hg]
        have l1 := hseg.keep.1
        have s1 : Seg c4 (UU od) 1 i N1 h F := hseg.keep.2 _ _ (fun j x1 x2 => by rw [hc4 j (by omega), updC_n (by omega)]) (fun _ h => h)
        have cN : (c4 N1).1 = op (tk k) := by rw [hc4 N1 (by omega), updC_s]
        refine ih P ((op (tk k), N1) :: ps4) k' p' N4 i (max h h4) c4 (orF (op (tk k)) F F') S4 (by omega) d2 d3 hst hbr hcx ?_ (.inr (.inr (.inr ⟨ob, rfl, h, h4, F, F', s1, cN, hrep4, rfl, rfl⟩))) (by omega) ?_ hst4 ?_ ?_
        · rw [List.append_assoc] at hS4; exact hS4
        · intro x hx
          rcases List.mem_cons.mp hx with rfl | hx
          · show L ≤ bn (op (tk k)); omega
          · have := hbn4 x hx; omega
        · intro k2 p2 F2 h2 S5 N5 c5 ps5 h5 hS5 hrep5 hh5 hbn5 hc5 hst5
          refine y k2 p2 F2 (er.trans h2) S5 N5 c5 ps5 h5 hS5 hrep5 hh5 hbn5 (fun j hj => ?_) hst5
          rw [hc5 j hj, hc4 j (by omega), updC_n (by omega)]; exact hc1 j hj
        · intro x hx S5 hS5
          exact e x (er.trans hx) S5 hS5
      · intro x hx S4 hS4
        refine e x ?_ S4 hS4
        show (if op (tk k) = 0 then _ else _) = _
        rw [if_neg h0, hx]
theorem r_levL (hE : EnvR G B tk ts te tv tc od) {L Lss Lsp hb nb : Nat} {op : Nat → Nat} {st : Nat → Prop} {g : Nat → Nat → Ex} (hL : L < Lss) (hL2 : L ≤ Lsp) (hop : ∀ t, op t ≠ 0 → ((t = 14 ∧ op t = 12) ∨ (t = 13 ∧ op t = 11)) ∧ bn (op t) = L) (h51 : op 51 = 0) (hok : gOk tc g)
    (hs : RTm G B tk ts te tv tc od v1 K Lss Lsp hb nb (GoZ G v1 K tc) st g) : RTm G B tk ts te tv tc od v1 K L L hb nb (GoZ G v1 K tc) (fun t => op t = 0 ∧ st t) (gLv tk op orF g) := by
  intro P k p N c S hk hp hst hbr hcx hS y e
  have t4 := hE.2.1.1
  refine hs P k p N c S hk hp (hst.up (by omega)) hbr hcx hS ?_ ?_
  · intro k' p' F hg S1 N1 c1 ps h hS1 hrep hh hbn hc hst1
    obtain ⟨d1, d2, d3⟩ := (hok k p hk hp).2 k' p' F hg
    have er : gLv tk op orF g k p = gLoop tk op orF g 400 k' p' F := by unfold gLv; rw [hg]
    refine r_loopL hE hL hL2 hop h51 hok hs 400 P ps k' p' N1 N h c1 F S1 (by omega) d2 d3 hst hbr hcx hS1 hrep hh (fun x hx => by have := hbn x hx; omega) hst1 ?_ ?_
    · intro k2 p2 F2 h2 S5 N5 c5 ps5 h5 hS5 hrep5 hh5 hbn5 hc5 hst5
      exact y k2 p2 F2 (er.trans h2) S5 N5 c5 ps5 h5 hS5 hrep5 hh5 hbn5 (fun j hj => (hc5 j hj).trans (hc j hj)) hst5
    · intro x hx S5 hS5
      exact e x (er.trans hx) S5 hS5
  · intro x hx S1 hS1
    refine e x ?_ S1 hS1
    unfold gLv; rw [hx]
theorem opN_b (t : Nat) (h : opN t ≠ 0) : ((t = 14 ∧ opN t = 12) ∨ (t = 13 ∧ opN t = 11)) ∧ bn (opN t) = 2 := by
  unfold opN at h ⊢
  split at h
  · rename_i h1
    rw [if_pos h1]; exact ⟨.inl ⟨h1, rfl⟩, rfl⟩
  · exact absurd rfl h
theorem opO_b (t : Nat) (h : opO t ≠ 0) : ((t = 14 ∧ opO t = 12) ∨ (t = 13 ∧ opO t = 11)) ∧ bn (opO t) = 1 := by
  unfold opO at h ⊢
  split at h
  · rename_i h1
    rw [if_pos h1]; exact ⟨.inr ⟨h1, rfl⟩, rfl⟩
  · exact absurd rfl h
theorem RSbT.ok {hb nb : Nat} (hs : RSbT G B tk ts te tv tc od v1 K hb nb so) : gOkO tc so := by
  intro s hs'
  rcases hs with ⟨h, _⟩ | ⟨s2, _, h, _, h2, _⟩
  · rw [h] at hs'; cases hs'
  · rw [h] at hs'; cases hs'; exact h2
theorem r_test1 (hE : EnvR G B tk ts te tv tc od) {n : Nat} (hs : RSbT G B tk ts te tv tc od v1 K (2 * n + 4) n so) : RTm G B tk ts te tv tc od v1 K 1 1 (2 * n + 4) n (GoZ G v1 K tc) (fun t => opO t = 0 ∧ opN t = 0) (gTest1 tk (gSum tk tv od n) so) := by
  have okS := gSum_ok (od := od) hE.2.1 n
  have h1 := r_levL hE (L := 2) (Lss := 4) (Lsp := 3) (op := opN) (by omega) (by omega) opN_b rfl (gPlain_ok hE.2.1 okS hs.ok) (r_plain hE hs)
  have h2 := r_levL hE (L := 1) (Lss := 2) (Lsp := 2) (op := opO) (by omega) (by omega) opO_b rfl (gBoth_ok hE.2.1 okS hs.ok) h1
  exact fun P k p N c S hk hp a1 a2 a3 hS y e => h2 P k p N c S hk hp a1 a2 a3 hS (fun k' p' F hg S' N' c' ps h' b1 b2 b3 b4 b5 b6 => y k' p' F hg S' N' c' ps h' b1 b2 b3 b4 b5 ⟨b6.1, b6.2.1⟩) e
theorem RTm.mono {Lst L hb hb' nb : Nat} {Go : Nat → St → Prop} {st : Nat → Prop} {g : Nat → Nat → Ex} (h : RTm G B tk ts te tv tc od v1 K Lst L hb nb Go st g) (hh : hb ≤ hb') : RTm G B tk ts te tv tc od v1 K Lst L hb' nb Go st g :=
  fun P k p N c S hk hp a1 a2 a3 hS y e => h P k p N c S hk hp a1 a2 a3 hS (fun k' p' F hg S' N' c' ps h' b1 b2 b3 b4 b5 b6 => y k' p' F hg S' N' c' ps h' b1 b2 (by omega) b4 b5 b6) e
theorem r_test (hE : EnvR G B tk ts te tv tc od) : ∀ n, RTm G B tk ts te tv tc od v1 K 1 1 (2 * n + 4) n (GoZ G v1 K tc) (fun t => opO t = 0 ∧ opN t = 0) (gTest tk tv od n) := by
  intro n
  induction n with
  | zero => exact r_test1 hE (.inl ⟨rfl, rfl⟩)
  | succ n ih => exact r_test1 hE (.inr ⟨_, n, rfl, rfl, gTest_ok hE.2.1 n, ih.mono (by omega)⟩)
/-- between expressions -/
def RS0 (B : St) (tk ts te tv : Nat → Nat) (od : Bool) (k p N : Nat) (c : Cd) (S : St) : Prop :=
  FrE B S ∧ RT tk ts te tv k S ∧ S.1 87 19 = -1 ∧ S.1 87 20 = 0 ∧ S.1 87 24 = nI N ∧ S.1 87 27 = nI p ∧ CdR S od N c ∧ N ≤ k
theorem RS0.z (h : RS0 B tk ts te tv od k p N c S) : RSt B tk ts te tv od k p N c [] (uI (uI S 87 30 0) 87 31 0) := by
  obtain ⟨h1, ⟨g1, g2, g3⟩, h3, h4, h5, h6, h7, h8⟩ := h
  have r87 : ∀ j, j ≠ 30 → j ≠ 31 → (uI (uI S 87 30 0) 87 31 0).1 87 j = S.1 87 j := fun j a b => by rw [uI_p _ _ _ _ b, uI_p _ _ _ _ a]
  have ri : ∀ i, i ≠ 87 → (uI (uI S 87 30 0) 87 31 0).1 i = S.1 i := fun i a => by rw [uI_n _ _ _ _ a, uI_n _ _ _ _ a]
  refine ⟨(h1.u87 (by omega)).u87 (by omega), ⟨?_, ?_, ?_⟩, ?_, ?_, ?_, ?_, h7.ag (ri 99 (by omega)) (ri 100 (by omega)), ⟨?_, ?_⟩, ?_, ?_, by simp, by simp [emN]; omega⟩
  · rw [r87 15 (by omega) (by omega)]; exact g1
  · rw [r87 16 (by omega) (by omega)]; exact g2
  · rw [r87 17 (by omega) (by omega)]; exact g3
  · rw [r87 19 (by omega) (by omega)]; exact h3
  · rw [r87 20 (by omega) (by omega)]; exact h4
  · rw [r87 24 (by omega) (by omega)]; exact h5
  · rw [r87 27 (by omega) (by omega)]; exact h6
  · rw [uI_p _ _ _ _ (by omega), uI_s, if_pos rfl]; rfl
  · intro i x hx; simp at hx
  · rw [uI_s, if_pos rfl]; rfl
  · intro x hx; cases hx
theorem RSt.zz (h : RSt B tk ts te tv od k p N c pl S) : RS0 B tk ts te tv od k p N c S := by
  obtain ⟨h1, h2, h3, h4, h5, h6, h7, h8, h9, h10, h11, h12⟩ := h
  exact ⟨h1, h2, h3, h4, h5, h6, h7, by omega⟩
theorem m_rsum (hE : EnvR G B tk ts te tv tc od) (h : RS0 B tk ts te tv od k p N c S) (hk : k ≤ tc) (hp : p ≤ 50) (y : ∀ k' p' F, gSum tk tv od 8 k p = .inr (k', p', F) → ∀ S' N' c' h', RS0 B tk ts te tv od k' p' N' c' S' → Seg c' (UU od) 0 N N' h' F → h' ≤ 32 → (∀ j, j < N → c' j = c j) → K S') (e : ∀ x, gSum tk tv od 8 k p = .inl x → ∀ S', REn B (ts x) S' → K S') : f_X11_readExpression G 87 0 K S := by
  have t4 := hE.2.1.1
  have hS := h.z
  refine nm_e (nm_e (ite_y rfl ⟨3 * (tc - k) + 2, ?_⟩))
  refine El.part hS.2.2.2.1 (r_sum (v1 := 0) (K := K) hE 8 [] k p N c _ hk hp (.inl rfl) rfl trivial hS ?_ e) _ (Nat.le_refl _)
  intro k' p' F hg S1 N1 c1 ps h1 hS1 hrep hh hbn hc hno
  obtain ⟨d1, d2, d3⟩ := (gSum_ok hE.2.1 8 k p hk hp).2 k' p' F hg
  refine El.sum hS1.2.2.2.1 (fun n2 hn2 => m_bsum hS1 (fun o h1 h2 h3 => absurd (show 2 ≤ stp (tk k') ∧ stp (tk k') ≤ 6 from ⟨by omega, by omega⟩) (no_op hno.1 hno.2)) (fun _ => ite_y rfl ?_))
  have p12 : ∀ x, x ∈ ps → x.1 ≤ 12 := fun x hx => bn_12 (by have := hbn x hx; omega)
  have iq : inn ([] ++ ps) 0 = 0 := by rw [inn_app, inn_no p12]; rfl
  refine m_inner hE hS1 (by omega) ?_
  rw [iq]
  refine ite_n (by decide) (ite_y rfl (ite_y rfl ?_))
  obtain ⟨n3, rfl⟩ : ∃ n3, n2 = n3 + 1 := ⟨n2 - 1, by omega⟩
  rw [f_X11_readExpression_20_n]
  refine ite_y hS1.2.2.2.1 (ite_y rfl ?_)
  refine m_settle (least := 1) hE hS1 (by omega) (by omega) (by omega) hrep (fun x hx => by have := hbn x hx; omega) (.inl rfl) (fun S3 N3 c3 hS3 hseg hN3 hc3 => ?_)
  exact y k' p' F hg S3 N3 c3 h1 hS3.zz hseg (by omega) (fun j hj => (hc3 j hj).trans (hc j hj))
theorem m_rtest (hE : EnvR G B tk ts te tv tc od) (h : RS0 B tk ts te tv od k p N c S) (hk : k ≤ tc) (hp : p ≤ 50) (y : ∀ k' p' F, gTest tk tv od 8 k p = .inr (k', p', F) → ∀ S' N' c' h', RS0 B tk ts te tv od k' p' N' c' S' → Seg c' (UU od) 1 N N' h' F → h' ≤ 32 → (∀ j, j < N → c' j = c j) → K S') (e : ∀ x, gTest tk tv od 8 k p = .inl x → ∀ S', REn B (ts x) S' → K S') : f_X11_readExpression G 87 1 K S := by
  have t4 := hE.2.1.1
  have hS := h.z
  refine nm_e (nm_e (ite_n (by decide) ⟨3 * (tc - k) + 2, ?_⟩))
  refine r_test (v1 := 1) (K := K) hE 8 [] k p N c _ hk hp (.inl rfl) rfl ⟨by show (0 : Nat) ≠ 14; omega, fun _ => by decide, .inl rfl⟩ hS ?_ e _ (Nat.le_refl _)
  intro k' p' F hg S1 N1 c1 ps h1 hS1 hrep hh hbn hc hno
  obtain ⟨d1, d2, d3⟩ := (gTest_ok hE.2.1 8 k p hk hp).2 k' p' F hg
  obtain ⟨no1, no2⟩ := noO hno.1 hno.2
  refine El.test hS1.2.2.2.1 (fun n2 hn2 => m_btest hS1 (fun o ho => by omega) (fun _ _ => ?_))
  have p12 : ∀ x, x ∈ ps → x.1 ≤ 12 := fun x hx => bn_12 (by have := hbn x hx; omega)
  have iq : inn ([] ++ ps) 0 = 0 := by rw [inn_app, inn_no p12]; rfl
  refine m_inner hE hS1 (by omega) ?_
  rw [iq]
  refine ite_y rfl ?_
  obtain ⟨n3, rfl⟩ : ∃ n3, n2 = n3 + 1 := ⟨n2 - 1, by omega⟩
  rw [f_X11_readExpression_20_n]
  refine ite_y hS1.2.2.2.1 (ite_y rfl ?_)
  refine m_settle (least := 1) hE hS1 (by omega) (by omega) (by omega) hrep (fun x hx => by have := hbn x hx; omega) (.inl rfl) (fun S3 N3 c3 hS3 hseg hN3 hc3 => ?_)
  exact y k' p' F hg S3 N3 c3 h1 hS3.zz hseg (by omega) (fun j hj => (hc3 j hj).trans (hc j hj))
end
