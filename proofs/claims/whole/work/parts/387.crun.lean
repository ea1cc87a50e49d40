-- needs: 386
/-! Orders are run: what comes of them; the class. -/
abbrev OSt : Type := Rw × Nat × Un × Nat × Nat
/-- the words of orders -/
def eO (b : Rw) (L : Nat → Lw) (dn ls : Nat) (w : Nat) : Int64 := if w = 0 then lN (b 4) else if w = 1 then lN dn else if w = 2 then (nI ls - 1).toInt64 else if w = 3 then lN (b 7) else if w < 10 then (if w - 4 < b 0 then lN (sn4 b (w - 4)) else -1) else if w < 16 then (if w - 10 < b 0 then lN (sgt b (w - 10)) else -1) else (if w - 16 < b 0 then lN (ddA (frc b L) b (w - 16) (sgt b (w - 16))) else -1)
def vO (o : Option Fn) (e : Nat → Int64) : Option Int32 := match o with
  | none => some 0
  | some f => match f e with
    | none => none
    | some v => some v.toInt32
def tO (o : Option Fn) (e : Nat → Int64) : Bool := match o with
  | none => true
  | some f => decide (f e = some 1)
def act1 (L : Nat → Lw) (z : Cz) (s : OSt) (j k : Int32) : Option OSt := match actA (frc s.1 L) s.1 z.1 j k 1 with
  | .inl _ => none
  | .inr (r, b) => some (b, min 16 (s.2.1 + 1), psh (z.1, s.1) s.2.2.1, s.2.2.2.1 + 1, if z.1 = 1 then r + 1 else s.2.2.2.2)
def run1 (L : Nat → Lw) (z : Cz) (s : OSt) : Option OSt :=
  if tO z.2.2.2.2 (eO s.1 L s.2.2.2.1 s.2.2.2.2) = true then (match vO z.2.2.1 (eO s.1 L s.2.2.2.1 s.2.2.2.2) with
    | none => none
    | some j => match vO z.2.2.2.1 (eO s.1 L s.2.2.2.1 s.2.2.2.2) with
      | none => none
      | some k => act1 L z s j k) else some s
theorem eO_b {b : Rw} {L : Nat → Lw} {dn ls : Nat} (hV : Va b) (hd : dn ≤ 1000) (hl : ls ≤ 1001) (w : Nat) (hw : w < 22) : -1000000000 ≤ (eO b L dn ls w).toInt ∧ (eO b L dn ls w).toInt ≤ 1000000000 := by
  have h4 := hV.2.2.2.2.1
  have h7 := hV.sc
  have h6 := hV.1
  have em : (-1 : Int64).toInt = -1 := rfl
  unfold eO
  repeat' split
  · rw [lN_toInt (by omega)]; omega
  · rw [lN_toInt (by omega)]; omega
  · rw [i32_64]
    rcases Nat.eq_zero_or_pos ls with rfl | h
    · show -1000000000 ≤ (-1 : Int) ∧ (-1 : Int) ≤ 1000000000; omega
    · rw [show (1 : Int32) = nI 1 from rfl, sbI h, nI_toInt (by omega)]; omega
  · rw [lN_toInt (by omega)]; omega
  · have := sn4_le hV (j := w - 4) (by omega)
    rw [lN_toInt (by omega)]; omega
  · rw [em]; omega
  · have := sgt_lt hV (j := w - 10) (by omega)
    rw [lN_toInt (by omega)]; omega
  · rw [em]; omega
  · have := ddA_le (lo := frc b L) (a := b) (j := w - 16) (s := sgt b (w - 16))
    rw [lN_toInt (by omega)]; omega
  · rw [em]; omega
/-- what the class touches while orders run -/
def XO (i : Nat) : Prop := i = 2 ∨ i = 3 ∨ i = 5 ∨ i = 18 ∨ i = 19 ∨ i = 30 ∨ (41 ≤ i ∧ i ≤ 53)
section
variable {G : Gm} {S S' : St} {a b m : Rw} {L : Nat → Lw} {I : Im} {un tn : Nat} {u : Un} {T : Nat → Nat} {fl : Nat → Int32} {Q : Int32 → St → Prop} {K : St → Prop} {dn ls : Nat}
theorem c_learnO {uu : Int32} (hC : Cls G S b L I un u T tn fl m) (hV : Va b) (h6 : S.1 30 6 = nI dn) (h7 : S.1 30 7 = nI ls - 1) (hd : dn ≤ 1000) (hl : ls ≤ 1001) (z : ∀ S', Fr (fun i => i = 53 ∨ i = 42 ∨ i = 44) S S' → (∀ w, usC true uu w → (S'.1 53 w).toInt64 = eO b L dn ls w) → K S') : f_X0_learnWords G 30 uu 1 K S := by
  have hb6 := hV.1
  have hb4 := hV.2.2.2.2.1
  have hsc := hV.sc
  have hS := hC.1
  have fr : ∀ {S1 : St}, Fr (fun i => i = 53 ∨ i = 42 ∨ i = 44) S S1 → Cls G S1 b L I un u T tn fl m := fun f => hC.fr f (by intro i hi; unfold rlC; omega)
  have i53 : ∀ {j : Nat}, j < 22 → vp_in (nI j) (G.2.1 53) := fun hj => by rw [hS.l53, in_iff (by omega)]; exact hj
  have st : ∀ (d q : Nat) (S1 : St), d + q = 6 → Fr (fun i => i = 53 ∨ i = 42 ∨ i = 44) S S1 → (∀ w, usC true uu w → w < 4 ∨ (4 ≤ w ∧ (w - 4) % 6 < q) → (S1.1 53 w).toInt64 = eO b L dn ls w) → f_X0_learnWords_44_n G 30 uu 1 K (d + 1) (nI q) S1 := by
    intro d
    induction d with
    | zero =>
      intro q S1 hq f1 e1
      rw [f_X0_learnWords_44_n]
      refine ite_y (by simp (disch := omega) only [lit, nI_add, pk_mul, leI, ltI, eqI]; omega) (z S1 f1 (fun w hw => e1 w hw ?_))
      omega
    | succ d ih =>
      intro q S1 hq f1 e1
      have hC1 := fr f1
      rw [f_X0_learnWords_44_n]
      -- the third word of one
      have s105 : ∀ (hr : Nat) (S2 : St), hr = (if q < b 0 then 1 else 0) → Fr (fun i => i = 53 ∨ i = 42 ∨ i = 44) S S2 → (∀ j, j ≠ 4 + q → S2.1 53 j = S1.1 53 j) → (S2.1 53 (4 + q)).toInt64 = eO b L dn ls (4 + q) → ∀ v5 : Int32, (q < b 0 → v5 = nI (sgt b q)) → ∀ u0 : Int32, u0.toInt64 = eO b L dn ls (10 + q) → f_X0_learnWords_105 G (f_X0_learnWords_44_n G 30 uu 1 K (d + 1)) 30 uu 1 (nI q) (nI hr) v5 u0 (10 + nI q) 53 K S2 := by
        intro hr S2 ehr f2 w2 w4 v5 hv5 u0 hu0
        rw [show (10 : Int32) + nI q = nI (10 + q) from by rw [show (10 : Int32) = nI 10 from rfl, nI_add]]
        refine ⟨i53 (by omega), nm_e ?_⟩
        rw [clI (by omega), show (16 : Int32) + nI q = nI (16 + q) from by rw [show (16 : Int32) = nI 16 from rfl, nI_add], nI_1]
        have f3 : Fr (fun i => i = 53 ∨ i = 42 ∨ i = 44) S (uI S2 53 (10 + q) u0) := f2.uI (.inl rfl)
        have w3 : ∀ w, w ≠ 16 + q → usC true uu w → w < 4 ∨ (4 ≤ w ∧ (w - 4) % 6 < q + 1) → ((uI S2 53 (10 + q) u0).1 53 w).toInt64 = eO b L dn ls w := by
          intro w h16 hw hh
          have w22 := hw.1
          rw [uI_s]
          by_cases e10 : w = 10 + q
          · rw [if_pos e10, e10]; exact hu0
          · rw [if_neg e10]
            by_cases e4 : w = 4 + q
            · rw [e4]; exact w4
            · rw [w2 w e4]; exact e1 w hw (by omega)
        refine ite_c (fun hb => ?_) (fun hb => ih (q + 1) _ (by omega) f3 (fun w hw hh => ?_))
        · have hC3 := fr f3
          refine ex_y hC3.1.r30_5 ?_
          have go : ∀ (S4 : St) (r : Int32), Fr (fun i => i = 53 ∨ i = 42 ∨ i = 44) S S4 → S4.1 53 = (uI S2 53 (10 + q) u0).1 53 → r.toInt64 = eO b L dn ls (16 + q) → f_X0_learnWords_146 G (f_X0_learnWords_44_n G 30 uu 1 K (d + 1)) 30 uu 1 (nI q) r (nI (16 + q)) 53 K S4 := by
            intro S4 r f4 e4 hr'
            refine ⟨i53 (by omega), nm_e ?_⟩
            rw [clI (by omega), nI_1]
            refine ih (q + 1) _ (by omega) (f4.uI (.inl rfl)) (fun w hw hh => ?_)
            rw [uI_s]
            by_cases e16 : w = 16 + q
            · rw [if_pos e16, e16]; exact hr'
            · rw [if_neg e16, e4]; exact w3 w e16 hw hh
          by_cases hq0 : q < b 0
          · rw [if_pos hq0] at ehr
            subst ehr
            refine ite_n (by decide) (ex_y hC3.1.r30_2 ?_)
            rw [hv5 hq0]
            refine c_deed hC3.1.j41 hC3.1.p1 hC3.2.1 hV hC3.2.2.1.1 (by omega) (by omega) hq0 (sgt_lt hV (by omega)) (fun S4 f4 => go S4 _ (f3.trans (f4.mono (fun i hi => by omega))) (f4.2 53 (by omega)).1 ?_)
            have := ddA_le (lo := frc b L) (a := b) (j := q) (s := sgt b q)
            rw [nI_l (by omega)]
            unfold eO
            rw [if_neg (by omega), if_neg (by omega), if_neg (by omega), if_neg (by omega), if_neg (by omega), if_neg (by omega), show 16 + q - 16 = q from by omega, if_pos hq0]
          · rw [if_neg hq0] at ehr
            subst ehr
            refine ite_y rfl (go _ (-1) f3 rfl ?_)
            unfold eO
            rw [if_neg (by omega), if_neg (by omega), if_neg (by omega), if_neg (by omega), if_neg (by omega), if_neg (by omega), show 16 + q - 16 = q from by omega, if_neg hq0]; rfl
        · by_cases e16 : w = 16 + q
          · rw [e16] at hw
            exact absurd hw.2.2 hb
          · exact w3 w e16 hw hh
      have s85 : ∀ (hr : Nat), hr = (if q < b 0 then 1 else 0) → ∀ v5 : Int32, (q < b 0 → v5 = nI (sgt b q)) → ∀ u0 : Int32, u0.toInt64 = eO b L dn ls (4 + q) → f_X0_learnWords_85 G (f_X0_learnWords_44_n G 30 uu 1 K (d + 1)) 30 uu 1 (nI q) (nI hr) v5 u0 (4 + nI q) 53 K S1 := by
        intro hr ehr v5 hv5 u0 hu0
        rw [show (4 : Int32) + nI q = nI (4 + q) from by rw [show (4 : Int32) = nI 4 from rfl, nI_add]]
        refine ⟨i53 (by omega), nm_e (ex_y (by exact hC1.1.r30_5) ?_)⟩
        rw [clI (by omega)]
        have f2 : Fr (fun i => i = 53 ∨ i = 42 ∨ i = 44) S (uI S1 53 (4 + q) u0) := f1.uI (.inl rfl)
        have w2 : ∀ j, j ≠ 4 + q → (uI S1 53 (4 + q) u0).1 53 j = S1.1 53 j := fun j hj => by rw [uI_s, if_neg hj]
        have w4 : ((uI S1 53 (4 + q) u0).1 53 (4 + q)).toInt64 = eO b L dn ls (4 + q) := by rw [uI_s, if_pos rfl]; exact hu0
        by_cases hq0 : q < b 0
        · have eh := ehr
          rw [if_pos hq0] at ehr
          refine ite_n (by rw [ehr]; decide) (s105 hr _ eh f2 w2 w4 v5 hv5 v5 ?_)
          rw [hv5 hq0]
          have := sgt_lt hV (j := q) (by omega)
          rw [nI_l (by omega)]
          unfold eO
          rw [if_neg (by omega), if_neg (by omega), if_neg (by omega), if_neg (by omega), if_neg (by omega), if_pos (by omega), show 10 + q - 10 = q from by omega, if_pos hq0]
        · have eh := ehr
          rw [if_neg hq0] at ehr
          refine ite_y (by rw [ehr]; rfl) (s105 hr _ eh f2 w2 w4 v5 hv5 (-1) ?_)
          unfold eO
          rw [if_neg (by omega), if_neg (by omega), if_neg (by omega), if_neg (by omega), if_neg (by omega), if_pos (by omega), show 10 + q - 10 = q from by omega, if_neg hq0]; rfl
      refine ite_n (by simp (disch := omega) only [lit, nI_add, pk_mul, leI, ltI, eqI]; omega) ?_
      by_cases hq0 : q < b 0
      · refine c_has_y hC1.2.1 hV hq0 (c_sightOf hC1.1.p1 hC1.2.1 hV hq0 (ex_y hC1.1.r30_5 (ite_n (by decide) (c_sinsOf hC1.1.p1 hC1.2.1 hV hq0 (s85 1 (by rw [if_pos hq0]) _ (fun _ => rfl) _ ?_)))))
        have := sn4_le hV (j := q) (by omega)
        rw [nI_l (by omega)]
        unfold eO
        rw [if_neg (by omega), if_neg (by omega), if_neg (by omega), if_neg (by omega), if_pos (by omega), show 4 + q - 4 = q from by omega, if_pos hq0]
      · have hv : nI q < 0 ∨ nI (b 0) ≤ nI q := .inr (by rw [leI (by omega) (by omega)]; omega)
        refine c_has_n hC1.2.1 hV hv (c_sightOf_n hC1.1.p1 hC1.2.1 hV hv (ex_y hC1.1.r30_5 (ite_y rfl (s85 0 (by rw [if_neg hq0]) _ (fun h => absurd h hq0) (-1) ?_))))
        unfold eO
        rw [if_neg (by omega), if_neg (by omega), if_neg (by omega), if_neg (by omega), if_pos (by omega), show 4 + q - 4 = q from by omega, if_neg hq0]; rfl
  refine ex_y hS.r30_5 (c_termOf (k := 0) hS.p1 hC.2.1 (by omega) ⟨i53 (j := 0) (by omega), nm_e (ex_y (by exact hS.r30_5) ⟨i53 (j := 1) (by omega), nm_e (ex_y (by exact hS.r30_5) ⟨i53 (j := 2) (by omega), nm_e (ex_y (by exact hS.r30_5) ?_)⟩)⟩)⟩)
  have f1 : Fr (fun i => i = 53 ∨ i = 42 ∨ i = 44) S (uI (uI (uI S 53 0 (nI (b (4 + 0)))) 53 1 ((uI S 53 0 (nI (b (4 + 0)))).1 30 6)) 53 2 ((uI (uI S 53 0 (nI (b (4 + 0)))) 53 1 ((uI S 53 0 (nI (b (4 + 0)))).1 30 6)).1 30 7)) := (((Fr.refl S).uI (.inl rfl)).uI (.inl rfl)).uI (.inl rfl)
  have hC1 := fr f1
  refine c_termOf (k := 3) hC1.1.p1 hC1.2.1 (by omega) ⟨i53 (j := 3) (by omega), nm_e ⟨7, st 6 0 _ (by omega) (f1.uI (.inl rfl)) (fun w hw hh => ?_)⟩⟩
  have e30 : (uI S 53 0 (nI (b (4 + 0)))).1 30 6 = nI dn := by rw [uI_n _ _ _ _ (by omega)]; exact h6
  have e31 : (uI (uI S 53 0 (nI (b (4 + 0)))) 53 1 ((uI S 53 0 (nI (b (4 + 0)))).1 30 6)).1 30 7 = nI ls - 1 := by rw [uI_n _ _ _ _ (by omega), uI_n _ _ _ _ (by omega)]; exact h7
  have c4 : w = 0 ∨ w = 1 ∨ w = 2 ∨ w = 3 := by omega
  show ((uI (uI (uI (uI S 53 0 (nI (b (4 + 0)))) 53 1 ((uI S 53 0 (nI (b (4 + 0)))).1 30 6)) 53 2 ((uI (uI S 53 0 (nI (b (4 + 0)))) 53 1 ((uI S 53 0 (nI (b (4 + 0)))).1 30 6)).1 30 7)) 53 3 (nI (b (4 + 3)))).1 53 w).toInt64 = _
  rw [e31, e30]
  unfold eO
  rcases c4 with rfl | rfl | rfl | rfl
  · rw [uI_s, if_neg (by omega), uI_s, if_neg (by omega), uI_s, if_neg (by omega), uI_s, if_pos rfl, if_pos rfl, nI_l (by show b 4 < _; omega)]
  · rw [uI_s, if_neg (by omega), uI_s, if_neg (by omega), uI_s, if_pos rfl, if_neg (by omega), if_pos rfl, nI_l (by omega)]
  · rw [uI_s, if_neg (by omega), uI_s, if_pos rfl, if_neg (by omega), if_neg (by omega), if_pos rfl]
  · rw [uI_s, if_pos rfl, if_neg (by omega), if_neg (by omega), if_neg (by omega), if_pos rfl, nI_l (by show b 7 < _; omega)]
theorem Lk.fr52 (h : Lk 51 0 S S') : Fr (fun i => i = 52) S S' := ⟨h.2.1, fun i hi => ⟨by rw [h.1], h.2.2.1 i (by omega)⟩⟩
theorem c_markO {i w : Nat} {Q : Int32 → St → Prop} (hS : ShC G S.2.2) (hi : i < 12) (hw : w < 4) (z : Q (S.1 84 (4 * i + w)) S) : f_X8_markOf G 80 (nI i) (nI w) Q S := by
  refine nm_p (e' := nI (4 * i + w)) (by rw [show (4 : Int32) = nI 4 from rfl, pk_mul, nI_add, Nat.mul_comm]) (ite_n (by simp (disch := omega) only [lit, nI_add, pk_mul, leI, ltI, eqI]; omega) (ex_y hS.r80_3 (ite_n (by rw [hS.l84, leI (by omega) (by omega)]; omega) (ex_y hS.r80_3 ⟨by rw [hS.l84, in_iff (by omega)]; omega, ?_⟩))))
  rw [clI (by omega)]; exact z
theorem c_usesO {i : Nat} {Q : Int32 → St → Prop} (hS : ShC G S.2.2) (hi : i < 12) (z : Q (S.1 83 i) S) : f_X8_usesOf G 80 (nI i) Q S := by
  refine ite_n (by simp (disch := omega) only [lit, nI_add, pk_mul, leI, ltI, eqI]; omega) (ex_y hS.r80_2 (ite_n (by rw [hS.l83, leI (by omega) (by omega)]; omega) (ex_y hS.r80_2 ⟨by rw [hS.l83, in_iff (by omega)]; exact hi, ?_⟩)))
  rw [clI (by omega)]; exact z
theorem c_verbO {i : Nat} {Q : Int32 → St → Prop} (hS : ShC G S.2.2) (hi : i < 12) (z : Q (S.1 81 i) S) : f_X8_verbOf G 80 (nI i) Q S := by
  refine ite_n (by simp (disch := omega) only [lit, nI_add, pk_mul, leI, ltI, eqI]; omega) (ex_y hS.r80_0 (ite_n (by rw [hS.l81, leI (by omega) (by omega)]; omega) (ex_y hS.r80_0 ⟨by rw [hS.l81, in_iff (by omega)]; exact hi, ?_⟩)))
  rw [clI (by omega)]; exact z
theorem c_repO {i : Nat} {Q : Int32 → St → Prop} (hS : ShC G S.2.2) (hi : i < 12) (z : Q (S.1 82 i) S) : f_X8_repeatsOf G 80 (nI i) Q S := by
  refine ite_n (by simp (disch := omega) only [lit, nI_add, pk_mul, leI, ltI, eqI]; omega) (ex_y hS.r80_1 (ite_n (by rw [hS.l82, leI (by omega) (by omega)]; omega) (ex_y hS.r80_1 ⟨by rw [hS.l82, in_iff (by omega)]; exact hi, ?_⟩)))
  rw [clI (by omega)]; exact z
theorem c_runOnce {i q N : Nat} {c : Cd} {Lz : Nat → Cz} (hC : Cls G S b L I un u T tn fl m) (hV : Va b) (hu : un ≤ 16) (ht : TxtOK true S q N c Lz) (hi : i < q) (h6 : S.1 30 6 = nI dn) (h7 : S.1 30 7 = nI ls - 1) (hd : dn ≤ 1000) (hl : ls ≤ 1001)
    (yn : run1 L (Lz i) (b, un, u, dn, ls) = none → ∀ S', Fr XO S S' → Q 0 S')
    (ys : ∀ b' un' u' dn' ls', run1 L (Lz i) (b, un, u, dn, ls) = some (b', un', u', dn', ls') → ∀ S', Fr XO S S' → ParC S' 1 b' → TrlC S' 18 un' u' → S'.1 30 6 = nI dn' → S'.1 30 7 = nI ls' - 1 → Q 1 S') : f_X0_runOnce G 30 80 (nI i) 1 18 Q S := by
  have hS := hC.1
  obtain ⟨_, _, hcode, hrec, _, hq12, hN⟩ := ht
  obtain ⟨g1, g2, g3, g4, g5, m0, m1, m2, m3, x0, x1, x2, x3, mN, s0, s1, s2⟩ := hrec i hi
  have l0 := s0.le
  have l1 := s1.le
  have l2 := s2.le
  have g3 : (Lz i).1 ≤ 4 := g3
  refine c_usesO hS (by omega) ?_
  generalize huu : S.1 83 i = uu at s0 s1 s2
  refine c_learnO hC hV h6 h7 hd hl (fun S1 f1 hw => ?_)
  have hC1 := hC.fr f1 (by intro i hi; unfold rlC; omega)
  have hS1 := hC1.1
  have e84 : S1.1 84 = S.1 84 := (f1.2 84 (by omega)).1
  have e85 : S1.1 85 = S.1 85 := (f1.2 85 (by omega)).1
  refine c_markO (w := 0) hS1 (by omega) (by omega) (c_markO (w := 1) hS1 (by omega) (by omega) (c_markO (w := 2) hS1 (by omega) (by omega) (c_markO (w := 3) hS1 (by omega) (by omega) ?_)))
  rw [e84, show 4 * i + 0 = 4 * i from rfl, x0, x1, x2, x3]
  have eb : ∀ x, usC true uu x → -1000000000 ≤ (eO b L dn ls x).toInt ∧ (eO b L dn ls x).toInt ≤ 1000000000 := fun x hx => eO_b hV hd hl x hx.1
  have cx : ∀ (S2 : St) (j : Nat), Fr (fun i => i = 52) S1 S2 → j ≤ N → CxC G S2.1 S2.2.2 51 53 85 (2 * j) c (eO b L dn ls) (usC true uu) := by
    intro S2 j f2 hj
    have e85' : S2.1 85 = S.1 85 := by rw [(f2.2 85 (by omega)).1]; exact e85
    refine ⟨by rw [f2.1]; exact hS1.r51_0, hS1.l52, by rw [hS1.l85]; omega, by rw [hS1.l85]; omega, fun k hk => ?_, by rw [hS1.l53]; omega, fun x hx => ⟨by rw [hS1.l53]; exact hx.1, ?_⟩⟩
    · rw [e85']; exact hcode k (by omega)
    · rw [(f2.2 53 (by omega)).1]; exact hw x hx
  have run : ∀ S2, Fr (fun i => i = 52) S1 S2 → tO (Lz i).2.2.2.2 (eO b L dn ls) = true → f_X0_runOnce_71 G 30 80 (nI i) 1 18 (nI (2 * m0)) (nI (2 * m1)) (nI (2 * m2)) Q S2 := by
    intro S2 f2 hto
    -- the deed
    have deed : ∀ S3 j k, Fr (fun i => i = 52) S1 S3 → vO (Lz i).2.2.1 (eO b L dn ls) = some j → vO (Lz i).2.2.2.1 (eO b L dn ls) = some k → f_X8_verbOf G 80 (nI i) (fun r4 S3 => (∃ a5, S3.2.2 30 3 = some a5 ∧ f_X1_act G a5 1 18 r4 j k 1 (fun r7 S6 => (if 0 ≤ r7 then (∀ S9, S9 = uI S6 30 6 ((S6.1 30 6) + 1) → (if r4 = 1 then f_X0_runOnce_204 G r7 30 Q S9 else f_X0_runOnce_204 G (S9.1 30 7) 30 Q S9)) else Q 0 S6)) S3)) S3 := by
      intro S3 j k f3 hj hk
      have hC3 := hC1.fr f3 (by intro i hi; unfold rlC; omega)
      have er : run1 L (Lz i) (b, un, u, dn, ls) = act1 L (Lz i) (b, un, u, dn, ls) j k := by unfold run1; rw [if_pos hto, hj]; simp only []; rw [hk]
      have fA : Fr XO S S3 := (f1.mono (fun i hi => by unfold XO; omega)).trans (f3.mono (fun i hi => by unfold XO; omega))
      refine c_verbO hC3.1 (by omega) ?_
      rw [(f3.2 81 (by omega)).1, (f1.2 81 (by omega)).1, g1]
      refine ex_y hC3.1.r30_3 (c_act (d := 45) (p := 1) (t := 18) ⟨hC3.1.p1, hC3.1.j46, hC3.1.r45_0, hC3.1.r45_1, hC3.1.l50, by omega, by omega⟩ hC3.2.1 hV hC3.2.2.1.1 hC3.2.2.2.2.2.1 hu hC3.1.r18_0 hC3.1.l19 (by omega) (by omega) g3 (fun n hn S4 f4 => ?_) (fun r b' hb S4 f4 hP hT => ?_))
      · have hn3 := actA_n hn
        refine ite_n (neg_n hn3.1 (by omega)).1 (yn ?_ S4 (fA.trans (f4.mono (fun i hi => by unfold XO; omega))))
        rw [er]; unfold act1; simp only []; rw [hn]
      · obtain ⟨hVb, hr, he⟩ := actA_ok hV hb
        have fB : Fr XO S S4 := fA.trans (f4.mono (fun i hi => by unfold XA XD at hi; unfold XO; omega))
        have e6 : S4.1 30 6 = nI dn := by rw [(f4.2 30 (by unfold XA XD; omega)).1, (f3.2 30 (by omega)).1, (f1.2 30 (by omega)).1]; exact h6
        have e7 : S4.1 30 7 = nI ls - 1 := by rw [(f4.2 30 (by unfold XA XD; omega)).1, (f3.2 30 (by omega)).1, (f1.2 30 (by omega)).1]; exact h7
        refine ite_y (nn0 (by omega)) (nm_e ?_)
        rw [e6, nI_1]
        have fin : ∀ ls' v, run1 L (Lz i) (b, un, u, dn, ls) = some (b', min 16 (un + 1), psh ((Lz i).1, b) u, dn + 1, ls') → v = nI ls' - 1 → f_X0_runOnce_204 G v 30 Q (uI S4 30 6 (nI (dn + 1))) := by
          intro ls' v hrun hv
          refine nm_e (ys b' _ _ _ ls' hrun _ ((fB.uI (by unfold XO; omega)).uI (by unfold XO; omega)) (hP.ag (fun i _ _ => ?_)) (hT.ag ?_ ?_) ?_ ?_)
          · rw [uI_n _ _ _ _ (by omega), uI_n _ _ _ _ (by omega)]
          · rw [uI_n _ _ _ _ (by omega), uI_n _ _ _ _ (by omega)]
          · rw [uI_n _ _ _ _ (by omega), uI_n _ _ _ _ (by omega)]
          · rw [uI_s, if_neg (by omega), uI_s, if_pos rfl]
          · rw [uI_s, if_pos rfl]; exact hv
        refine ite_c (fun e => ?_) (fun e => ?_)
        · rw [show (1 : Int32) = nI 1 from rfl, eqI (by omega) (by omega)] at e
          refine fin (r + 1) _ ?_ (nI_pred r).symm
          rw [er]; unfold act1; simp only []; rw [hb]; simp only []; rw [if_pos e]
        · rw [show (1 : Int32) = nI 1 from rfl, eqI (by omega) (by omega)] at e
          refine fin ls _ ?_ ?_
          · rw [er]; unfold act1; simp only []; rw [hb]; simp only []; rw [if_neg e]
          · rw [uI_s, if_neg (by omega)]; exact e7
    have bad1 : vO (Lz i).2.2.1 (eO b L dn ls) = none → run1 L (Lz i) (b, un, u, dn, ls) = none := by
      intro h; unfold run1; rw [if_pos hto, h]
    have bad2 : vO (Lz i).2.2.2.1 (eO b L dn ls) = none → run1 L (Lz i) (b, un, u, dn, ls) = none := by
      intro h; unfold run1; rw [if_pos hto]
      cases vO (Lz i).2.2.1 (eO b L dn ls) with
      | none => rfl
      | some j => simp only []; rw [h]
    have fX : ∀ {S3 : St}, Fr (fun i => i = 52) S1 S3 → Fr XO S S3 := fun f3 => (f1.mono (fun i hi => by unfold XO; omega)).trans (f3.mono (fun i hi => by unfold XO; omega))
    -- both sums are there
    have s127 : ∀ S3 j k, Fr (fun i => i = 52) S1 S3 → (j = -2147483648 ↔ vO (Lz i).2.2.1 (eO b L dn ls) = none) → (j ≠ -2147483648 → vO (Lz i).2.2.1 (eO b L dn ls) = some j) → (k = -2147483648 ↔ vO (Lz i).2.2.2.1 (eO b L dn ls) = none) → (k ≠ -2147483648 → vO (Lz i).2.2.2.1 (eO b L dn ls) = some k) → f_X0_runOnce_127 G 30 80 (nI i) 1 18 j k Q S3 := by
      intro S3 j k f3 j1 j2 k1 k2
      refine ite_c (fun e => yn (bad1 (j1.mp e)) S3 (fX f3)) (fun e => ite_c (fun e' => yn (bad2 (k1.mp e')) S3 (fX f3)) (fun e' => deed S3 j k f3 (j2 e) (k2 e')))
    have vv : ∀ {f : Fn} {t i' j' h : Nat}, Seg c (usC true uu) t i' j' h f → (wv (f (eO b L dn ls)) = -2147483648 ↔ vO (some f) (eO b L dn ls) = none) ∧ (wv (f (eO b L dn ls)) ≠ -2147483648 → vO (some f) (eO b L dn ls) = some (wv (f (eO b L dn ls)))) := by
      intro f t i' j' h sg
      have w := wv_min (fun v hv => sg.val.1 (eO b L dn ls) v eb hv)
      cases hf : f (eO b L dn ls) with
      | none =>
        have e1 : vO (some f) (eO b L dn ls) = none := by
          show (match f (eO b L dn ls) with | none => none | some v => some v.toInt32) = none
          rw [hf]
        rw [e1]
        exact ⟨⟨fun _ => rfl, fun _ => rfl⟩, fun h => absurd rfl h⟩
      | some v =>
        have e1 : vO (some f) (eO b L dn ls) = some v.toInt32 := by
          show (match f (eO b L dn ls) with | none => none | some v => some v.toInt32) = some v.toInt32
          rw [hf]
        rw [hf] at w
        rw [e1]
        refine ⟨⟨fun h => ?_, fun h => (by cases h)⟩, fun _ => rfl⟩
        exact absurd (w.mp h) (by simp)
    have z0 : ((0 : Int32) = -2147483648 ↔ vO none (eO b L dn ls) = none) ∧ ((0 : Int32) ≠ -2147483648 → vO none (eO b L dn ls) = some 0) := ⟨⟨fun h => absurd h (by decide), fun h => (by cases h)⟩, fun _ => rfl⟩
    have s98 : ∀ S3 j, Fr (fun i => i = 52) S1 S3 → (j = -2147483648 ↔ vO (Lz i).2.2.1 (eO b L dn ls) = none) → (j ≠ -2147483648 → vO (Lz i).2.2.1 (eO b L dn ls) = some j) → f_X0_runOnce_98 G 30 80 (nI i) 1 18 (nI (2 * m1)) (nI (2 * m2)) j Q S3 := by
      intro S3 j f3 j1 j2
      cases htw : (Lz i).2.2.2.1 with
      | none =>
        rw [htw] at s1
        have s1 : m1 = m2 := s1
        refine ite_y (by rw [leI (by omega) (by omega)]; omega) (s127 S3 j 0 f3 j1 j2 ?_ ?_)
        · rw [htw]; exact z0.1
        · rw [htw]; exact z0.2
      | some f =>
        rw [htw] at s1
        obtain ⟨h, h32, sg⟩ := s1
        have lt := sg.keep.1
        refine ite_n (by rw [leI (by omega) (by omega)]; omega) (ex_y (by rw [f3.1]; exact hS1.r30_4) (ex_y (by rw [f3.1]; exact hS1.r30_5) (c_worth (cx S3 m2 f3 (by omega)) sg h32 (by rw [f3.1]; exact hS1.r80_4) (fun S4 L4 => s127 S4 j _ (f3.trans L4.fr52) j1 j2 ?_ ?_))))
        · rw [htw]; exact (vv sg).1
        · rw [htw]; exact (vv sg).2
    cases hon : (Lz i).2.2.1 with
    | none =>
      rw [hon] at s0
      have s0 : m0 = m1 := s0
      refine ite_y (by rw [leI (by omega) (by omega)]; omega) (s98 S2 0 f2 ?_ ?_)
      · rw [hon]; exact z0.1
      · rw [hon]; exact z0.2
    | some f =>
      rw [hon] at s0
      obtain ⟨h, h32, sg⟩ := s0
      have lt := sg.keep.1
      refine ite_n (by rw [leI (by omega) (by omega)]; omega) (ex_y (by rw [f2.1]; exact hS1.r30_4) (ex_y (by rw [f2.1]; exact hS1.r30_5) (c_worth (cx S2 m1 f2 (by omega)) sg h32 (by rw [f2.1]; exact hS1.r80_4) (fun S4 L4 => s98 S4 _ (f2.trans L4.fr52) ?_ ?_))))
      · rw [hon]; exact (vv sg).1
      · rw [hon]; exact (vv sg).2
  cases hte : (Lz i).2.2.2.2 with
  | none =>
    rw [hte] at s2
    have s2 : m2 = m3 := s2
    exact ite_y (by rw [leI (by omega) (by omega)]; omega) (run S1 (Fr.refl S1) (by rw [hte]; rfl))
  | some f =>
    rw [hte] at s2
    obtain ⟨h, h32, sg⟩ := s2
    have lt := sg.keep.1
    refine ite_n (by rw [leI (by omega) (by omega)]; omega) (ex_y hS1.r30_4 (ex_y hS1.r30_5 (c_worth (cx S1 m3 (Fr.refl S1) (by omega)) sg h32 hS1.r80_4 (fun S4 L4 => ?_))))
    have w1 := wv_1 (fun v hv => sg.val.2.1 rfl (eO b L dn ls) v hv)
    refine ite_c (fun e => run S4 L4.fr52 ?_) (fun e => ?_)
    · rw [hte]; exact decide_eq_true (w1.mp e)
    · have hno : ¬ tO (Lz i).2.2.2.2 (eO b L dn ls) = true := by
        rw [hte]; intro h; exact e (w1.mpr (of_decide_eq_true h))
      have f4 := L4.fr52
      have hC4 := hC1.fr f4 (by intro i hi; unfold rlC; omega)
      refine ys b un u dn ls (by unfold run1; rw [if_neg hno]) S4 ((f1.mono (fun i hi => by unfold XO; omega)).trans (f4.mono (fun i hi => by unfold XO; omega))) hC4.2.1 hC4.2.2.2.2.2.1 ?_ ?_
      · rw [(f4.2 30 (by omega)).1, (f1.2 30 (by omega)).1]; exact h6
      · rw [(f4.2 30 (by omega)).1, (f1.2 30 (by omega)).1]; exact h7
end
