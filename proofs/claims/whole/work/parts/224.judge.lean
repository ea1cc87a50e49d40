-- needs: 200 201 202 203 204 220 221 223
/-! The class's judge. -/
theorem TextC.fr {G : Gm} {M M' : Nat → Nat → Int32} {R R' : Nat → Nat → Option Nat} {t : Nat} {lw : Lw} (h : TextC G M R t lw) (hM : ∀ i, t ≤ i → i ≤ t + 5 → M' i = M i) (hR : R' t = R t) : TextC G M' R' t lw := by
  obtain ⟨r0, r3, r4, n12, m5, l1, l4, l5, k7, tb, c, hc, hq⟩ := h
  refine ⟨by rw [hR]; exact r0, by rw [hR]; exact r3, by rw [hR]; exact r4, n12, by rw [hM t (by omega) (by omega)]; exact m5, l1, l4, l5, k7, tb, c, ?_, ?_⟩
  · rw [hM (t + 5) (by omega) (by omega)]; exact hc
  · rw [hM (t + 1) (by omega) (by omega), hM (t + 4) (by omega) (by omega)]; exact hq
/-- the laws of a parish -/
def LwC (G : Gm) (S : St) (p : Nat) (a : Nat → Nat) (L : Nat → Lw) : Prop := ∀ k, k < a 2 → ∃ t, S.2.2 (p + 7) k = some t ∧ 121 ≤ t ∧ TextC G S.1 S.2.2 t (L k)
theorem LwC.fr {G : Gm} {S S' : St} {p : Nat} {a : Nat → Nat} {L : Nat → Lw} (h : LwC G S p a L) (hM : ∀ i, 121 ≤ i → S'.1 i = S.1 i) (hR : S'.2.2 = S.2.2) : LwC G S' p a L := by
  intro k hk
  obtain ⟨t, h1, h2, h3⟩ := h k hk
  exact ⟨t, by rw [hR]; exact h1, h2, h3.fr (fun i h1 _ => hM i (by omega)) (by rw [hR])⟩
def frc (a : Nat → Nat) (L : Nat → Lw) : Option Lw := if a 3 = 0 then none else some (L (a 3 - 1))
def OptT (G : Gm) (S : St) (o : Option Nat) (lo : Option Lw) : Prop := (o = none ∧ lo = none) ∨ ∃ t lw, o = some t ∧ lo = some lw ∧ 121 ≤ t ∧ TextC G S.1 S.2.2 t lw
theorem OptT.fr {G : Gm} {S S' : St} {o : Option Nat} {lo : Option Lw} (h : OptT G S o lo) (hM : ∀ i, 121 ≤ i → S'.1 i = S.1 i) (hR : S'.2.2 = S.2.2) : OptT G S' o lo := by
  rcases h with h | ⟨t, lw, h1, h2, h3, h4⟩
  · exact .inl h
  · exact .inr ⟨t, lw, h1, h2, h3, h4.fr (fun i h1 _ => hM i (by omega)) (by rw [hR])⟩
theorem OptT.ok {G : Gm} {S : St} {o : Option Nat} {lo : Option Lw} (h : OptT G S o lo) : ∀ z, o = some z → ok G 7 z := by
  intro z hz
  rcases h with h | ⟨t, lw, h1, h2, h3, h4⟩
  · rw [h.1] at hz; cases hz
  · rw [h1] at hz
    obtain rfl := Option.some.inj hz
    have hk := h4.2.2.2.2.2.2.2.2.1
    have hb := h4.2.2.2.2.2.2.2.2.2.1
    exact ⟨by omega, hk⟩
def telO (o : Option Lw) (v : Nat) (e : Nat → Int64) : Option Int64 := match o with
  | none => none
  | some lw => tel lw v e lw.1
section
variable {G : Gm} {S : St} {Q : Int32 → St → Prop} {K : St → Prop} {q p : Nat} {a : Nat → Nat} {L : Nat → Lw}
theorem c_lawAt_y {k : Nat} {Q : Option Nat → St → Prop} (hH : PSh G S.2.2 p) (hP : ParC S p a) (hV : Va a) (hL : LwC G S p a L) (hk : k < a 2) (h : ∀ o, OptT G S o (some (L k)) → Q o S) : f_X5_lawAt G p (nI k) Q S := by
  have h6 := hV.2.2.1
  obtain ⟨t, h1, h2, h3⟩ := hL k hk
  show ite _ _ _
  rw [hP.2.2.1]
  refine ite_n (by simp (disch := omega) only [lit, nI_add, pk_mul, leI, ltI, eqI]; omega) (ite_n (by simp (disch := omega) only [lit, nI_add, pk_mul, leI, ltI, eqI]; omega) (ite_n (by simp (disch := omega) only [lit, nI_add, pk_mul, leI, ltI, eqI]; omega) (ite_n (by decide) (ex_y hH.2.2.2.2.2.2.1 ?_))))
  rw [in_iff (by omega), clI (by omega), hH.2.2.2.2.2.2.2.2.2.2.2.2.2]
  exact ⟨by omega, nm_e (h _ (.inr ⟨t, L k, h1, rfl, h2, h3⟩))⟩
theorem c_lawAt_n {v : Int32} {Q : Option Nat → St → Prop} (hP : ParC S p a) (hv : v < 0 ∨ nI (a 2) ≤ v) (h : Q none S) : f_X5_lawAt G p v Q S := by
  show ite _ _ _
  rw [hP.2.2.1]
  refine ite_c (fun _ => ite_y rfl h) (fun h0 => ?_)
  rcases hv with hv | hv
  · exact absurd hv h0
  · exact ite_y hv (ite_y rfl h)
theorem c_lawInForce {Q : Option Nat → St → Prop} (hH : PSh G S.2.2 p) (hP : ParC S p a) (hV : Va a) (hL : LwC G S p a L) (h : ∀ o, OptT G S o (frc a L) → Q o S) : f_X5_lawInForce G p Q S := by
  unfold f_X5_lawInForce
  rw [hP.2.2.2.1]
  have h3 := hV.2.2.2.1
  have h6 := hV.2.2.1
  by_cases h0 : a 3 = 0
  · rw [h0]
    refine c_lawAt_n hP (.inl (by decide)) ⟨fun z hz => (by cases hz), h none ?_⟩
    exact .inl ⟨rfl, if_pos h0⟩
  · rw [show nI (a 3) - 1 = nI (a 3 - 1) from by rw [lit, sbI (by omega)]]
    refine c_lawAt_y hH hP hV hL (k := a 3 - 1) (by omega) (fun o ho => ?_)
    have e : frc a L = some (L (a 3 - 1)) := if_neg h0
    exact ⟨ho.ok, h o (by rw [e]; exact ho)⟩
theorem c_toldO {v : Nat} {o : Option Nat} {lo : Option Lw} {e : Nat → Int64} (hJ : JSh G S.2.2 q) (hv : v ≤ 3) (hT : OptT G S o lo) (he : ∀ x, x < 9 → (S.1 (q + 1) x).toInt64 = e x) (hs : smE e) (k : ∀ S', Lk (q + 2) 0 S S' → Q (wv (telO lo v e)) S') : f_X2_lastTold G q o (nI v) Q S := by
  rcases hT with ⟨rfl, rfl⟩ | ⟨t, lw, rfl, rfl, h3, h4⟩
  · exact ⟨fun a ha => (by cases ha), fun _ => k S (Lk.refl _ _ S)⟩
  · exact c_lastTold hJ hv h4 he hs k
theorem Lk.fr {s top : Nat} {S S' : St} (h : Lk s top S S') : Fr (fun i => i = s + 1) S S' := ⟨h.2.1, fun i hi => ⟨congrFun h.1 i, h.2.2.1 i hi⟩⟩
/-- the words about a sin -/
def eS (a : Nat → Nat) (j k : Nat) : Nat → Int64 := fun x => if x = 0 then lN j else if x = 1 then lN k else if x = 2 then lN (a (8 + (4 * j + k))) else if x = 3 then lN (sn4 a j) else if x = 7 then lN (a 4) else if x = 8 then lN (a 6) else -1
/-- the words about a person -/
def eP (a : Nat → Nat) (j s : Nat) : Nat → Int64 := fun x => if x = 0 then lN j else if x = 3 then lN (sn4 a j) else if x = 4 then lN s else if x = 5 then lN (litN s) else if x = 6 then lN (lowN s) else if x = 7 then lN (a 4) else if x = 8 then lN (a 6) else -1
theorem sn4_le (hV : Va a) {j : Nat} (hj : j < 6) : sn4 a j ≤ 32 := by
  have h0 := hV.sin (i := 4 * j + 0) (by omega)
  have h1 := hV.sin (i := 4 * j + 1) (by omega)
  have h2 := hV.sin (i := 4 * j + 2) (by omega)
  have h3 := hV.sin (i := 4 * j + 3) (by omega)
  unfold sn4; omega
theorem lN_b {n : Nat} (h : n ≤ 1000) : -1000000000 ≤ (lN n).toInt ∧ (lN n).toInt ≤ 1000000000 := by rw [lN_toInt (by omega)]; omega
theorem eS_s (hV : Va a) {j k : Nat} (hj : j < 6) (hk : k < 4) : smE (eS a j k) := by
  have h1 := hV.sin (i := 4 * j + k) (by omega)
  have h2 := sn4_le hV hj
  have h3 := hV.2.2.2.2.1
  have h4 := hV.2.2.2.2.2.2.1
  intro x hx
  unfold eS
  repeat' split
  all_goals first | exact lN_b (by omega) | decide
theorem eP_s (hV : Va a) {j s : Nat} (hj : j < 6) (hs : s < 256) : smE (eP a j s) := by
  have h2 := sn4_le hV hj
  have h3 := hV.2.2.2.2.1
  have h4 := hV.2.2.2.2.2.2.1
  have h5 := litN_le s
  have h6 := lowN_le s
  intro x hx
  unfold eP
  repeat' split
  all_goals first | exact lN_b (by omega) | decide
theorem in9 (hJ : JSh G S.2.2 q) {n : Nat} (hn : n < 9) : vp_in (nI n) (G.2.1 (q + 1)) := by
  rw [hJ.2.2.2.1, in_iff (by omega)]; exact hn
theorem lt9 {x : Nat} (h : x < 9) : x = 0 ∨ x = 1 ∨ x = 2 ∨ x = 3 ∨ x = 4 ∨ x = 5 ∨ x = 6 ∨ x = 7 ∨ x = 8 := by omega
theorem c_aboutSin {j k : Nat} (hJ : JSh G S.2.2 q) (hH : PSh G S.2.2 p) (hP : ParC S p a) (hV : Va a) (hq : p + 7 < q) (hj : j < a 0) (hk : k < 4) (h : ∀ S', Fr (fun i => i = q + 1) S S' → (∀ x, x < 9 → (S'.1 (q + 1) x).toInt64 = eS a j k x) → K S') : f_X2_aboutSin G q p (nI j) (nI k) K S := by
  have h6 := hV.1
  have hX : ∀ i, p ≤ i → i ≤ p + 6 → ¬ (i = q + 1) := by intro i _ _; omega
  have f0 := Fr.refl (X := fun i => i = q + 1) S
  refine ex_y hJ.1 ⟨in9 (n := 0) hJ (by omega), nm_e (ex_y hJ.1 ⟨in9 (n := 1) hJ (by omega), nm_e (ex_y hJ.1 ?_)⟩)⟩
  have f2 := (f0.uI (j := (0 : Int32).toNatClampNeg) (v := nI j) rfl).uI (j := (1 : Int32).toNatClampNeg) (v := nI k) rfl
  refine c_sinOf hH (hP.fr f2 hX) hV hj hk ⟨in9 (n := 2) hJ (by omega), nm_e (ex_y hJ.1 ?_)⟩
  have f3 := f2.uI (j := (2 : Int32).toNatClampNeg) (v := nI (a (8 + (4 * j + k)))) rfl
  refine c_sinsOf hH (hP.fr f3 hX) hV hj ⟨in9 (n := 3) hJ (by omega), nm_e (ex_y hJ.1 ⟨in9 (n := 4) hJ (by omega), nm_e (ex_y hJ.1 ⟨in9 (n := 5) hJ (by omega), nm_e (ex_y hJ.1 ⟨in9 (n := 6) hJ (by omega), nm_e (ex_y hJ.1 ?_)⟩)⟩)⟩)⟩
  have f4 := (((f3.uI (j := (3 : Int32).toNatClampNeg) (v := nI (sn4 a j)) rfl).uI (j := (4 : Int32).toNatClampNeg) (v := -1) rfl).uI (j := (5 : Int32).toNatClampNeg) (v := -1) rfl).uI (j := (6 : Int32).toNatClampNeg) (v := -1) rfl
  refine c_termOf (k := 0) hH (hP.fr f4 hX) (by omega) ⟨in9 (n := 7) hJ (by omega), nm_e (ex_y hJ.1 ?_)⟩
  have f5 := f4.uI (j := (7 : Int32).toNatClampNeg) (v := nI (a (4 + 0))) rfl
  refine c_termOf (k := 2) hH (hP.fr f5 hX) (by omega) ⟨in9 (n := 8) hJ (by omega), nm_e ?_⟩
  have f6 := f5.uI (j := (8 : Int32).toNatClampNeg) (v := nI (a (4 + 2))) rfl
  refine h _ f6 ?_
  have h1 := hV.sin (i := 4 * j + k) (by omega)
  have h2 := sn4_le hV (j := j) (by omega)
  have h3 := hV.2.2.2.2.1
  have h4 := hV.2.2.2.2.2.2.1
  intro x hx
  have c0 : (0 : Int32).toNatClampNeg = 0 := rfl
  have c1 : (1 : Int32).toNatClampNeg = 1 := rfl
  have c2 : (2 : Int32).toNatClampNeg = 2 := rfl
  have c3 : (3 : Int32).toNatClampNeg = 3 := rfl
  have c4 : (4 : Int32).toNatClampNeg = 4 := rfl
  have c5 : (5 : Int32).toNatClampNeg = 5 := rfl
  have c6 : (6 : Int32).toNatClampNeg = 6 := rfl
  have c7 : (7 : Int32).toNatClampNeg = 7 := rfl
  have c8 : (8 : Int32).toNatClampNeg = 8 := rfl
  simp only [c0, c1, c2, c3, c4, c5, c6, c7, c8]
  rcases lt9 hx with rfl | rfl | rfl | rfl | rfl | rfl | rfl | rfl | rfl <;> simp only [uI, eS, and_self, and_true, true_and, if_true, if_false, Nat.reduceEqDiff, Nat.one_ne_zero, Nat.zero_ne_one, reduceCtorEq] <;> first | exact nI_l (by omega) | exact nI_l (n := a 4) (by omega) | exact nI_l (n := a 6) (by omega) | rfl
theorem c_aboutPerson {j s : Nat} (hJ : JSh G S.2.2 q) (hH : PSh G S.2.2 p) (hP : ParC S p a) (hV : Va a) (hq : p + 7 < q) (hj : j < a 0) (hs : s < 256) (h : ∀ S', Fr (fun i => i = q + 1) S S' → (∀ x, x < 9 → (S'.1 (q + 1) x).toInt64 = eP a j s x) → K S') : f_X2_aboutPerson G q p (nI j) (nI s) K S := by
  have h6 := hV.1
  have hX : ∀ i, p ≤ i → i ≤ p + 6 → ¬ (i = q + 1) := by intro i _ _; omega
  have f0 := Fr.refl (X := fun i => i = q + 1) S
  refine ex_y hJ.1 ⟨in9 (n := 0) hJ (by omega), nm_e (ex_y hJ.1 ⟨in9 (n := 1) hJ (by omega), nm_e (ex_y hJ.1 ⟨in9 (n := 2) hJ (by omega), nm_e (ex_y hJ.1 ?_)⟩)⟩)⟩
  have f3 := ((f0.uI (j := (0 : Int32).toNatClampNeg) (v := nI j) rfl).uI (j := (1 : Int32).toNatClampNeg) (v := -1) rfl).uI (j := (2 : Int32).toNatClampNeg) (v := -1) rfl
  refine c_sinsOf hH (hP.fr f3 hX) hV hj ⟨in9 (n := 3) hJ (by omega), nm_e (ex_y hJ.1 ⟨in9 (n := 4) hJ (by omega), nm_e (ex_y hJ.1 ?_)⟩)⟩
  refine c_litCells hs ⟨in9 (n := 5) hJ (by omega), nm_e (ex_y hJ.1 ?_)⟩
  refine c_lowestLit hs ⟨in9 (n := 6) hJ (by omega), nm_e (ex_y hJ.1 ?_)⟩
  have f4 := (((f3.uI (j := (3 : Int32).toNatClampNeg) (v := nI (sn4 a j)) rfl).uI (j := (4 : Int32).toNatClampNeg) (v := nI s) rfl).uI (j := (5 : Int32).toNatClampNeg) (v := nI (litN s)) rfl).uI (j := (6 : Int32).toNatClampNeg) (v := nI (lowN s)) rfl
  refine c_termOf (k := 0) hH (hP.fr f4 hX) (by omega) ⟨in9 (n := 7) hJ (by omega), nm_e (ex_y hJ.1 ?_)⟩
  have f5 := f4.uI (j := (7 : Int32).toNatClampNeg) (v := nI (a (4 + 0))) rfl
  refine c_termOf (k := 2) hH (hP.fr f5 hX) (by omega) ⟨in9 (n := 8) hJ (by omega), nm_e ?_⟩
  have f6 := f5.uI (j := (8 : Int32).toNatClampNeg) (v := nI (a (4 + 2))) rfl
  refine h _ f6 ?_
  have h2 := sn4_le hV (j := j) (by omega)
  have h3 := hV.2.2.2.2.1
  have h4 := hV.2.2.2.2.2.2.1
  have h5 := litN_le s
  have h6 := lowN_le s
  intro x hx
  have c0 : (0 : Int32).toNatClampNeg = 0 := rfl
  have c1 : (1 : Int32).toNatClampNeg = 1 := rfl
  have c2 : (2 : Int32).toNatClampNeg = 2 := rfl
  have c3 : (3 : Int32).toNatClampNeg = 3 := rfl
  have c4 : (4 : Int32).toNatClampNeg = 4 := rfl
  have c5 : (5 : Int32).toNatClampNeg = 5 := rfl
  have c6 : (6 : Int32).toNatClampNeg = 6 := rfl
  have c7 : (7 : Int32).toNatClampNeg = 7 := rfl
  have c8 : (8 : Int32).toNatClampNeg = 8 := rfl
  simp only [c0, c1, c2, c3, c4, c5, c6, c7, c8]
  rcases lt9 hx with rfl | rfl | rfl | rfl | rfl | rfl | rfl | rfl | rfl <;> simp only [uI, eP, and_self, and_true, true_and, if_true, if_false, Nat.reduceEqDiff, Nat.one_ne_zero, Nat.zero_ne_one, reduceCtorEq] <;> first | exact nI_l (by omega) | exact nI_l (n := a 4) (by omega) | exact nI_l (n := a 6) (by omega) | rfl
end
