-- needs: 351
/-! The deeds: what each comes to, and how the class does it. -/
abbrev prI (a : Rw) (j : Int32) : Prop := 0 ≤ j.toInt ∧ j.toInt < a 0
def ix (j : Int32) : Nat := j.toInt.toNat
def dyV (lo : Option Lw) (a : Rw) (i : Nat) : Nat := (max 0 (min 8 ((a i : Int) + grwA lo a ((i - 8) / 4) ((i - 8) % 4)))).toNat
def dyK (lo : Option Lw) (a : Rw) (v : Nat) : Rw := fun i => if 8 ≤ i ∧ i < 8 + v then dyV lo a i else a i
def dayA (lo : Option Lw) (a : Rw) : Rw := up (dyK lo a (4 * a 0)) 4 (a 4 + 1)
def actA (lo : Option Lw) (a : Rw) (v : Nat) (j k y : Int32) : Nat ⊕ (Nat × Rw) :=
  if v = 0 then
    if ¬ (0 ≤ k.toInt ∧ k.toInt < 4) then .inl 1 else if ¬ (-8 ≤ y.toInt ∧ y.toInt ≤ 8) then .inl 1 else if ¬ prI a j then .inl 2 else
    if 0 ≤ (a (8 + (4 * ix j + ix k)) : Int) + y.toInt ∧ (a (8 + (4 * ix j + ix k)) : Int) + y.toInt ≤ 8 then .inr (((a (8 + (4 * ix j + ix k)) : Int) + y.toInt).toNat, up a (8 + (4 * ix j + ix k)) ((a (8 + (4 * ix j + ix k)) : Int) + y.toInt).toNat) else .inl 3
  else if v = 1 then if ¬ prI a j then .inl 2 else if barA lo a (ix j) = true then .inl 3 else .inr (gn (glsA lo a (ix j)), up a (32 + ix j) (glsA lo a (ix j)))
  else if v = 2 then if j = k then .inl 1 else if ¬ prI a j then .inl 2 else if ¬ prI a k then .inl 2 else .inr (gn (a (32 + ix j)) + gn (a (32 + ix k)), up (up a (32 + ix j) (a (32 + ix k))) (32 + ix k) (a (32 + ix j)))
  else if v = 3 then if ¬ prI a j then .inl 2 else if a (32 + ix j) = 0 then .inl 3 else .inr (gn (a (32 + ix j)), up a (32 + ix j) 0)
  else if a 4 < 999 then .inr (a 4 + 1, dayA lo a) else .inl 3
theorem pr_y {a : Rw} {j : Nat} (hV : Va a) (hj : j < a 0) : prI a (nI j) := by
  have := hV.1
  unfold prI; rw [nI_toInt (by omega)]; omega
theorem rg_no {n : Nat} {j : Int32} (hn : n < 2147483648) (h : j < 0 ∨ nI n ≤ j) : ¬ (0 ≤ j.toInt ∧ j.toInt < n) := by
  rcases h with h | h
  · rw [i32_lt] at h
    have : (0 : Int32).toInt = 0 := rfl
    omega
  · rw [i32_le, nI_toInt (by omega)] at h; omega
theorem pr_n {a : Rw} {j : Int32} (hV : Va a) (h : j < 0 ∨ nI (a 0) ≤ j) : ¬ prI a j := by
  have := hV.1
  exact rg_no (by omega) h
theorem ix_n {j : Nat} (hj : j < 2147483648) : ix (nI j) = j := by unfold ix; rw [nI_toInt hj]; rfl
theorem add_i {x y : Int32} (h1 : -2147483648 ≤ x.toInt + y.toInt) (h2 : x.toInt + y.toInt < 2147483648) : (x + y).toInt = x.toInt + y.toInt := by
  rw [Int32.toInt_add]
  exact Int.bmod_eq_of_le (by omega) (by omega)
theorem clm {x : Nat} {r : Int32} {g : Int} (hx : x ≤ 8) (hr : r.toInt = g) (h1 : -8 ≤ g) (h2 : g ≤ 8) : mx 0 (mn 8 (nI x + r)) = nI (max 0 (min 8 ((x : Int) + g))).toNat := by
  apply i32n (by omega)
  have e : (nI x + r).toInt = x + g := by rw [add_i, nI_toInt (by omega), hr] <;> rw [nI_toInt (by omega), hr] <;> omega
  have e8 : (8 : Int32).toInt = 8 := rfl
  have e0 : (0 : Int32).toInt = 0 := rfl
  rw [mx_i, mn_i, e, e8, e0]; omega
theorem cl_id {x : Int32} {n : Nat} (h : x.toInt = n) (hn : n ≤ 8) : mx 0 (mn 8 x) = nI n := by
  apply i32n (by omega)
  have e8 : (8 : Int32).toInt = 8 := rfl
  have e0 : (0 : Int32).toInt = 0 := rfl
  rw [mx_i, mn_i, h, e8, e0]; omega
theorem dyV_le {lo : Option Lw} {a : Rw} {i : Nat} : dyV lo a i ≤ 8 := by unfold dyV; omega
/-- deeds lie so -/
def Dd (G : Gm) (S : St) (d p : Nat) : Prop := PSh G S.2.2 p ∧ JSh G S.2.2 (d + 1) ∧ S.2.2 d 0 = some (d + 1) ∧ S.2.2 d 1 = some (d + 5) ∧ G.2.1 (d + 5) = 24 ∧ p + 7 < d ∧ d + 5 < 118
def XD (d p i : Nat) : Prop := i = p + 1 ∨ i = p + 2 ∨ i = p + 4 ∨ i = d + 2 ∨ i = d + 4 ∨ i = d + 5
section
variable {G : Gm} {S S' : St} {d p t : Nat} {a : Rw} {L : Nat → Lw} {un : Nat} {u : Un} {Q : Int32 → St → Prop} {K : St → Prop}
theorem LwC.eq3 {b : Rw} (h : LwC G S p a L) (e : b 2 = a 2) : LwC G S p b L := h.eqa e
theorem Dd.ag (h : Dd G S d p) (e : S'.2.2 = S.2.2) : Dd G S' d p := by unfold Dd; rw [e]; exact h
theorem c_nextDay (hD : Dd G S d p) (hP : ParC S p a) (hV : Va a) (hL : LwC G S p a L) (h9 : a 4 < 999) (z : ∀ S', Fr (XD d p) S S' → ParC S' p (dayA (frc a L) a) → Q (nI (a 4 + 1)) S') : f_X1_nextDay G d p Q S := by
  obtain ⟨hH, hJ, d0, d1, d5, hp, hd⟩ := hD
  have h6 := hV.1
  -- the end
  have s3 : ∀ S1, Fr (XD d p) S S1 → ParC S1 p (dyK (frc a L) a (4 * a 0)) → f_X1_nextDay_103 G p Q S1 := by
    intro S1 f1 hP1
    have e4 : dyK (frc a L) a (4 * a 0) 4 = a 4 := if_neg (by omega)
    refine c_termOf (k := 0) (by rw [f1.1]; exact hH) hP1 (by omega) ?_
    rw [show dyK (frc a L) a (4 * a 0) (4 + 0) = a 4 from e4, nI_1]
    refine c_setTerm (k := 0) (by rw [f1.1]; exact hH) (by omega) ?_
    have hP2 : ParC (uI S1 (p + 4) 0 (nI (a 4 + 1))) p (dayA (frc a L) a) := hP1.set (x := 4) (by unfold pos; omega)
    refine c_termOf (k := 0) (by show PSh G S1.2.2 p; rw [f1.1]; exact hH) hP2 (by omega) ?_
    rw [show dayA (frc a L) a (4 + 0) = a 4 + 1 from up_s _ _ _]
    exact z _ (f1.uI (by unfold XD; omega)) hP2
  -- the sins
  have s2 : ∀ (n v : Nat) (S1 : St), n + v = 4 * a 0 → Fr (XD d p) S S1 → ParC S1 p (dyK (frc a L) a v) → (∀ i, i < 4 * a 0 → (S1.1 (d + 5) i).toInt = grwA (frc a L) a (i / 4) (i % 4)) → f_X1_nextDay_49_n G d p Q (n + 1) (nI v) S1 := by
    intro n
    induction n with
    | zero =>
      intro v S1 hv f1 hP1 hg
      rw [f_X1_nextDay_49_n]
      have hv : v = 4 * a 0 := by omega
      have e0 : S1.1 p 0 = nI (a 0) := by rw [hP1.1]; rfl
      refine ite_y (by rw [e0, lit, pk_mul, leI (by omega) (by omega)]; omega) (s3 S1 f1 (by rw [← hv]; exact hP1))
    | succ n ih =>
      intro v S1 hv f1 hP1 hg
      rw [f_X1_nextDay_49_n]
      have e0 : S1.1 p 0 = nI (a 0) := by rw [hP1.1]; rfl
      have a0 : dyK (frc a L) a v 0 = a 0 := if_neg (by omega)
      have hH1 : PSh G S1.2.2 p := by rw [f1.1]; exact hH
      have vV : Va (dyK (frc a L) a v) := by
        obtain ⟨h0, h1, h2, h3, h4, h5, h6, h7, h8, h9, h10, h11, h12, h13⟩ := hV
        have o : ∀ i, i < 8 ∨ 32 ≤ i → dyK (frc a L) a v i = a i := fun i hi => if_neg (by omega)
        refine ⟨?_, ?_, ?_, ?_, ?_, ?_, ?_, ?_, fun k hk => ?_, fun k hk => ?_, fun k hk => ?_, fun k hk => ?_, fun k hk => ?_, fun k hk => ?_⟩
        · rw [o _ (by omega)]; exact h0
        · rw [o _ (by omega)]; exact h1
        · rw [o _ (by omega)]; exact h2
        · rw [o _ (by omega), o _ (by omega)]; exact h3
        · rw [o _ (by omega)]; exact h4
        · rw [o _ (by omega)]; exact h5
        · rw [o _ (by omega)]; exact h6
        · rw [o _ (by omega)]; exact h7
        · unfold dyK; split
          · exact dyV_le
          · exact h8 k hk
        · rw [o _ (by omega)]; exact h9 k hk
        · rw [o _ (by omega)]; exact h10 k hk
        · rw [o _ (by omega)]; exact h11 k hk
        · rw [o _ (by omega)]; exact h12 k hk
        · rw [o _ (by omega)] at hk; rw [o _ (by omega), o _ (by omega)]; exact h13 k hk
      refine ite_n (by rw [e0, lit, pk_mul, leI (by omega) (by omega)]; omega) (ex_y (by rw [f1.1]; exact d1) (ite_n (by rw [d5, leI (by omega) (by omega)]; omega) ?_))
      rw [show (4 : Int32) = nI 4 from rfl, rmI (by omega) (by omega) (by omega), dvI (by omega) (by omega) (by omega)]
      refine c_sinOf hH1 hP1 vV (by rw [a0]; omega) (by omega) (ex_y (by rw [f1.1]; exact d1) ⟨by rw [d5, in_iff (by omega)]; omega, ?_⟩)
      refine c_setSin hH1 hP1 vV (by rw [a0]; omega) (by omega) ?_
      have ev : 4 * (v / 4) + v % 4 = v := by omega
      rw [ev, clI (by omega), show dyK (frc a L) a v (8 + v) = a (8 + v) from if_neg (by omega), clm (hV.sin (by omega)) (hg v (by omega)) grwA_le.1 grwA_le.2, nI_1]
      refine ih (v + 1) _ (by omega) (f1.uI (by unfold XD; omega)) ?_ (fun i hi => by rw [uI_n _ _ _ _ (by omega)]; exact hg i hi)
      have hP2 := hP1.set (q := p + 1) (i := v) (v := dyV (frc a L) a (8 + v)) (x := 8 + v) (by unfold pos; omega)
      have e1 : up (dyK (frc a L) a v) (8 + v) (dyV (frc a L) a (8 + v)) = dyK (frc a L) a (v + 1) := by
        funext i
        unfold up dyK
        by_cases e : i = 8 + v
        · rw [if_pos e, if_pos (by omega), e]
        · rw [if_neg e]
          by_cases e2 : 8 ≤ i ∧ i < 8 + v
          · rw [if_pos e2, if_pos (by omega)]
          · rw [if_neg e2, if_neg (by omega)]
      rw [e1] at hP2
      unfold dyV at hP2
      rw [show 8 + v - 8 = v from by omega] at hP2
      exact hP2
  -- how they grow
  have s1 : ∀ (n v : Nat) (S1 : St), n + v = 4 * a 0 → Fr (fun i => i = d + 2 ∨ i = d + 4 ∨ i = d + 5) S S1 → (∀ i, i < v → (S1.1 (d + 5) i).toInt = grwA (frc a L) a (i / 4) (i % 4)) → f_X1_nextDay_2_n G d p Q (n + 1) (nI v) S1 := by
    intro n
    induction n with
    | zero =>
      intro v S1 hv f1 hg
      rw [f_X1_nextDay_2_n]
      have hv : v = 4 * a 0 := by omega
      have e0 : S1.1 p 0 = nI (a 0) := by rw [(f1.2 p (by omega)).1]; exact hP.1
      refine ite_y (by rw [e0, lit, pk_mul, leI (by omega) (by omega)]; omega) ⟨4 * a 0 + 1, s2 _ 0 S1 (by omega) (f1.mono (fun i hi => by unfold XD; omega)) ?_ (by rw [← hv]; exact hg)⟩
      have e : dyK (frc a L) a 0 = a := by funext i; exact if_neg (by omega)
      rw [e]
      exact hP.fr f1 (fun i h1 h2 => by omega)
    | succ n ih =>
      intro v S1 hv f1 hg
      rw [f_X1_nextDay_2_n]
      have hP1 : ParC S1 p a := hP.fr f1 (fun i h1 h2 => by omega)
      have hL1 : LwC G S1 p a L := hL.fr (fun i hi => (f1.2 i (by omega)).1) f1.1
      refine ite_n (by rw [hP1.1, lit, pk_mul, leI (by omega) (by omega)]; omega) (ex_y (by rw [f1.1]; exact d1) (ite_n (by rw [d5, leI (by omega) (by omega)]; omega) (ex_y (by rw [f1.1]; exact d1) (ex_y (by rw [f1.1]; exact d0) ?_))))
      rw [show (4 : Int32) = nI 4 from rfl, rmI (by omega) (by omega) (by omega), dvI (by omega) (by omega) (by omega)]
      refine c_growth (by rw [f1.1]; exact hJ) (by rw [f1.1]; exact hH) hP1 hV hL1 (by omega) (by omega) (by omega) (by omega) (fun S2 r hr f2 => ⟨by rw [d5, in_iff (by omega)]; omega, nm_e ?_⟩)
      rw [clI (by omega), nI_1]
      refine ih (v + 1) _ (by omega) (Fr.uI (f1.trans (f2.mono (fun i hi => by omega))) (by omega)) (fun i hi => ?_)
      rw [uI_s]
      by_cases e : i = v
      · rw [if_pos e, e]; exact hr
      · rw [if_neg e, (f2.2 (d + 5) (by omega)).1]; exact hg i (by omega)
  exact ⟨4 * a 0 + 1, s1 _ 0 S (by omega) (Fr.refl S) (fun i hi => absurd hi (by omega))⟩
end
