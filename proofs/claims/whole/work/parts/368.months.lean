-- needs: 367
/-! months: how they are drawn, and the class. -/
def drB (x : Nat) : Nat := (x * 1103 + 12345) % 1000003
theorem drB_lt (x : Nat) : drB x < 1000003 := Nat.mod_lt _ (by omega)
def mj (b : Rw) (x : Nat) : Nat := drB x % b 0
def mk4 (x : Nat) : Nat := drB (drB x) % 4
def mt3 (x : Nat) : Nat := drB (drB (drB x)) % 3
def mb (L : Nat → Lw) (b : Rw) (x : Nat) : Rw := if mt3 x = 1 then (if barA (frc b L) b (mj b x) = true then b else up b (32 + mj b x) (glsA (frc b L) b (mj b x))) else up b (8 + (4 * mj b x + mk4 x)) (max 0 (min 8 ((b (8 + (4 * mj b x + mk4 x)) : Int) + (1 - (mt3 x : Int))))).toNat
def mc (L : Nat → Lw) (b : Rw) (x : Nat) : Nat := if mt3 x = 1 ∧ ¬ barA (frc b L) b (mj b x) = true then 1 else 0
def monS (L : Nat → Lw) : Nat → Rw → Nat → Nat → Rw × Nat
  | 0, b, _, c => (b, c)
  | n + 1, b, x, c => if 999 ≤ b 4 then (b, c) else monS L n (dayA (frc (mb L b x) L) (mb L b x)) (drB (drB (drB x))) (c + mc L b x)
theorem lN_dv {a d : Nat} (ha : a < 2147483648) (h0 : 0 < d) (hd : d < 2147483648) : lN a / lN d = lN (a / d) := by
  apply Int64.toInt_inj.mp
  rw [lg_ldiv_nonneg (by rw [lN_toInt ha]; omega) (by rw [lN_toInt hd]; omega), lN_toInt ha, lN_toInt hd, lN_toInt (Nat.lt_of_le_of_lt (Nat.div_le_self a d) ha)]
  first | rfl | exact (Int.natCast_ediv _ _).symm
theorem lN_rm {a d : Nat} (ha : a < 2147483648) (h0 : 0 < d) (hd : d < 2147483648) : lN a - lN a / lN d * lN d = lN (a % d) := by
  rw [lN_dv ha h0 hd, lN_mul, lN_sub (Nat.div_mul_le_self a d)]
  exact congrArg lN (by have := Nat.div_add_mod' a d; omega)
theorem dr_l {x : Nat} (hx : x < 1000003) : ((lN x * 1103) + 12345) - ((lN x * 1103) + 12345) / 1000003 * 1000003 = lN (drB x) := by
  rw [show (1103 : Int64) = lN 1103 from rfl, show (12345 : Int64) = lN 12345 from rfl, show (1000003 : Int64) = lN 1000003 from rfl, lN_mul, lN_add, lN_rm (by omega) (by omega) (by omega)]; rfl
section
variable {G : Gm} {S S' : St} {a b m : Rw} {L : Nat → Lw} {I : Im} {un tn : Nat} {u : Un} {T : Nat → Nat} {fl : Nat → Int32} {Q : Int32 → St → Prop} {K : St → Prop}
theorem c_draw {x : Nat} (hx : x < 1000003) (h : Q (nI (drB x)) S) : f_X1_drawBehind G (nI x) Q S := by
  unfold f_X1_drawBehind
  rw [nI_l (by omega), dr_l hx, lN_i]; exact h
/-- what is the same -/
def kp (a b : Rw) : Prop := ∀ i, i < 4 ∨ (5 ≤ i ∧ i < 8) ∨ 38 ≤ i → b i = a i
theorem kp.up {k v : Nat} (h : kp a b) (hk : 8 ≤ k ∧ k < 38) : kp a (up b k v) := fun i hi => by rw [up_n _ (by omega)]; exact h i hi
theorem kp.day {lo : Option Lw} (h : kp a b) (h6 : b 0 ≤ 6) : kp a (dayA lo b) := fun i hi => by
  unfold dayA; rw [up_n _ (by omega)]
  rw [show dyK lo b (4 * b 0) i = b i from if_neg (by omega)]; exact h i hi
theorem Va.day {lo : Option Lw} (hV : Va a) (h9 : a 4 < 999) : Va (dayA lo a) :=
  (actA_ok (lo := lo) (v := 4) (j := 0) (k := 0) (y := 0) hV (by unfold actA; rw [if_neg (by omega), if_neg (by omega), if_neg (by omega), if_neg (by omega), if_pos h9])).1
theorem mb_ok {x : Nat} (hV : Va b) (h0 : 0 < b 0) (hk : kp a b) : Va (mb L b x) ∧ kp a (mb L b x) ∧ mb L b x 4 = b 4 ∧ mb L b x 0 = b 0 := by
  have h6 := hV.1
  have hj : mj b x < b 0 := Nat.mod_lt _ h0
  have hk4 : mk4 x < 4 := Nat.mod_lt _ (by omega)
  unfold mb
  split
  · split
    · exact ⟨hV, hk, rfl, rfl⟩
    · exact ⟨hV.ug (by omega) glsA_v, hk.up (by omega), up_n _ (by omega), up_n _ (by omega)⟩
  · exact ⟨hV.ups (by omega), hk.up (by omega), up_n _ (by omega), up_n _ (by omega)⟩
theorem c_drawDays {n x : Nat} (hD : Dd G S 24 9) (hP : ParC S 9 a) (hV : Va a) (hL : LwC G S 9 a L) (h0 : 0 < a 0) (hn : n ≤ 60) (hx : x < 1000003) (z : ∀ S' b c, (b, c) = monS L n a x 0 → Fr (XD 24 9) S S' → ParC S' 9 b → Va b → kp a b → c ≤ 60 → Q (nI c) S') : f_X1_drawDays G 24 9 (nI x) (nI n) Q S := by
  have h6 := hV.1
  have st : ∀ (f d c y : Nat) (b : Rw) (S1 : St), f + d = n → c ≤ d → y < 1000003 → monS L f b y c = monS L n a x 0 → Fr (XD 24 9) S S1 → ParC S1 9 b → Va b → kp a b → f_X1_drawDays_22_n G 24 9 (nI n) (nI (a 0)) Q (f + 1) (nI c) (nI y) (nI d) S1 := by
    intro f
    induction f with
    | zero =>
      intro d c y b S1 hf hc hy he f1 hP1 hVb hk
      rw [f_X1_drawDays_22_n]
      exact ite_y (by simp (disch := omega) only [lit, nI_add, pk_mul, leI, ltI, eqI]; omega) (z S1 b c he f1 hP1 hVb hk (by omega))
    | succ f ih =>
      intro d c y b S1 hf hc hy he f1 hP1 hVb hk
      rw [f_X1_drawDays_22_n]
      have hD1 : Dd G S1 24 9 := hD.ag f1.1
      have b4 := hVb.2.2.2.2.1
      have b0 : b 0 = a 0 := hk 0 (by omega)
      have y1 := drB_lt y
      have y2 := drB_lt (drB y)
      have y3 := drB_lt (drB (drB y))
      refine ite_n (by simp (disch := omega) only [lit, nI_add, pk_mul, leI, ltI, eqI]; omega) (c_termOf (k := 0) hD1.1 hP1 (by omega) ?_)
      rw [show (4 + 0 : Nat) = 4 from rfl]
      rw [monS] at he
      by_cases h9 : 999 ≤ b 4
      · rw [if_pos h9] at he
        exact ite_y (by simp (disch := omega) only [lit, nI_add, pk_mul, leI, ltI, eqI]; omega) (z S1 b c he f1 hP1 hVb hk (by omega))
      rw [if_neg h9] at he
      have b00 : 0 < b 0 := by omega
      have hj : mj b y < b 0 := Nat.mod_lt _ b00
      have hk4 : mk4 y < 4 := Nat.mod_lt _ (by omega)
      have ht : mt3 y < 3 := Nat.mod_lt _ (by omega)
      have ok := mb_ok (a := a) (b := b) (L := L) (x := y) hVb b00 hk
      have M1 : mt3 y = 1 → barA (frc b L) b (mj b y) = true → mb L b y = b ∧ mc L b y = 0 := fun h1 hb => ⟨by unfold mb; rw [if_pos h1, if_pos hb], by unfold mc; rw [if_neg (fun h => h.2 hb)]⟩
      have M2 : mt3 y = 1 → ¬ barA (frc b L) b (mj b y) = true → mb L b y = up b (32 + mj b y) (glsA (frc b L) b (mj b y)) ∧ mc L b y = 1 := fun h1 hb => ⟨by unfold mb; rw [if_pos h1, if_neg hb], by unfold mc; rw [if_pos ⟨h1, hb⟩]⟩
      have M3 : ¬ mt3 y = 1 → mb L b y = up b (8 + (4 * mj b y + mk4 y)) (max 0 (min 8 ((b (8 + (4 * mj b y + mk4 y)) : Int) + (1 - (mt3 y : Int))))).toNat ∧ mc L b y = 0 := fun h1 => ⟨by unfold mb; rw [if_neg h1], by unfold mc; rw [if_neg (fun h => h1 h.1)]⟩
      have E1 : drB y % a 0 = mj b y := by unfold mj; rw [b0]
      have E2 : drB (drB y) % 4 = mk4 y := rfl
      have E3 : drB (drB (drB y)) % 3 = mt3 y := rfl
      have d1 : ∀ {Q' : Int32 → St → Prop} {S' : St}, Q' (nI (drB y)) S' → f_X1_drawBehind G (nI y) Q' S' := fun h => c_draw hy h
      have d2 : ∀ {Q' : Int32 → St → Prop} {S' : St}, Q' (nI (drB (drB y))) S' → f_X1_drawBehind G (nI (drB y)) Q' S' := fun h => c_draw y1 h
      have d3 : ∀ {Q' : Int32 → St → Prop} {S' : St}, Q' (nI (drB (drB (drB y)))) S' → f_X1_drawBehind G (nI (drB (drB y))) Q' S' := fun h => c_draw y2 h
      generalize drB (drB (drB y)) = z3 at he y3 E3 d3
      generalize drB (drB y) = z2 at y2 E2 d3 d2
      generalize drB y = z1 at y1 E1 d2 d1
      generalize mb L b y = B at he ok M1 M2 M3
      generalize mc L b y = C at he M1 M2 M3
      generalize mj b y = J at hj M1 M2 M3 E1
      generalize mk4 y = Kk at hk4 M3 E2
      generalize mt3 y = Tt at ht M1 M2 M3 E3
      obtain ⟨o1, o2, o3, o4⟩ := ok
      refine ite_n (by simp (disch := omega) only [lit, nI_add, pk_mul, leI, ltI, eqI]; omega) (d1 ⟨by rw [lit, eqI (by omega) (by omega)]; omega, ?_⟩)
      rw [rmI (by omega) (by omega) (by omega), E1]
      refine nm_e (d2 ?_)
      rw [show (4 : Int32) = nI 4 from rfl, rmI (by omega) (by omega) (by omega), E2]
      refine nm_e (d3 ?_)
      rw [show (3 : Int32) = nI 3 from rfl, rmI (by omega) (by omega) (by omega), E3]
      refine nm_e ?_
      have hL1 : LwC G S1 9 b L := (hL.fr (fun i hi => (f1.2 i (by unfold XD; omega)).1) f1.1).eqa (hk 2 (by omega))
      -- the day after
      have day : ∀ (S2 : St) (e : Nat), Fr (XD 24 9) S S2 → ParC S2 9 B → e = c + C → e ≤ d + 1 → f_X1_drawDays_145 G (f_X1_drawDays_22_n G 24 9 (nI n) (nI (a 0)) Q (f + 1)) 24 9 (nI n) (nI (a 0)) (nI e) (nI z3) (nI d) Q S2 := by
        intro S2 e f2 hP2 he2 hed
        have hL2 : LwC G S2 9 B L := (hL.fr (fun i hi => (f2.2 i (by unfold XD; omega)).1) f2.1).eqa (o2 2 (by omega))
        refine c_nextDay (hD.ag f2.1) hP2 o1 hL2 (by omega) (fun S3 f3 hP3 => ?_)
        rw [nI_1]
        rw [← he2] at he
        exact ih (d + 1) e _ _ S3 (by omega) hed y3 he (f2.trans f3) hP3 (o1.day (by omega)) (o2.day (by have := o1.1; omega))
      by_cases h1 : Tt = 1
      · refine ite_y (by rw [h1]; rfl) (ex_y hD1.2.2.1 (c_bars hD1.2.1 hD1.1 hP1 hVb hL1 (by omega) (by omega) hj (fun S2 f2 => ?_)))
        have f2' : Fr (XD 24 9) S S2 := f1.trans (f2.mono (fun i hi => by unfold XD; omega))
        by_cases hb : barA (frc b L) b J = true
        · rw [if_pos hb]
          obtain ⟨em, ec⟩ := M1 h1 hb
          exact ite_n (by decide) (day S2 c f2' (by rw [em]; exact hP1.fr f2 (fun i _ _ => by omega)) (by omega) (by omega))
        · rw [if_neg hb]
          obtain ⟨em, ec⟩ := M2 h1 hb
          have hD2 : Dd G S2 24 9 := hD.ag f2'.1
          have hP2 : ParC S2 9 b := hP1.fr f2 (fun i _ _ => by omega)
          have hL2 : LwC G S2 9 b L := (hL.fr (fun i hi => (f2'.2 i (by unfold XD; omega)).1) f2'.1).eqa (hk 2 (by omega))
          refine ite_y rfl (ex_y hD2.2.2.1 (c_lawInForce hD2.1 hP2 hVb hL2 (fun o ho => ⟨ho.ok, ?_⟩)))
          refine c_glassBy hD2.2.1 hD2.1 hP2 hVb (by omega) (by omega) ho hj (fun S3 f3 => ?_)
          have hP3 : ParC S3 9 b := hP2.fr f3 (fun i _ _ => by omega)
          refine c_setGlass (by rw [f3.1]; exact hD2.1) hP3 hVb hj ?_
          rw [nI_1]
          exact day _ (c + 1) (Fr.uI (f2'.trans (f3.mono (fun i hi => by unfold XD; omega))) (by unfold XD; omega)) (by rw [em]; exact hP3.set (by unfold pos; omega)) (by omega) (by omega)
      · refine ite_n (by rw [lit, eqI (by omega) (by omega)]; exact h1) ?_
        obtain ⟨em, ec⟩ := M3 h1
        have s8 := hVb.sin (i := 4 * J + Kk) (by omega)
        refine c_sinOf hD1.1 hP1 hVb hj hk4 (c_setSin hD1.1 hP1 hVb hj hk4 ?_)
        have er : nI (b (8 + (4 * J + Kk))) + 1 - nI Tt = nI (b (8 + (4 * J + Kk))) + (1 - nI Tt) := by rw [Int32.sub_eq_add_neg, Int32.add_assoc, ← Int32.sub_eq_add_neg]
        have e1 : (1 - nI Tt).toInt = 1 - (Tt : Int) := by
          have : Tt = 0 ∨ Tt = 2 := by omega
          rcases this with e | e <;> rw [e] <;> rfl
        rw [er, clm s8 e1 (by omega) (by omega)]
        exact day _ c (f1.uI (by unfold XD; omega)) (by rw [em]; exact hP1.set (by unfold pos; omega)) (by omega) (by omega)
  unfold f_X1_drawDays
  rw [hP.1]
  refine nm_e (ite_y (by simp (disch := omega) only [lit, nI_add, pk_mul, leI, ltI, eqI]; omega) ⟨n + 1, ?_⟩)
  exact st n 0 0 x a S (by omega) (by omega) hx rfl (Fr.refl S) hP hV (fun _ _ => rfl)
end
