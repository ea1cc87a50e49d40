def f_X5_setSin (G : Gm) (v0 : Nat) (v1 : Int32) (v2 : Int32) (v3 : Int32) (Q : St → Prop) (S : St) : Prop :=
  f_X5_has G v0 v1 (fun r2 S1 => (if r2 = 0 then Q S1 else f_X10_isKind G v2 (fun r5 S4 => (if r5 = 0 then Q S4 else (∃ a7, S4.2.2 v0 1 = some a7 ∧ f_X10_nearest G v3 0 8 (fun r9 S8 => (vp_in ((v1 * 4) + v2) (G.2.1 a7) ∧ ∀ S11, S11 = uI S8 a7 ((v1 * 4) + v2).toNatClampNeg r9 → Q S11)) S4))) S1)) S
def f_X2_aboutSin (G : Gm) (v0 : Nat) (v1 : Nat) (v2 : Int32) (v3 : Int32) (Q : St → Prop) (S : St) : Prop :=
  (∃ a1, S.2.2 v0 0 = some a1 ∧ (vp_in 0 (G.2.1 a1) ∧ ∀ S3, S3 = uI S a1 (0 : Int32).toNatClampNeg v2 → (∃ a4, S3.2.2 v0 0 = some a4 ∧ (vp_in 1 (G.2.1 a4) ∧ ∀ S6, S6 = uI S3 a4 (1 : Int32).toNatClampNeg v3 → (∃ a7, S6.2.2 v0 0 = some a7 ∧ f_X5_sinOf G v1 v2 v3 (fun r9 S8 => (vp_in 2 (G.2.1 a7) ∧ ∀ S11, S11 = uI S8 a7 (2 : Int32).toNatClampNeg r9 → (∃ a12, S11.2.2 v0 0 = some a12 ∧ f_X5_sinsOf G v1 v2 (fun r14 S13 => (vp_in 3 (G.2.1 a12) ∧ ∀ S16, S16 = uI S13 a12 (3 : Int32).toNatClampNeg r14 → (∃ a17, S16.2.2 v0 0 = some a17 ∧ (vp_in 4 (G.2.1 a17) ∧ ∀ S19, S19 = uI S16 a17 (4 : Int32).toNatClampNeg (-1) → (∃ a20, S19.2.2 v0 0 = some a20 ∧ (vp_in 5 (G.2.1 a20) ∧ ∀ S22, S22 = uI S19 a20 (5 : Int32).toNatClampNeg (-1) → (∃ a23, S22.2.2 v0 0 = some a23 ∧ (vp_in 6 (G.2.1 a23) ∧ ∀ S25, S25 = uI S22 a23 (6 : Int32).toNatClampNeg (-1) → (∃ a26, S25.2.2 v0 0 = some a26 ∧ f_X5_termOf G v1 0 (fun r28 S27 => (vp_in 7 (G.2.1 a26) ∧ ∀ S30, S30 = uI S27 a26 (7 : Int32).toNatClampNeg r28 → (∃ a31, S30.2.2 v0 0 = some a31 ∧ f_X5_termOf G v1 2 (fun r33 S32 => (vp_in 8 (G.2.1 a31) ∧ ∀ S35, S35 = uI S32 a31 (8 : Int32).toNatClampNeg r33 → Q S35)) S30))) S25))))))))) S11))) S6)))))
def f_X2_lensFor (G : Gm) (v0 : Nat) (v1 : Nat) (v2 : Option Nat) (v3 : Int32) (v4 : Int32) (Q : Int32 → St → Prop) (S : St) : Prop :=
  f_X2_aboutSin G v0 v1 v3 v4 (fun S1 => f_X2_lastTold G v0 v2 0 (fun r3 S2 => (if r3 = (-2147483648) then f_X5_sinOf G v1 v3 v4 (fun r6 S5 => (if r6 < 4 then Q 0 S5 else Q (v4 + 1) S5)) S2 else f_X10_nearest G r3 0 7 (fun r9 S8 => Q r9 S8) S2)) S1) S
def f_X2_glassBy_6_n (G : Gm) (v0 : Nat) (v1 : Nat) (v2 : Option Nat) (v3 : Int32) (Q : Int32 → St → Prop) : Nat → Int32 → Int32 → St → Prop
  | 0, _, _, _ => False
  | n + 1, v4, v5, S => (if 4 ≤ v5 then Q v4 S else f_X2_lensFor G v0 v1 v2 v3 v5 (fun r3 S2 => (if r3 = 0 then (f_X2_glassBy_6_n G v0 v1 v2 v3 Q n) v4 (v5 + 1) S2 else (∀ x5 : Int32, x5 = ((v4 * 10) + r3) + 1 → (f_X2_glassBy_6_n G v0 v1 v2 v3 Q n) x5 (v5 + 1) S2))) S)
def f_X2_glassBy_6 (G : Gm) (v0 : Nat) (v1 : Nat) (v2 : Option Nat) (v3 : Int32) (Q : Int32 → St → Prop) (v4 : Int32) (v5 : Int32) (S : St) : Prop := ∃ n, f_X2_glassBy_6_n G v0 v1 v2 v3 Q n v4 v5 S
def f_X2_glassBy (G : Gm) (v0 : Nat) (v1 : Nat) (v2 : Option Nat) (v3 : Int32) (Q : Int32 → St → Prop) (S : St) : Prop :=
  f_X2_glassBy_6 G v0 v1 v2 v3 Q 0 0 S
def f_X5_setGlass (G : Gm) (v0 : Nat) (v1 : Int32) (v2 : Int32) (Q : St → Prop) (S : St) : Prop :=
  f_X5_has G v0 v1 (fun r2 S1 => (if r2 = 0 then Q S1 else (∃ a4, S1.2.2 v0 2 = some a4 ∧ (vp_in v1 (G.2.1 a4) ∧ ∀ S6, S6 = uI S1 a4 v1.toNatClampNeg v2 → Q S6)))) S
def f_X3_lensesIn_17_n (G : Gm) (Q : Int32 → St → Prop) : Nat → Int32 → Int32 → St → Prop
  | 0, _, _, _ => False
  | n + 1, v1, v2, S => (if v2 ≤ 0 then Q v1 S else (∀ x2 : Int32, x2 = v2 - v2 / 10 * 10 → (if x2 < 1 then Q (-1) S else (if x2 ≤ 8 then (∀ x5 : Int32, x5 = v2 / 10 → (f_X3_lensesIn_17_n G Q n) (v1 + 1) x5 S) else Q (-1) S))))
def f_X3_lensesIn_17 (G : Gm) (Q : Int32 → St → Prop) (v1 : Int32) (v2 : Int32) (S : St) : Prop := ∃ n, f_X3_lensesIn_17_n G Q n v1 v2 S
def f_X3_lensesIn (G : Gm) (v0 : Int32) (Q : Int32 → St → Prop) (S : St) : Prop :=
  (if v0 < 0 then Q (-1) S else (if v0 ≤ 8888 then f_X3_lensesIn_17 G Q 0 v0 S else Q (-1) S))
def f_X1_exchange (G : Gm) (v0 : Nat) (v1 : Int32) (v2 : Int32) (Q : Int32 → St → Prop) (S : St) : Prop :=
  f_X5_glassOf G v0 v1 (fun r2 S1 => f_X5_glassOf G v0 v2 (fun r4 S3 => f_X5_setGlass G v0 v1 r4 (fun S5 => f_X5_setGlass G v0 v2 r2 (fun S6 => f_X3_lensesIn G r2 (fun r8 S7 => f_X5_glassOf G v0 v1 (fun r10 S9 => f_X3_lensesIn G r10 (fun r12 S11 => Q (r8 + r12) S11) S9) S7) S6) S5) S3) S1) S
def f_X1_takeOff (G : Gm) (v0 : Nat) (v1 : Int32) (Q : Int32 → St → Prop) (S : St) : Prop :=
  f_X5_glassOf G v0 v1 (fun r2 S1 => f_X3_lensesIn G r2 (fun r4 S3 => f_X5_setGlass G v0 v1 0 (fun S5 => Q r4 S5) S3) S1) S
def f_X2_growth (G : Gm) (v0 : Nat) (v1 : Nat) (v2 : Int32) (v3 : Int32) (Q : Int32 → St → Prop) (S : St) : Prop :=
  f_X2_aboutSin G v0 v1 v2 v3 (fun S1 => f_X5_lawInForce G v1 (fun r3 S2 => (∀ z, r3 = some z → ok G 7 z) ∧ f_X2_lastTold G v0 r3 1 (fun r6 S5 => (if r6 = (-2147483648) then Q 0 S5 else f_X10_nearest G r6 (-8) 8 (fun r9 S8 => Q r9 S8) S5)) S2) S1) S
def f_X5_setTerm (G : Gm) (v0 : Nat) (v1 : Int32) (v2 : Int32) (Q : St → Prop) (S : St) : Prop :=
  (if v1 < 0 then Q S else (if 4 ≤ v1 then Q S else (∃ a3, S.2.2 v0 4 = some a3 ∧ (vp_in v1 (G.2.1 a3) ∧ ∀ S5, S5 = uI S a3 v1.toNatClampNeg v2 → Q S5))))
def f_X1_nextDay_103 (G : Gm) (v1 : Nat) (Q : Int32 → St → Prop) (S : St) : Prop :=
  f_X5_termOf G v1 0 (fun r2 S1 => f_X5_setTerm G v1 0 (r2 + 1) (fun S3 => f_X5_termOf G v1 0 (fun r5 S4 => Q r5 S4) S3) S1) S
def f_X1_nextDay_49_n (G : Gm) (v0 : Nat) (v1 : Nat) (Q : Int32 → St → Prop) : Nat → Int32 → St → Prop
  | 0, _, _ => False
  | n + 1, v2, S => (if ((S.1 v1 0) * 4) ≤ v2 then f_X1_nextDay_103 G v1 Q S else (∃ a2, S.2.2 v0 1 = some a2 ∧ (if (nI (G.2.1 a2)) ≤ v2 then f_X1_nextDay_103 G v1 Q S else f_X5_sinOf G v1 (v2 / 4) (v2 - v2 / 4 * 4) (fun r5 S4 => (∃ a6, S4.2.2 v0 1 = some a6 ∧ (vp_in v2 (G.2.1 a6) ∧ f_X5_setSin G v1 (v2 / 4) (v2 - v2 / 4 * 4) (r5 + (S4.1 a6 v2.toNatClampNeg)) (fun S8 => (f_X1_nextDay_49_n G v0 v1 Q n) (v2 + 1) S8) S4))) S)))
def f_X1_nextDay_49 (G : Gm) (v0 : Nat) (v1 : Nat) (Q : Int32 → St → Prop) (v2 : Int32) (S : St) : Prop := ∃ n, f_X1_nextDay_49_n G v0 v1 Q n v2 S
def f_X1_nextDay_2_n (G : Gm) (v0 : Nat) (v1 : Nat) (Q : Int32 → St → Prop) : Nat → Int32 → St → Prop
  | 0, _, _ => False
  | n + 1, v2, S => (if ((S.1 v1 0) * 4) ≤ v2 then f_X1_nextDay_49 G v0 v1 Q 0 S else (∃ a2, S.2.2 v0 1 = some a2 ∧ (if (nI (G.2.1 a2)) ≤ v2 then f_X1_nextDay_49 G v0 v1 Q 0 S else (∃ a4, S.2.2 v0 1 = some a4 ∧ (∃ a5, S.2.2 v0 0 = some a5 ∧ f_X2_growth G a5 v1 (v2 / 4) (v2 - v2 / 4 * 4) (fun r7 S6 => (vp_in v2 (G.2.1 a4) ∧ ∀ S9, S9 = uI S6 a4 v2.toNatClampNeg r7 → (f_X1_nextDay_2_n G v0 v1 Q n) (v2 + 1) S9)) S)))))
def f_X1_nextDay_2 (G : Gm) (v0 : Nat) (v1 : Nat) (Q : Int32 → St → Prop) (v2 : Int32) (S : St) : Prop := ∃ n, f_X1_nextDay_2_n G v0 v1 Q n v2 S
def f_X1_nextDay (G : Gm) (v0 : Nat) (v1 : Nat) (Q : Int32 → St → Prop) (S : St) : Prop :=
  f_X1_nextDay_2 G v0 v1 Q 0 S
def f_X1_act (G : Gm) (v0 : Nat) (v1 : Nat) (v2 : Nat) (v3 : Int32) (v4 : Int32) (v5 : Int32) (v6 : Int32) (Q : Int32 → St → Prop) (S : St) : Prop :=
  f_X1_refusalOf G v0 v1 v3 v4 v5 v6 (fun r2 S1 => (if r2 = 0 then f_X9_remember G v2 v1 v3 (fun S4 => (if v3 = 0 then f_X5_sinOf G v1 v4 v5 (fun r6 S5 => f_X5_setSin G v1 v4 v5 (r6 + v6) (fun S7 => f_X5_sinOf G v1 v4 v5 (fun r9 S8 => Q r9 S8) S7) S5) S4 else (if v3 = 1 then (∃ a10, S4.2.2 v0 0 = some a10 ∧ f_X5_lawInForce G v1 (fun r12 S11 => (∀ z, r12 = some z → ok G 7 z) ∧ f_X2_glassBy G a10 v1 r12 v4 (fun r15 S14 => f_X5_setGlass G v1 v4 r15 (fun S16 => f_X5_glassOf G v1 v4 (fun r18 S17 => f_X3_lensesIn G r18 (fun r20 S19 => Q r20 S19) S17) S16) S14) S11) S4) else (if v3 = 2 then f_X1_exchange G v1 v4 v5 (fun r22 S21 => Q r22 S21) S4 else (if v3 = 3 then f_X1_takeOff G v1 v4 (fun r24 S23 => Q r24 S23) S4 else f_X1_nextDay G v0 v1 (fun r26 S25 => Q r26 S25) S4))))) S1 else Q r2 S1)) S
def f_X0_runOnce_204 (G : Gm) (u0 : Int32) (u1 : Nat) (Q : Int32 → St → Prop) (S : St) : Prop :=
  (∀ S1, S1 = uI S u1 7 u0 → Q 1 S1)
def f_X0_runOnce_127 (G : Gm) (v0 : Nat) (v1 : Nat) (v2 : Int32) (v3 : Nat) (v4 : Nat) (v9 : Int32) (u0 : Int32) (Q : Int32 → St → Prop) (S : St) : Prop :=
  (if v9 = (-2147483648) then Q 0 S else (if u0 = (-2147483648) then Q 0 S else f_X8_verbOf G v1 v2 (fun r4 S3 => (∃ a5, S3.2.2 v0 3 = some a5 ∧ f_X1_act G a5 v3 v4 r4 v9 u0 1 (fun r7 S6 => (if 0 ≤ r7 then (∀ S9, S9 = uI S6 v0 6 ((S6.1 v0 6) + 1) → (if r4 = 1 then f_X0_runOnce_204 G r7 v0 Q S9 else f_X0_runOnce_204 G (S9.1 v0 7) v0 Q S9)) else Q 0 S6)) S3)) S))
def f_X0_runOnce_98 (G : Gm) (v0 : Nat) (v1 : Nat) (v2 : Int32) (v3 : Nat) (v4 : Nat) (v6 : Int32) (v7 : Int32) (u0 : Int32) (Q : Int32 → St → Prop) (S : St) : Prop :=
  (if v7 ≤ v6 then f_X0_runOnce_127 G v0 v1 v2 v3 v4 u0 0 Q S else (∃ a2, S.2.2 v0 4 = some a2 ∧ (∃ a3, S.2.2 v0 5 = some a3 ∧ f_X7_worth G a2 v1 v6 v7 a3 (fun r5 S4 => f_X0_runOnce_127 G v0 v1 v2 v3 v4 u0 r5 Q S4) S)))
def f_X0_runOnce_71 (G : Gm) (v0 : Nat) (v1 : Nat) (v2 : Int32) (v3 : Nat) (v4 : Nat) (v5 : Int32) (v6 : Int32) (v7 : Int32) (Q : Int32 → St → Prop) (S : St) : Prop :=
  (if v6 ≤ v5 then f_X0_runOnce_98 G v0 v1 v2 v3 v4 v6 v7 0 Q S else (∃ a2, S.2.2 v0 4 = some a2 ∧ (∃ a3, S.2.2 v0 5 = some a3 ∧ f_X7_worth G a2 v1 v5 v6 a3 (fun r5 S4 => f_X0_runOnce_98 G v0 v1 v2 v3 v4 v6 v7 r5 Q S4) S)))
def f_X0_runOnce (G : Gm) (v0 : Nat) (v1 : Nat) (v2 : Int32) (v3 : Nat) (v4 : Nat) (Q : Int32 → St → Prop) (S : St) : Prop :=
  f_X8_usesOf G v1 v2 (fun r2 S1 => f_X0_learnWords G v0 r2 v3 (fun S3 => f_X8_markOf G v1 v2 0 (fun r5 S4 => f_X8_markOf G v1 v2 1 (fun r7 S6 => f_X8_markOf G v1 v2 2 (fun r9 S8 => f_X8_markOf G v1 v2 3 (fun r11 S10 => (if r11 ≤ r9 then f_X0_runOnce_71 G v0 v1 v2 v3 v4 r5 r7 r9 Q S10 else (∃ a13, S10.2.2 v0 4 = some a13 ∧ (∃ a14, S10.2.2 v0 5 = some a14 ∧ f_X7_worth G a13 v1 r9 r11 a14 (fun r16 S15 => (if r16 = 1 then f_X0_runOnce_71 G v0 v1 v2 v3 v4 r5 r7 r9 Q S15 else Q 1 S15)) S10)))) S8) S6) S4) S3) S1) S
def f_X0_takeBack (G : Gm) (v0 : Nat) (v1 : Nat) (v2 : Nat) (Q : St → Prop) (S : St) : Prop :=
  (∃ a1, S.2.2 v0 0 = some a1 ∧ f_X5_copyFrom G v1 a1 (fun S2 => (∃ a3, S2.2.2 v0 1 = some a3 ∧ f_X9_copyFrom G v2 a3 (fun S4 => Q S4) S2)) S)
def f_X10_accept (G : Gm) (v0 : Nat) (v1 : Int32) (Q : Int32 → St → Prop) (S : St) : Prop :=
  (∀ S1, S1 = uI S v0 10 0 → Q v1 S1)
def f_X5_setWanted (G : Gm) (v0 : Nat) (v1 : Int32) (v2 : Int32) (Q : St → Prop) (S : St) : Prop :=
  f_X5_has G v0 v1 (fun r2 S1 => (if r2 = 0 then Q S1 else (∃ a4, S1.2.2 v0 3 = some a4 ∧ (vp_in v1 (G.2.1 a4) ∧ ∀ S6, S6 = uI S1 a4 v1.toNatClampNeg v2 → Q S6)))) S
def f_X5_addPerson_28_n (G : Gm) (v0 : Nat) (v1 : Int32) (Q : Int32 → St → Prop) : Nat → Int32 → St → Prop
  | 0, _, _ => False
  | n + 1, v2, S => (if 4 ≤ v2 then f_X5_setGlass G v0 v1 0 (fun S2 => f_X5_setWanted G v0 v1 0 (fun S3 => Q v1 S3) S2) S else f_X5_setSin G v0 v1 v2 0 (fun S4 => (f_X5_addPerson_28_n G v0 v1 Q n) (v2 + 1) S4) S)
def f_X5_addPerson_28 (G : Gm) (v0 : Nat) (v1 : Int32) (Q : Int32 → St → Prop) (v2 : Int32) (S : St) : Prop := ∃ n, f_X5_addPerson_28_n G v0 v1 Q n v2 S
def f_X5_addPerson (G : Gm) (v0 : Nat) (Q : Int32 → St → Prop) (S : St) : Prop :=
  (if (S.1 v0 0) < 6 then (∀ x2 : Int32, x2 = S.1 v0 0 → (∀ S3, S3 = uI S v0 0 ((S.1 v0 0) + 1) → f_X5_addPerson_28 G v0 x2 Q 0 S3)) else Q (-1) S)
def f_X6_byteAt (G : Gm) (v0 : Nat) (v1 : Int32) (Q : Int32 → St → Prop) (S : St) : Prop :=
  (if v1 < 0 then Q (-1) S else (if (S.1 v0 1) ≤ v1 then Q (-1) S else (if 400 ≤ v1 then Q (-1) S else (∃ a4, S.2.2 v0 0 = some a4 ∧ (vp_in v1 (G.2.1 a4) ∧ Q (S.1 a4 v1.toNatClampNeg) S)))))
def f_X10_addSinner_10_n (G : Gm) (v0 : Nat) (v1 : Int32) (v2 : Int32) (Q : St → Prop) : Nat → Int32 → St → Prop
  | 0, _, _ => False
  | n + 1, v3, S => (if 4 ≤ v3 then Q S else (∃ a2, S.2.2 v0 0 = some a2 ∧ (∃ a3, S.2.2 v0 8 = some a3 ∧ f_X6_byteAt G a3 (v1 + v3) (fun r5 S4 => f_X5_setSin G a2 v2 v3 r5 (fun S6 => (f_X10_addSinner_10_n G v0 v1 v2 Q n) (v3 + 1) S6) S4) S)))
def f_X10_addSinner_10 (G : Gm) (v0 : Nat) (v1 : Int32) (v2 : Int32) (Q : St → Prop) (v3 : Int32) (S : St) : Prop := ∃ n, f_X10_addSinner_10_n G v0 v1 v2 Q n v3 S
def f_X10_addSinner (G : Gm) (v0 : Nat) (v1 : Int32) (Q : St → Prop) (S : St) : Prop :=
  (∃ a1, S.2.2 v0 0 = some a1 ∧ f_X5_addPerson G a1 (fun r3 S2 => f_X10_addSinner_10 G v0 v1 r3 Q 0 S2) S)
def f_X10_alike_27_n (G : Gm) (v0 : Nat) (v2 : Int32) (Q : Int32 → St → Prop) : Nat → Int32 → Int32 → St → Prop
  | 0, _, _, _ => False
  | n + 1, v3, v4, S => (∃ a1, S.2.2 v0 0 = some a1 ∧ (if (S.1 a1 0) ≤ v4 then Q v3 S else (∃ a3, S.2.2 v0 0 = some a3 ∧ f_X5_sightOf G a3 v4 (fun r5 S4 => (if r5 = v2 then (f_X10_alike_27_n G v0 v2 Q n) (v3 + 1) (v4 + 1) S4 else (f_X10_alike_27_n G v0 v2 Q n) v3 (v4 + 1) S4)) S)))
def f_X10_alike_27 (G : Gm) (v0 : Nat) (v2 : Int32) (Q : Int32 → St → Prop) (v3 : Int32) (v4 : Int32) (S : St) : Prop := ∃ n, f_X10_alike_27_n G v0 v2 Q n v3 v4 S
def f_X10_alike (G : Gm) (v0 : Nat) (v1 : Int32) (Q : Int32 → St → Prop) (S : St) : Prop :=
  (∃ a1, S.2.2 v0 0 = some a1 ∧ f_X5_has G a1 v1 (fun r3 S2 => (if r3 = 0 then Q (-1) S2 else (∃ a5, S2.2.2 v0 0 = some a5 ∧ f_X5_sightOf G a5 v1 (fun r7 S6 => f_X10_alike_27 G v0 r7 Q 0 0 S6) S2))) S)
