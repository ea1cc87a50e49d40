def f_X10_cure (G : Gm) (v0 : Nat) (v1 : Int32) (v2 : Int32) (Q : Int32 → St → Prop) (S : St) : Prop :=
  (∃ a1, S.2.2 v0 0 = some a1 ∧ f_X5_has G a1 v1 (fun r3 S2 => (if r3 = 0 then Q (-1) S2 else (if v2 < (-1) then Q (-1) S2 else (∃ a6, S2.2.2 v0 7 = some a6 ∧ (∃ a7, S2.2.2 v0 0 = some a7 ∧ f_X4_cureOf G a6 a7 v1 v2 (fun r9 S8 => Q r9 S8) S2))))) S)
def f_X10_drawn (G : Gm) (v0 : Nat) (v1 : Int32) (v2 : Int32) (Q : Int32 → St → Prop) (S : St) : Prop :=
  (∃ a1, S.2.2 v0 1 = some a1 ∧ f_X5_has G a1 v1 (fun r3 S2 => (if r3 = 0 then Q (-1) S2 else f_X10_isKind G v2 (fun r6 S5 => (if r6 = 0 then (if v2 = 4 then (∃ a9, S5.2.2 v0 1 = some a9 ∧ f_X5_glassOf G a9 v1 (fun r11 S10 => f_X3_lensesIn G r11 (fun r13 S12 => Q r13 S12) S10) S5) else Q (-1) S5) else (∃ a14, S5.2.2 v0 1 = some a14 ∧ f_X5_sinOf G a14 v1 v2 (fun r16 S15 => Q r16 S15) S5))) S2)) S)
def f_X10_end (G : Gm) (v0 : Nat) (v1 : Int32) (Q : Int32 → St → Prop) (S : St) : Prop :=
  (if v1 < 0 then Q (-1) S else (∃ a2, S.2.2 v0 8 = some a2 ∧ (if v1 ≤ (S.1 a2 1) then (∃ a4, S.2.2 v0 8 = some a4 ∧ (∀ S5, S5 = uI S a4 1 v1 → Q v1 S5)) else Q (-1) S)))
def f_X10_fault (G : Gm) (v0 : Nat) (Q : Int32 → St → Prop) (S : St) : Prop :=
  (∃ a1, S.2.2 v0 8 = some a1 ∧ Q (S.1 a1 9) S)
def f_X6_hasRoomFor (G : Gm) (v0 : Nat) (v1 : Int32) (Q : Int32 → St → Prop) (S : St) : Prop :=
  (if 400 < ((S.1 v0 1) + v1) then Q 0 S else Q 1 S)
def f_X6_addFour_3_n (G : Gm) (v0 : Nat) (v1 : Int32) (Q : St → Prop) : Nat → Int32 → St → Prop
  | 0, _, _ => False
  | n + 1, v2, S => (if v2 < 0 then Q S else (if (S.1 v0 1) < 0 then (f_X6_addFour_3_n G v0 v1 Q n) (v2 + (-8)) S else (if 400 ≤ (S.1 v0 1) then (f_X6_addFour_3_n G v0 v1 Q n) (v2 + (-8)) S else (∃ a4, S.2.2 v0 0 = some a4 ∧ (vp_in (S.1 v0 1) (G.2.1 a4) ∧ ∀ S6, S6 = uI S a4 (S.1 v0 1).toNatClampNeg ((v1 >>> ((v2 : Int32) &&& 31)) &&& 255) → (∀ S7, S7 = uI S6 v0 1 ((S6.1 v0 1) + 1) → (f_X6_addFour_3_n G v0 v1 Q n) (v2 + (-8)) S7))))))
def f_X6_addFour_3 (G : Gm) (v0 : Nat) (v1 : Int32) (Q : St → Prop) (v2 : Int32) (S : St) : Prop := ∃ n, f_X6_addFour_3_n G v0 v1 Q n v2 S
def f_X6_addFour (G : Gm) (v0 : Nat) (v1 : Int32) (Q : St → Prop) (S : St) : Prop :=
  f_X6_addFour_3 G v0 v1 Q 24 S
def f_X10_feed (G : Gm) (v0 : Nat) (v1 : Int32) (v2 : Int32) (v3 : Int32) (v4 : Int32) (v5 : Int32) (Q : Int32 → St → Prop) (S : St) : Prop :=
  (∃ a1, S.2.2 v0 8 = some a1 ∧ f_X6_hasRoomFor G a1 20 (fun r3 S2 => (if r3 = 0 then Q (-1) S2 else (∃ a5, S2.2.2 v0 8 = some a5 ∧ f_X6_addFour G a5 v1 (fun S6 => (∃ a7, S6.2.2 v0 8 = some a7 ∧ f_X6_addFour G a7 v2 (fun S8 => (∃ a9, S8.2.2 v0 8 = some a9 ∧ f_X6_addFour G a9 v3 (fun S10 => (∃ a11, S10.2.2 v0 8 = some a11 ∧ f_X6_addFour G a11 v4 (fun S12 => (∃ a13, S12.2.2 v0 8 = some a13 ∧ f_X6_addFour G a13 v5 (fun S14 => (∃ a15, S14.2.2 v0 8 = some a15 ∧ Q (S14.1 a15 1) S14)) S12)) S10)) S8)) S6)) S2))) S)
def f_X5_wantedOf (G : Gm) (v0 : Nat) (v1 : Int32) (Q : Int32 → St → Prop) (S : St) : Prop :=
  f_X5_has G v0 v1 (fun r2 S1 => (if r2 = 0 then Q 0 S1 else (∃ a4, S1.2.2 v0 3 = some a4 ∧ (vp_in v1 (G.2.1 a4) ∧ Q (S1.1 a4 v1.toNatClampNeg) S1)))) S
def f_X4_learnFits_59 (G : Gm) (k2 : Int32 → St → Prop) (k10 : Int32 → St → Prop) (v0 : Nat) (v1 : Nat) (v2 : Int32) (v3 : Int32) (v4 : Int32) (u0 : Int32) (u1 : Int32) (u2 : Nat) (Q : St → Prop) (S : St) : Prop :=
  (vp_in u1 (G.2.1 u2) ∧ ∀ S2, S2 = uI S u2 u1.toNatClampNeg u0 → k10 (v4 + 1) S2)
def f_X4_learnFits_10_n (G : Gm) (k2 : Int32 → St → Prop) (v0 : Nat) (v1 : Nat) (v2 : Int32) (v3 : Int32) (Q : St → Prop) : Nat → Int32 → St → Prop
  | 0, _, _ => False
  | n + 1, v4, S => (if v2 ≤ v4 then k2 (v3 + 1) S else (∃ a2, S.2.2 v0 0 = some a2 ∧ f_X5_sightOf G v1 v4 (fun r4 S3 => f_X2_deed G a2 v1 v3 r4 (fun r6 S5 => (∃ a7, S5.2.2 v0 7 = some a7 ∧ f_X5_wantedOf G v1 v3 (fun r9 S8 => (if r6 = r9 then f_X4_learnFits_59 G k2 (f_X4_learnFits_10_n G k2 v0 v1 v2 v3 Q n) v0 v1 v2 v3 v4 1 ((v3 * 6) + v4) a7 Q S8 else f_X4_learnFits_59 G k2 (f_X4_learnFits_10_n G k2 v0 v1 v2 v3 Q n) v0 v1 v2 v3 v4 0 ((v3 * 6) + v4) a7 Q S8)) S5)) S3) S))
def f_X4_learnFits_10 (G : Gm) (k2 : Int32 → St → Prop) (v0 : Nat) (v1 : Nat) (v2 : Int32) (v3 : Int32) (Q : St → Prop) (v4 : Int32) (S : St) : Prop := ∃ n, f_X4_learnFits_10_n G k2 v0 v1 v2 v3 Q n v4 S
def f_X4_learnFits_2_n (G : Gm) (v0 : Nat) (v1 : Nat) (v2 : Int32) (Q : St → Prop) : Nat → Int32 → St → Prop
  | 0, _, _ => False
  | n + 1, v3, S => (if v2 ≤ v3 then Q S else f_X4_learnFits_10 G (f_X4_learnFits_2_n G v0 v1 v2 Q n) v0 v1 v2 v3 Q 0 S)
def f_X4_learnFits_2 (G : Gm) (v0 : Nat) (v1 : Nat) (v2 : Int32) (Q : St → Prop) (v3 : Int32) (S : St) : Prop := ∃ n, f_X4_learnFits_2_n G v0 v1 v2 Q n v3 S
def f_X4_learnFits (G : Gm) (v0 : Nat) (v1 : Nat) (v2 : Int32) (Q : St → Prop) (S : St) : Prop :=
  f_X4_learnFits_2 G v0 v1 v2 Q 0 S
def f_X4_bestWith (G : Gm) (v0 : Nat) (v1 : Int32) (v2 : Int32) (v3 : Int32) (Q : Int32 → St → Prop) (S : St) : Prop :=
  (∀ x1 : Int32, x1 = v3 ||| (1 <<< ((v2 : Int32) &&& 31)) → (∀ x2 : Int32, x2 = (v1 * 6) + v2 → (if x1 = v3 then Q (-1) S else (if x1 < 0 then Q (-1) S else (∃ a5, S.2.2 v0 8 = some a5 ∧ (if (nI (G.2.1 a5)) ≤ x1 then Q (-1) S else (if x2 < 0 then Q (-1) S else (∃ a8, S.2.2 v0 7 = some a8 ∧ (if x2 < (nI (G.2.1 a8)) then (∃ a10, S.2.2 v0 7 = some a10 ∧ (vp_in x2 (G.2.1 a10) ∧ (∃ a12, S.2.2 v0 8 = some a12 ∧ (vp_in x1 (G.2.1 a12) ∧ Q ((S.1 a10 x2.toNatClampNeg) + (S.1 a12 x1.toNatClampNeg)) S)))) else Q (-1) S)))))))))
def f_X4_learnBest_37_n (G : Gm) (k17 : Int32 → St → Prop) (v0 : Nat) (v1 : Int32) (v3 : Int32) (v4 : Int32) (Q : St → Prop) : Nat → Int32 → St → Prop
  | 0, _, _ => False
  | n + 1, v5, S => (if v1 ≤ v5 then k17 (v3 + (-1)) S else (∃ a2, S.2.2 v0 8 = some a2 ∧ (∃ a3, S.2.2 v0 8 = some a3 ∧ (vp_in v3 (G.2.1 a3) ∧ f_X4_bestWith G v0 v4 v5 v3 (fun r6 S5 => (vp_in v3 (G.2.1 a2) ∧ ∀ S8, S8 = uI S5 a2 v3.toNatClampNeg (mx (S.1 a3 v3.toNatClampNeg) r6) → (f_X4_learnBest_37_n G k17 v0 v1 v3 v4 Q n) (v5 + 1) S8)) S))))
def f_X4_learnBest_37 (G : Gm) (k17 : Int32 → St → Prop) (v0 : Nat) (v1 : Int32) (v3 : Int32) (v4 : Int32) (Q : St → Prop) (v5 : Int32) (S : St) : Prop := ∃ n, f_X4_learnBest_37_n G k17 v0 v1 v3 v4 Q n v5 S
def f_X4_learnBest_17_n (G : Gm) (v0 : Nat) (v1 : Int32) (Q : St → Prop) : Nat → Int32 → St → Prop
  | 0, _, _ => False
  | n + 1, v3, S => (if v3 < 0 then Q S else f_J6_bitCount_0f7a4 G v3 (fun r3 S2 => (∃ a4, S2.2.2 v0 8 = some a4 ∧ (vp_in v3 (G.2.1 a4) ∧ ∀ S6, S6 = uI S2 a4 v3.toNatClampNeg 0 → f_X4_learnBest_37 G (f_X4_learnBest_17_n G v0 v1 Q n) v0 v1 v3 r3 Q 0 S6))) S)
def f_X4_learnBest_17 (G : Gm) (v0 : Nat) (v1 : Int32) (Q : St → Prop) (v3 : Int32) (S : St) : Prop := ∃ n, f_X4_learnBest_17_n G v0 v1 Q n v3 S
def f_X4_learnBest (G : Gm) (v0 : Nat) (v1 : Int32) (Q : St → Prop) (S : St) : Prop :=
  (∀ x1 : Int32, x1 = (1 <<< ((v1 : Int32) &&& 31)) - 1 → (∃ a2, S.2.2 v0 8 = some a2 ∧ (vp_in x1 (G.2.1 a2) ∧ ∀ S4, S4 = uI S a2 x1.toNatClampNeg 0 → (∀ x5 : Int32, x5 = x1 - 1 → f_X4_learnBest_17 G v0 v1 Q x5 S4))))
def f_X4_firstBest_3_n (G : Gm) (v0 : Nat) (v1 : Int32) (v2 : Int32) (v3 : Int32) (Q : Int32 → St → Prop) : Nat → Int32 → St → Prop
  | 0, _, _ => False
  | n + 1, v4, S => (if v2 ≤ v4 then Q (-1) S else (if v3 < 0 then (f_X4_firstBest_3_n G v0 v1 v2 v3 Q n) (v4 + 1) S else (∃ a3, S.2.2 v0 8 = some a3 ∧ (if (nI (G.2.1 a3)) ≤ v3 then (f_X4_firstBest_3_n G v0 v1 v2 v3 Q n) (v4 + 1) S else f_X4_bestWith G v0 v1 v4 v3 (fun r6 S5 => (∃ a7, S5.2.2 v0 8 = some a7 ∧ (vp_in v3 (G.2.1 a7) ∧ (if r6 = (S5.1 a7 v3.toNatClampNeg) then Q v4 S5 else (f_X4_firstBest_3_n G v0 v1 v2 v3 Q n) (v4 + 1) S5)))) S))))
def f_X4_firstBest_3 (G : Gm) (v0 : Nat) (v1 : Int32) (v2 : Int32) (v3 : Int32) (Q : Int32 → St → Prop) (v4 : Int32) (S : St) : Prop := ∃ n, f_X4_firstBest_3_n G v0 v1 v2 v3 Q n v4 S
def f_X4_firstBest (G : Gm) (v0 : Nat) (v1 : Int32) (v2 : Int32) (v3 : Int32) (Q : Int32 → St → Prop) (S : St) : Prop :=
  f_X4_firstBest_3 G v0 v1 v2 v3 Q 0 S
def f_X4_fit_41_n (G : Gm) (v0 : Nat) (v2 : Int32) (v3 : Int32) (Q : Int32 → St → Prop) : Nat → Int32 → Int32 → Int32 → St → Prop
  | 0, _, _, _, _ => False
  | n + 1, v4, v5, v6, S => (if v3 ≤ v6 then Q v5 S else (if v2 ≤ v6 then Q v5 S else f_X4_firstBest G v0 v6 v3 v4 (fun r4 S3 => (∀ x5 : Int32, x5 = v4 ||| (1 <<< (((mx r4 0) : Int32) &&& 31)) → (f_X4_fit_41_n G v0 v2 v3 Q n) x5 r4 (v6 + 1) S3)) S))
def f_X4_fit_41 (G : Gm) (v0 : Nat) (v2 : Int32) (v3 : Int32) (Q : Int32 → St → Prop) (v4 : Int32) (v5 : Int32) (v6 : Int32) (S : St) : Prop := ∃ n, f_X4_fit_41_n G v0 v2 v3 Q n v4 v5 v6 S
def f_X4_fit (G : Gm) (v0 : Nat) (v1 : Nat) (v2 : Int32) (Q : Int32 → St → Prop) (S : St) : Prop :=
  (∀ x1 : Int32, x1 = mn (S.1 v1 0) 6 → f_X4_learnFits G v0 v1 x1 (fun S2 => f_X4_learnBest G v0 x1 (fun S3 => (if 0 < v2 then f_X4_fit_41 G v0 v2 x1 Q 0 (-1) 0 S3 else (∃ a5, S3.2.2 v0 8 = some a5 ∧ (vp_in 0 (G.2.1 a5) ∧ Q (S3.1 a5 (0 : Int32).toNatClampNeg) S3)))) S2) S)
def f_X10_fitted_19 (G : Gm) (v0 : Nat) (v1 : Int32) (Q : Int32 → St → Prop) (S : St) : Prop :=
  (∃ a1, S.2.2 v0 7 = some a1 ∧ (∃ a2, S.2.2 v0 0 = some a2 ∧ f_X4_fit G a1 a2 v1 (fun r4 S3 => Q r4 S3) S))
def f_X10_fitted (G : Gm) (v0 : Nat) (v1 : Int32) (Q : Int32 → St → Prop) (S : St) : Prop :=
  (if v1 = 0 then f_X10_fitted_19 G v0 v1 Q S else (∃ a2, S.2.2 v0 0 = some a2 ∧ f_X5_has G a2 (v1 - 1) (fun r4 S3 => (if r4 = 0 then Q (-1) S3 else f_X10_fitted_19 G v0 v1 Q S3)) S))
def f_X10_force_23 (G : Gm) (v0 : Nat) (v1 : Int32) (Q : Int32 → St → Prop) (S : St) : Prop :=
  (∃ a1, S.2.2 v0 0 = some a1 ∧ (∀ x2 : Int32, x2 = S.1 a1 10 → (∃ a3, S.2.2 v0 0 = some a3 ∧ (∀ S4, S4 = uI S a3 10 v1 → f_X10_accept G v0 x2 (fun r6 S5 => Q r6 S5) S4))))
def f_X10_force (G : Gm) (v0 : Nat) (v1 : Int32) (Q : Int32 → St → Prop) (S : St) : Prop :=
  (if v1 = (-1) then f_X10_force_23 G v0 v1 Q S else (∃ a2, S.2.2 v0 0 = some a2 ∧ f_X5_hasLaw G a2 v1 (fun r4 S3 => (if r4 = 0 then f_X10_refuse G v0 (-2) (fun r7 S6 => Q r7 S6) S3 else f_X10_force_23 G v0 v1 Q S3)) S))
def f_X10_forget (G : Gm) (v0 : Nat) (Q : Int32 → St → Prop) (S : St) : Prop :=
  (∃ a1, S.2.2 v0 0 = some a1 ∧ (∀ x2 : Int32, x2 = S.1 a1 5 → (∃ a3, S.2.2 v0 0 = some a3 ∧ (∀ S4, S4 = uI S a3 5 0 → Q x2 S4))))
def f_X10_glass (G : Gm) (v0 : Nat) (v1 : Int32) (v2 : Int32) (Q : Int32 → St → Prop) (S : St) : Prop :=
  f_X3_lensesIn G v2 (fun r2 S1 => (if r2 = (-1) then f_X10_refuse G v0 (-1) (fun r17 S16 => Q r17 S16) S1 else (∃ a4, S1.2.2 v0 0 = some a4 ∧ f_X5_has G a4 v1 (fun r6 S5 => (if r6 = 0 then f_X10_refuse G v0 (-2) (fun r15 S14 => Q r15 S14) S5 else (∃ a8, S5.2.2 v0 3 = some a8 ∧ f_X9_empty G a8 (fun S9 => (∃ a10, S9.2.2 v0 0 = some a10 ∧ f_X5_setGlass G a10 v1 v2 (fun S11 => f_X10_accept G v0 r2 (fun r13 S12 => Q r13 S12) S11) S9)) S5))) S1))) S
def f_X10_grind (G : Gm) (v0 : Nat) (v1 : Int32) (Q : Int32 → St → Prop) (S : St) : Prop :=
  (∃ a1, S.2.2 v0 5 = some a1 ∧ (∃ a2, S.2.2 v0 0 = some a2 ∧ (∃ a3, S.2.2 v0 3 = some a3 ∧ f_X1_act G a1 a2 a3 1 v1 0 0 (fun r5 S4 => f_X10_judged G v0 r5 (fun r7 S6 => Q r7 S6) S4) S)))
def f_X10_ground_29 (G : Gm) (v0 : Nat) (v1 : Int32) (v2 : Int32) (Q : Int32 → St → Prop) (S : St) : Prop :=
  (∃ a1, S.2.2 v0 4 = some a1 ∧ (∃ a2, S.2.2 v0 0 = some a2 ∧ (∃ a3, S.2.2 v0 0 = some a3 ∧ f_X5_lawAt G a3 v1 (fun r5 S4 => (∀ z, r5 = some z → ok G 7 z) ∧ f_X2_glassBy G a1 a2 r5 v2 (fun r8 S7 => f_X3_lensesIn G r8 (fun r10 S9 => Q r10 S9) S7) S4) S)))
def f_X10_ground (G : Gm) (v0 : Nat) (v1 : Int32) (v2 : Int32) (Q : Int32 → St → Prop) (S : St) : Prop :=
  (∃ a1, S.2.2 v0 0 = some a1 ∧ f_X5_has G a1 v2 (fun r3 S2 => (if r3 = 0 then Q (-1) S2 else (if v1 = (-1) then f_X10_ground_29 G v0 v1 v2 Q S2 else (∃ a6, S2.2.2 v0 0 = some a6 ∧ f_X5_hasLaw G a6 v1 (fun r8 S7 => (if r8 = 0 then Q (-1) S7 else f_X10_ground_29 G v0 v1 v2 Q S7)) S2)))) S)
def f_X4_rowOf_10_n (G : Gm) (v1 : Int32) (Q : Int32 → St → Prop) : Nat → Int32 → Int32 → Int32 → Int32 → St → Prop
  | 0, _, _, _, _, _ => False
  | n + 1, v2, v3, v4, v5, S => (if v1 ≤ v5 then Q v2 S else (∀ x2 : Int32, x2 = v2 + (((v3 - v3 / 7 * 7) + 1) * v4) → (∀ x3 : Int32, x3 = v3 / 7 → (∀ x4 : Int32, x4 = v4 * 10 → (f_X4_rowOf_10_n G v1 Q n) x2 x3 x4 (v5 + 1) S))))
def f_X4_rowOf_10 (G : Gm) (v1 : Int32) (Q : Int32 → St → Prop) (v2 : Int32) (v3 : Int32) (v4 : Int32) (v5 : Int32) (S : St) : Prop := ∃ n, f_X4_rowOf_10_n G v1 Q n v2 v3 v4 v5 S
def f_X4_rowOf (G : Gm) (v0 : Int32) (v1 : Int32) (Q : Int32 → St → Prop) (S : St) : Prop :=
  f_X4_rowOf_10 G v1 Q 0 v0 1 0 S
def f_X4_changesNothing_2_n (G : Gm) (v0 : Int32) (Q : Int32 → St → Prop) : Nat → Int32 → St → Prop
  | 0, _, _ => False
  | n + 1, v1, S => (if 256 ≤ v1 then Q 1 S else f_X3_through G v0 v1 (fun r3 S2 => (if r3 = v1 then (f_X4_changesNothing_2_n G v0 Q n) (v1 + 1) S2 else Q 0 S2)) S)
def f_X4_changesNothing_2 (G : Gm) (v0 : Int32) (Q : Int32 → St → Prop) (v1 : Int32) (S : St) : Prop := ∃ n, f_X4_changesNothing_2_n G v0 Q n v1 S
def f_X4_changesNothing (G : Gm) (v0 : Int32) (Q : Int32 → St → Prop) (S : St) : Prop :=
  f_X4_changesNothing_2 G v0 Q 0 S
def f_X4_findIdle_37_n (G : Gm) (v0 : Nat) (v1 : Int32) (v2 : Int32) (v3 : Int32) (Q : St → Prop) : Nat → Int32 → Int32 → St → Prop
  | 0, _, _, _ => False
  | n + 1, v4, v5, S => (if v2 ≤ v5 then (∃ a2, S.2.2 v0 10 = some a2 ∧ (vp_in v1 (G.2.1 a2) ∧ ∀ S4, S4 = uI S a2 v1.toNatClampNeg v4 → Q S4)) else f_X4_rowOf G v5 v1 (fun r6 S5 => f_X4_changesNothing G (r6 + v3) (fun r8 S7 => (if r8 = 0 then (f_X4_findIdle_37_n G v0 v1 v2 v3 Q n) v4 (v5 + 1) S7 else (if 32 ≤ v4 then (f_X4_findIdle_37_n G v0 v1 v2 v3 Q n) v4 (v5 + 1) S7 else (∃ a11, S7.2.2 v0 9 = some a11 ∧ (vp_in v1 (G.2.1 a11) ∧ ∃ a14, S7.2.2 a11 v1.toNatClampNeg = some a14 ∧ (vp_in v4 (G.2.1 a14) ∧ ∀ S16, S16 = uI S7 a14 v4.toNatClampNeg r6 → (f_X4_findIdle_37_n G v0 v1 v2 v3 Q n) (v4 + 1) (v5 + 1) S16)))))) S5) S)
def f_X4_findIdle_37 (G : Gm) (v0 : Nat) (v1 : Int32) (v2 : Int32) (v3 : Int32) (Q : St → Prop) (v4 : Int32) (v5 : Int32) (S : St) : Prop := ∃ n, f_X4_findIdle_37_n G v0 v1 v2 v3 Q n v4 v5 S
def f_X4_findIdle_7_n (G : Gm) (v0 : Nat) (v1 : Int32) (Q : St → Prop) : Nat → Int32 → Int32 → Int32 → St → Prop
  | 0, _, _, _, _ => False
  | n + 1, v2, v3, v4, S => (if v1 ≤ v4 then f_X4_findIdle_37 G v0 v1 v2 v3 Q 0 0 S else (∀ x2 : Int32, x2 = v2 * 7 → (∀ x3 : Int32, x3 = (v3 * 10) + 1 → (f_X4_findIdle_7_n G v0 v1 Q n) x2 x3 (v4 + 1) S)))
def f_X4_findIdle_7 (G : Gm) (v0 : Nat) (v1 : Int32) (Q : St → Prop) (v2 : Int32) (v3 : Int32) (v4 : Int32) (S : St) : Prop := ∃ n, f_X4_findIdle_7_n G v0 v1 Q n v2 v3 v4 S
def f_X4_findIdle (G : Gm) (v0 : Nat) (v1 : Int32) (Q : St → Prop) (S : St) : Prop :=
  f_X4_findIdle_7 G v0 v1 Q 1 0 0 S
def f_X4_idleAt_27 (G : Gm) (v0 : Nat) (v1 : Int32) (v2 : Int32) (Q : Int32 → St → Prop) (S : St) : Prop :=
  (if v2 = (-1) then (∃ a12, S.2.2 v0 10 = some a12 ∧ (vp_in v1 (G.2.1 a12) ∧ Q (S.1 a12 v1.toNatClampNeg) S)) else (if v2 < 0 then Q (-1) S else (∃ a3, S.2.2 v0 10 = some a3 ∧ (vp_in v1 (G.2.1 a3) ∧ (if (S.1 a3 v1.toNatClampNeg) ≤ v2 then Q (-1) S else (if 32 ≤ v2 then Q (-1) S else (∃ a7, S.2.2 v0 9 = some a7 ∧ (vp_in v1 (G.2.1 a7) ∧ ∃ a10, S.2.2 a7 v1.toNatClampNeg = some a10 ∧ (vp_in v2 (G.2.1 a10) ∧ Q (S.1 a10 v2.toNatClampNeg) S)))))))))
def f_X4_idleAt (G : Gm) (v0 : Nat) (v1 : Int32) (v2 : Int32) (Q : Int32 → St → Prop) (S : St) : Prop :=
  (if v1 < 1 then Q (-1) S else (if v1 ≤ 4 then (∃ a3, S.2.2 v0 10 = some a3 ∧ (vp_in v1 (G.2.1 a3) ∧ (if (S.1 a3 v1.toNatClampNeg) = (-1) then f_X4_findIdle G v0 v1 (fun S6 => f_X4_idleAt_27 G v0 v1 v2 Q S6) S else f_X4_idleAt_27 G v0 v1 v2 Q S))) else Q (-1) S))
