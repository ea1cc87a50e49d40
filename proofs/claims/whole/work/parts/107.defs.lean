def f_X6_reads_99 (G : Gm) (v0 : Nat) (Q : Int32 → St → Prop) (S : St) : Prop :=
  (∀ S1, S1 = uI S v0 1 0 → (if (S1.1 v0 9) = (-1) then Q 1 S1 else Q 0 S1))
def f_X6_reads_86 (G : Gm) (v0 : Nat) (Q : Int32 → St → Prop) (S : St) : Prop :=
  f_X6_here G v0 (fun r2 S1 => (if r2 = 51 then f_X6_reads_99 G v0 Q S1 else f_X6_fail G v0 (fun S4 => f_X6_reads_99 G v0 Q S4) S1)) S
def f_X6_reads_37_n (G : Gm) (v0 : Nat) (Q : Int32 → St → Prop) : Nat → Int32 → St → Prop
  | 0, _, _ => False
  | n + 1, v2, S => (if 12 < v2 then f_X6_reads_86 G v0 Q S else f_X6_here G v0 (fun r3 S2 => (if r3 = 159 then (∀ S5, S5 = uI S2 v0 6 ((S2.1 v0 6) + 1) → (if v2 = 12 then f_X6_fail G v0 (fun S8 => (f_X6_reads_37_n G v0 Q n) (v2 + 1) S8) S5 else f_X6_clause G v0 (fun S7 => (f_X6_reads_37_n G v0 Q n) (v2 + 1) S7) S5)) else f_X6_reads_86 G v0 Q S2)) S)
def f_X6_reads_37 (G : Gm) (v0 : Nat) (Q : Int32 → St → Prop) (v2 : Int32) (S : St) : Prop := ∃ n, f_X6_reads_37_n G v0 Q n v2 S
def f_X6_reads (G : Gm) (v0 : Nat) (v1 : Int32) (Q : Int32 → St → Prop) (S : St) : Prop :=
  ((v1 = 0 ∨ v1 = 1) ∧ ∀ S1, S1 = uI S v0 8 v1 → (∀ S2, S2 = uI S1 v0 9 (-1) → (∀ S3, S3 = uI S2 v0 7 0 → (∀ S4, S4 = uI S3 v0 6 0 → (∃ a5, S4.2.2 v0 10 = some a5 ∧ f_X8_empty G a5 (fun S6 => f_X6_split G v0 (fun S7 => f_X6_clause G v0 (fun S8 => f_X6_reads_37 G v0 Q 1 S8) S7) S6) S4)))))
def f_X8_copy (G : Gm) (v0 : Nat) (Q : Option Nat → Gm → St → Prop) (S : St) : Prop :=
  (∀ a1, a1 = G.2.2 → ∀ G2, G2 = gN G 7 0 → ∀ S3, S3 = sN S a1 → f_X8_init G2 a1 (S3.1 v0 5) (S3.1 v0 6) (fun G9 S10 => (∀ S19, S19 = uI S10 a1 5 (S10.1 v0 5) → (∀ S20, S20 = uI S19 a1 6 (S19.1 v0 6) → (∃ a21, S20.2.2 v0 0 = some a21 ∧ (∃ a22, S20.2.2 a1 0 = some a22 ∧ (cpOk 0 0 (S20.1 v0 5) (G9.2.1 a21) (G9.2.1 a22) ∧ ∀ S24, S24 = cpI S20 a21 0 a22 0 (S20.1 v0 5) → (∃ a25, S24.2.2 v0 1 = some a25 ∧ (∃ a26, S24.2.2 a1 1 = some a26 ∧ (cpOk 0 0 (S24.1 v0 5) (G9.2.1 a25) (G9.2.1 a26) ∧ ∀ S28, S28 = cpI S24 a25 0 a26 0 (S24.1 v0 5) → (∃ a29, S28.2.2 v0 2 = some a29 ∧ (∃ a30, S28.2.2 a1 2 = some a30 ∧ (cpOk 0 0 (S28.1 v0 5) (G9.2.1 a29) (G9.2.1 a30) ∧ ∀ S32, S32 = cpI S28 a29 0 a30 0 (S28.1 v0 5) → (∃ a33, S32.2.2 v0 3 = some a33 ∧ (∃ a34, S32.2.2 a1 3 = some a34 ∧ (cpOk 0 0 ((S32.1 v0 5) * 4) (G9.2.1 a33) (G9.2.1 a34) ∧ ∀ S36, S36 = cpI S32 a33 0 a34 0 ((S32.1 v0 5) * 4) → (∃ a37, S36.2.2 v0 4 = some a37 ∧ (∃ a38, S36.2.2 a1 4 = some a38 ∧ (cpOk 0 0 (S36.1 v0 6) (G9.2.1 a37) (G9.2.1 a38) ∧ ∀ S40, S40 = cpI S36 a37 0 a38 0 (S36.1 v0 6) → Q (some a1) G9 S40)))))))))))))))))) S3)
def f_X5_addLaw (G : Gm) (v0 : Nat) (v1 : Nat) (Q : Int32 → St → Prop) (S : St) : Prop :=
  (if (S.1 v0 8) < 0 then Q (-1) S else (if (S.1 v0 8) < 6 then (∃ a3, S.2.2 v0 9 = some a3 ∧ (vp_in (S.1 v0 8) (G.2.1 a3) ∧ ∀ S5, S5 = uR S a3 (S.1 v0 8).toNatClampNeg (some v1) → (∀ S6, S6 = uI S5 v0 8 ((S5.1 v0 8) + 1) → Q ((S6.1 v0 8) - 1) S6))) else Q (-1) S))
def f_X10_law (G : Gm) (v0 : Nat) (Q : Int32 → Gm → St → Prop) (S : St) : Prop :=
  (∃ a1, S.2.2 v0 0 = some a1 ∧ (if (S.1 a1 8) < 6 then (∃ a3, S.2.2 v0 8 = some a3 ∧ f_X6_reads G a3 1 (fun r5 S4 => (if r5 = 0 then f_X10_refuse G v0 (-6) (fun r27 S26 => Q r27 G S26) S4 else (∃ a7, S4.2.2 v0 0 = some a7 ∧ (∃ a8, S4.2.2 v0 8 = some a8 ∧ (∃ a9, S4.2.2 a8 10 = some a9 ∧ f_X8_copy G a9 (fun r12 G10 S11 => ∃ a21, r12 = some a21 ∧ ok G10 7 a21 ∧ f_X5_addLaw G10 a7 a21 (fun r23 S22 => f_X10_accept G10 v0 r23 (fun r25 S24 => Q r25 G10 S24) S22) S11) S4))))) S) else (∃ a28, S.2.2 v0 8 = some a28 ∧ (∀ S29, S29 = uI S a28 1 0 → f_X10_refuse G v0 (-5) (fun r31 S30 => Q r31 G S30) S29))))
def f_X10_lens (G : Gm) (v0 : Nat) (v1 : Int32) (v2 : Int32) (Q : Int32 → St → Prop) (S : St) : Prop :=
  f_X10_isLens G v1 (fun r2 S1 => (if r2 = 0 then Q (-1) S1 else f_X10_isNumber G v2 (fun r5 S4 => (if r5 = 0 then Q (-1) S4 else f_X3_bend G v1 v2 (fun r8 S7 => Q r8 S7) S4)) S1)) S
def f_X4_suits (G : Gm) (v0 : Nat) (v1 : Nat) (v2 : Int32) (v3 : Int32) (Q : Int32 → St → Prop) (S : St) : Prop :=
  f_X5_termOf G v1 3 (fun r2 S1 => f_X3_through G v3 r2 (fun r4 S3 => (∃ a5, S3.2.2 v0 0 = some a5 ∧ f_X2_deed G a5 v1 v2 r4 (fun r7 S6 => f_X5_wantedOf G v1 v2 (fun r9 S8 => (if r7 = r9 then Q 1 S8 else Q 0 S8)) S6) S3)) S1) S
def f_X4_mildestFor_53_n (G : Gm) (k44 : Int32 → St → Prop) (v0 : Nat) (v1 : Nat) (v2 : Int32) (v3 : Int32) (Q : Int32 → St → Prop) : Nat → Int32 → St → Prop
  | 0, _, _ => False
  | n + 1, v4, S => (if 8 ≤ v4 then k44 (v3 + 1) S else (∀ x2 : Int32, x2 = (((v3 + 1) * 10) + v4) + 1 → f_X4_suits G v0 v1 v2 x2 (fun r4 S3 => (if r4 = 0 then (f_X4_mildestFor_53_n G k44 v0 v1 v2 v3 Q n) (v4 + 1) S3 else Q x2 S3)) S))
def f_X4_mildestFor_53 (G : Gm) (k44 : Int32 → St → Prop) (v0 : Nat) (v1 : Nat) (v2 : Int32) (v3 : Int32) (Q : Int32 → St → Prop) (v4 : Int32) (S : St) : Prop := ∃ n, f_X4_mildestFor_53_n G k44 v0 v1 v2 v3 Q n v4 S
def f_X4_mildestFor_44_n (G : Gm) (v0 : Nat) (v1 : Nat) (v2 : Int32) (Q : Int32 → St → Prop) : Nat → Int32 → St → Prop
  | 0, _, _ => False
  | n + 1, v3, S => (if 8 ≤ v3 then Q (-1) S else f_X4_mildestFor_53 G (f_X4_mildestFor_44_n G v0 v1 v2 Q n) v0 v1 v2 v3 Q 1 S)
def f_X4_mildestFor_44 (G : Gm) (v0 : Nat) (v1 : Nat) (v2 : Int32) (Q : Int32 → St → Prop) (v3 : Int32) (S : St) : Prop := ∃ n, f_X4_mildestFor_44_n G v0 v1 v2 Q n v3 S
def f_X4_mildestFor_14_n (G : Gm) (v0 : Nat) (v1 : Nat) (v2 : Int32) (Q : Int32 → St → Prop) : Nat → Int32 → St → Prop
  | 0, _, _ => False
  | n + 1, v3, S => (if 8 ≤ v3 then f_X4_mildestFor_44 G v0 v1 v2 Q 1 S else f_X4_suits G v0 v1 v2 (v3 + 1) (fun r3 S2 => (if r3 = 0 then (f_X4_mildestFor_14_n G v0 v1 v2 Q n) (v3 + 1) S2 else Q (v3 + 1) S2)) S)
def f_X4_mildestFor_14 (G : Gm) (v0 : Nat) (v1 : Nat) (v2 : Int32) (Q : Int32 → St → Prop) (v3 : Int32) (S : St) : Prop := ∃ n, f_X4_mildestFor_14_n G v0 v1 v2 Q n v3 S
def f_X4_mildestFor (G : Gm) (v0 : Nat) (v1 : Nat) (v2 : Int32) (Q : Int32 → St → Prop) (S : St) : Prop :=
  f_X4_suits G v0 v1 v2 0 (fun r2 S1 => (if r2 = 0 then f_X4_mildestFor_14 G v0 v1 v2 Q 1 S1 else Q 0 S1)) S
def f_X10_mildest (G : Gm) (v0 : Nat) (v1 : Int32) (Q : Int32 → St → Prop) (S : St) : Prop :=
  (∃ a1, S.2.2 v0 0 = some a1 ∧ f_X5_has G a1 v1 (fun r3 S2 => (if r3 = 0 then Q (-1) S2 else (∃ a5, S2.2.2 v0 7 = some a5 ∧ (∃ a6, S2.2.2 v0 0 = some a6 ∧ f_X4_mildestFor G a5 a6 v1 (fun r8 S7 => Q r8 S7) S2)))) S)
def f_X4_explains_46 (G : Gm) (k2 : Int32 → St → Prop) (v0 : Nat) (v1 : Int32) (v2 : Int32) (v3 : Int32) (u0 : Int32) (Q : Int32 → St → Prop) (S : St) : Prop :=
  f_X5_sightOf G v0 u0 (fun r2 S1 => (∃ a3, S1.2.2 v0 7 = some a3 ∧ (vp_in v3 (G.2.1 a3) ∧ (if r2 = (S1.1 a3 v3.toNatClampNeg) then k2 (v3 + 1) S1 else Q 0 S1)))) S
def f_X4_explains_2_n (G : Gm) (v0 : Nat) (v1 : Int32) (v2 : Int32) (Q : Int32 → St → Prop) : Nat → Int32 → St → Prop
  | 0, _, _ => False
  | n + 1, v3, S => (if (S.1 v0 5) ≤ v3 then Q 1 S else (if 8 ≤ v3 then Q 1 S else (∃ a3, S.2.2 v0 6 = some a3 ∧ (vp_in v3 (G.2.1 a3) ∧ (∀ x5 : Int32, x5 = S.1 a3 v3.toNatClampNeg → (if x5 = v1 then f_X4_explains_46 G (f_X4_explains_2_n G v0 v1 v2 Q n) v0 v1 v2 v3 v2 Q S else (if x5 = v2 then f_X4_explains_46 G (f_X4_explains_2_n G v0 v1 v2 Q n) v0 v1 v2 v3 v1 Q S else f_X4_explains_46 G (f_X4_explains_2_n G v0 v1 v2 Q n) v0 v1 v2 v3 x5 Q S)))))))
def f_X4_explains_2 (G : Gm) (v0 : Nat) (v1 : Int32) (v2 : Int32) (Q : Int32 → St → Prop) (v3 : Int32) (S : St) : Prop := ∃ n, f_X4_explains_2_n G v0 v1 v2 Q n v3 S
def f_X4_explains (G : Gm) (v0 : Nat) (v1 : Int32) (v2 : Int32) (Q : Int32 → St → Prop) (S : St) : Prop :=
  f_X4_explains_2 G v0 v1 v2 Q 0 S
def f_X4_mixedAt_20_n (G : Gm) (k5 : Int32 → Int32 → St → Prop) (v1 : Nat) (v2 : Int32) (v4 : Int32) (Q : Int32 → St → Prop) : Nat → Int32 → Int32 → St → Prop
  | 0, _, _, _ => False
  | n + 1, v3, v5, S => (if (S.1 v1 0) ≤ v5 then k5 v3 (v4 + 1) S else f_X4_explains G v1 v4 v5 (fun r3 S2 => (if r3 = 0 then (f_X4_mixedAt_20_n G k5 v1 v2 v4 Q n) v3 (v5 + 1) S2 else (if v3 = v2 then Q ((v4 * 10) + v5) S2 else (f_X4_mixedAt_20_n G k5 v1 v2 v4 Q n) (v3 + 1) (v5 + 1) S2))) S)
def f_X4_mixedAt_20 (G : Gm) (k5 : Int32 → Int32 → St → Prop) (v1 : Nat) (v2 : Int32) (v4 : Int32) (Q : Int32 → St → Prop) (v3 : Int32) (v5 : Int32) (S : St) : Prop := ∃ n, f_X4_mixedAt_20_n G k5 v1 v2 v4 Q n v3 v5 S
def f_X4_mixedAt_5_n (G : Gm) (v1 : Nat) (v2 : Int32) (Q : Int32 → St → Prop) : Nat → Int32 → Int32 → St → Prop
  | 0, _, _, _ => False
  | n + 1, v3, v4, S => (if (S.1 v1 0) ≤ v4 then (if v2 = (-1) then Q v3 S else Q (-1) S) else (∀ x3 : Int32, x3 = v4 + 1 → f_X4_mixedAt_20 G (f_X4_mixedAt_5_n G v1 v2 Q n) v1 v2 v4 Q v3 x3 S))
def f_X4_mixedAt_5 (G : Gm) (v1 : Nat) (v2 : Int32) (Q : Int32 → St → Prop) (v3 : Int32) (v4 : Int32) (S : St) : Prop := ∃ n, f_X4_mixedAt_5_n G v1 v2 Q n v3 v4 S
def f_X4_mixedAt (G : Gm) (v0 : Nat) (v1 : Nat) (v2 : Int32) (Q : Int32 → St → Prop) (S : St) : Prop :=
  f_X4_mixedAt_5 G v1 v2 Q 0 0 S
def f_X10_mixed (G : Gm) (v0 : Nat) (v1 : Int32) (Q : Int32 → St → Prop) (S : St) : Prop :=
  (if v1 < (-1) then Q (-1) S else (∃ a2, S.2.2 v0 7 = some a2 ∧ (∃ a3, S.2.2 v0 0 = some a3 ∧ f_X4_mixedAt G a2 a3 v1 (fun r5 S4 => Q r5 S4) S)))
def f_X1_drawBehind (G : Gm) (v0 : Int32) (Q : Int32 → St → Prop) (S : St) : Prop :=
  Q ((((v0.toInt64 * 1103) + 12345) - ((v0.toInt64 * 1103) + 12345) / 1000003 * 1000003).toInt32) S
def f_X1_drawDays_145 (G : Gm) (k22 : Int32 → Int32 → Int32 → St → Prop) (v0 : Nat) (v1 : Nat) (v3 : Int32) (v4 : Int32) (v5 : Int32) (v6 : Int32) (v7 : Int32) (Q : Int32 → St → Prop) (S : St) : Prop :=
  f_X1_nextDay G v0 v1 (fun r2 S1 => k22 v5 v6 (v7 + 1) S1) S
def f_X1_drawDays_22_n (G : Gm) (v0 : Nat) (v1 : Nat) (v3 : Int32) (v4 : Int32) (Q : Int32 → St → Prop) : Nat → Int32 → Int32 → Int32 → St → Prop
  | 0, _, _, _, _ => False
  | n + 1, v5, v6, v7, S => (if v3 ≤ v7 then Q v5 S else f_X5_termOf G v1 0 (fun r3 S2 => (if 999 ≤ r3 then Q v5 S2 else f_X1_drawBehind G v6 (fun r6 S5 => (¬ v4 = 0 ∧ (∀ x7 : Int32, x7 = r6 - r6 / v4 * v4 → f_X1_drawBehind G r6 (fun r9 S8 => (∀ x10 : Int32, x10 = r9 - r9 / 4 * 4 → f_X1_drawBehind G r9 (fun r12 S11 => (∀ x13 : Int32, x13 = r12 - r12 / 3 * 3 → (if x13 = 1 then (∃ a15, S11.2.2 v0 0 = some a15 ∧ f_X2_bars G a15 v1 x7 (fun r17 S16 => (if r17 = 0 then (∃ a19, S16.2.2 v0 0 = some a19 ∧ f_X5_lawInForce G v1 (fun r21 S20 => (∀ z, r21 = some z → ok G 7 z) ∧ f_X2_glassBy G a19 v1 r21 x7 (fun r24 S23 => f_X5_setGlass G v1 x7 r24 (fun S25 => f_X1_drawDays_145 G (f_X1_drawDays_22_n G v0 v1 v3 v4 Q n) v0 v1 v3 v4 (v5 + 1) r12 v7 Q S25) S23) S20) S16) else f_X1_drawDays_145 G (f_X1_drawDays_22_n G v0 v1 v3 v4 Q n) v0 v1 v3 v4 v5 r12 v7 Q S16)) S11) else f_X5_sinOf G v1 x7 x10 (fun r27 S26 => f_X5_setSin G v1 x7 x10 ((r27 + 1) - x13) (fun S28 => f_X1_drawDays_145 G (f_X1_drawDays_22_n G v0 v1 v3 v4 Q n) v0 v1 v3 v4 v5 r12 v7 Q S28) S26) S11))) S8)) S5))) S2)) S)
def f_X1_drawDays_22 (G : Gm) (v0 : Nat) (v1 : Nat) (v3 : Int32) (v4 : Int32) (Q : Int32 → St → Prop) (v5 : Int32) (v6 : Int32) (v7 : Int32) (S : St) : Prop := ∃ n, f_X1_drawDays_22_n G v0 v1 v3 v4 Q n v5 v6 v7 S
def f_X1_drawDays (G : Gm) (v0 : Nat) (v1 : Nat) (v2 : Int32) (v3 : Int32) (Q : Int32 → St → Prop) (S : St) : Prop :=
  (∀ x1 : Int32, x1 = S.1 v1 0 → (if 0 < x1 then f_X1_drawDays_22 G v0 v1 v3 x1 Q 0 v2 0 S else Q 0 S))
def f_X10_months_22 (G : Gm) (v0 : Nat) (Q : Int32 → St → Prop) (S : St) : Prop :=
  f_X10_refuse G v0 (-1) (fun r2 S1 => Q r2 S1) S
def f_X10_months (G : Gm) (v0 : Nat) (v1 : Int32) (v2 : Int32) (Q : Int32 → St → Prop) (S : St) : Prop :=
  (if v1 < 0 then f_X10_months_22 G v0 Q S else (if 1000000 < v1 then f_X10_months_22 G v0 Q S else (if v2 < 1 then f_X10_months_22 G v0 Q S else (if v2 ≤ 60 then (∃ a5, S.2.2 v0 0 = some a5 ∧ (if (S.1 a5 0) = 0 then f_X10_refuse G v0 (-3) (fun r17 S16 => Q r17 S16) S else (∃ a7, S.2.2 v0 1 = some a7 ∧ (∃ a8, S.2.2 v0 0 = some a8 ∧ f_X5_copyFrom G a7 a8 (fun S9 => (∃ a10, S9.2.2 v0 5 = some a10 ∧ (∃ a11, S9.2.2 v0 1 = some a11 ∧ f_X1_drawDays G a10 a11 v1 v2 (fun r13 S12 => f_X10_accept G v0 r13 (fun r15 S14 => Q r15 S14) S12) S9))) S)))) else f_X10_months_22 G v0 Q S))))
def f_X3_lensAt_9_n (G : Gm) (v0 : Int32) (v1 : Int32) (Q : Int32 → St → Prop) : Nat → Int32 → Int32 → St → Prop
  | 0, _, _, _ => False
  | n + 1, v2, v3, S => (if v3 ≤ v1 then (if v1 < 0 then Q (-1) S else f_X3_lensesIn G v0 (fun r4 S3 => (if r4 ≤ v1 then Q (-1) S3 else Q ((v2 - v2 / 10 * 10) - 1) S3)) S) else (∀ x6 : Int32, x6 = v2 / 10 → (f_X3_lensAt_9_n G v0 v1 Q n) x6 (v3 + (-1)) S))
def f_X3_lensAt_9 (G : Gm) (v0 : Int32) (v1 : Int32) (Q : Int32 → St → Prop) (v2 : Int32) (v3 : Int32) (S : St) : Prop := ∃ n, f_X3_lensAt_9_n G v0 v1 Q n v2 v3 S
def f_X3_lensAt (G : Gm) (v0 : Int32) (v1 : Int32) (Q : Int32 → St → Prop) (S : St) : Prop :=
  f_X3_lensesIn G v0 (fun r2 S1 => (∀ x3 : Int32, x3 = r2 - 1 → f_X3_lensAt_9 G v0 v1 Q v0 x3 S1)) S
def f_X10_of_58 (G : Gm) (v0 : Nat) (v1 : Int32) (v2 : Int32) (Q : Int32 → St → Prop) (S : St) : Prop :=
  (if v2 = 4 then (∃ a1, S.2.2 v0 0 = some a1 ∧ f_X5_glassOf G a1 v1 (fun r3 S2 => f_X3_lensesIn G r3 (fun r5 S4 => Q r5 S4) S2) S) else (if v2 = 5 then Q (-1) S else (if v2 = 6 then Q (-1) S else (if v2 = 7 then Q (-1) S else (if v2 = 8 then Q (-1) S else (if v2 = 9 then (∃ a6, S.2.2 v0 0 = some a6 ∧ f_X5_sightOf G a6 v1 (fun r8 S7 => Q r8 S7) S) else (if v2 = 10 then (∃ a9, S.2.2 v0 4 = some a9 ∧ (∃ a10, S.2.2 v0 0 = some a10 ∧ (∃ a11, S.2.2 v0 0 = some a11 ∧ f_X5_sightOf G a11 v1 (fun r13 S12 => f_X2_deed G a9 a10 v1 r13 (fun r15 S14 => Q r15 S14) S12) S))) else (if v2 = 11 then (∃ a16, S.2.2 v0 0 = some a16 ∧ f_X5_wantedOf G a16 v1 (fun r18 S17 => Q r18 S17) S) else (if v2 = 12 then (∃ a19, S.2.2 v0 4 = some a19 ∧ (∃ a20, S.2.2 v0 0 = some a20 ∧ f_X2_bars G a19 a20 v1 (fun r22 S21 => (if r22 = 0 then Q 0 S21 else Q 1 S21)) S)) else Q (-1) S)))))))))
def f_X10_of_32 (G : Gm) (v0 : Nat) (v1 : Int32) (v2 : Int32) (Q : Int32 → St → Prop) (S : St) : Prop :=
  (if v2 < 5 then f_X10_of_58 G v0 v1 v2 Q S else (if 9 ≤ v2 then f_X10_of_58 G v0 v1 v2 Q S else (∃ a3, S.2.2 v0 0 = some a3 ∧ f_X5_glassOf G a3 v1 (fun r5 S4 => f_X3_lensAt G r5 (v2 - 5) (fun r7 S6 => Q r7 S6) S4) S)))
def f_X10_of (G : Gm) (v0 : Nat) (v1 : Int32) (v2 : Int32) (Q : Int32 → St → Prop) (S : St) : Prop :=
  (∃ a1, S.2.2 v0 0 = some a1 ∧ f_X5_has G a1 v1 (fun r3 S2 => (if r3 = 0 then Q (-1) S2 else (if v2 < 0 then f_X10_of_32 G v0 v1 v2 Q S2 else (if 4 ≤ v2 then f_X10_of_32 G v0 v1 v2 Q S2 else (∃ a7, S2.2.2 v0 0 = some a7 ∧ f_X5_sinOf G a7 v1 v2 (fun r9 S8 => Q r9 S8) S2))))) S)
