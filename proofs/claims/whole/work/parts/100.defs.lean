def f_J6_bitCount_0f7a4 (G : Gm) (v0 : Int32) (Q : Int32 → St → Prop) (S : St) : Prop :=
  (∀ x1 : Int32, x1 = v0 - (((v0.toUInt32 >>> ((1 : Int32).toUInt32 &&& Int32.toUInt32 31)).toInt32) &&& 1431655765) → (∀ x2 : Int32, x2 = (x1 &&& 858993459) + (((x1.toUInt32 >>> ((2 : Int32).toUInt32 &&& Int32.toUInt32 31)).toInt32) &&& 858993459) → (∀ x3 : Int32, x3 = (x2 + ((x2.toUInt32 >>> ((4 : Int32).toUInt32 &&& Int32.toUInt32 31)).toInt32)) &&& 252645135 → (∀ x4 : Int32, x4 = x3 + ((x3.toUInt32 >>> ((8 : Int32).toUInt32 &&& Int32.toUInt32 31)).toInt32) → (∀ x5 : Int32, x5 = x4 + ((x4.toUInt32 >>> ((16 : Int32).toUInt32 &&& Int32.toUInt32 31)).toInt32) → Q (x5 &&& 63) S)))))
def f_J9_floorMod_7cf53 (G : Gm) (v0 : Int32) (v1 : Int32) (Q : Int32 → St → Prop) (S : St) : Prop :=
  (¬ v1 = 0 ∧ (∀ x1 : Int32, x1 = v0 - v0 / v1 * v1 → (if 0 ≤ (v0 ^^^ v1) then Q x1 S else (if x1 = 0 then Q x1 S else Q (x1 + v1) S))))
def f_X5_copyFrom_115_n (G : Gm) (v0 : Nat) (v1 : Nat) (Q : St → Prop) : Nat → Int32 → St → Prop
  | 0, _, _ => False
  | n + 1, v2, S => (if 6 ≤ v2 then (∀ S2, S2 = uI S v0 10 (S.1 v1 10) → Q S2) else (∃ a3, S.2.2 v0 9 = some a3 ∧ (∃ a4, S.2.2 v1 9 = some a4 ∧ (vp_in v2 (G.2.1 a4) ∧ ∀ r7, r7 = S.2.2 a4 v2.toNatClampNeg → (vp_in v2 (G.2.1 a3) ∧ ∀ S9, S9 = uR S a3 v2.toNatClampNeg r7 → (f_X5_copyFrom_115_n G v0 v1 Q n) (v2 + 1) S9)))))
def f_X5_copyFrom_115 (G : Gm) (v0 : Nat) (v1 : Nat) (Q : St → Prop) (v2 : Int32) (S : St) : Prop := ∃ n, f_X5_copyFrom_115_n G v0 v1 Q n v2 S
def f_X5_copyFrom (G : Gm) (v0 : Nat) (v1 : Nat) (Q : St → Prop) (S : St) : Prop :=
  (∀ S1, S1 = uI S v0 0 (S.1 v1 0) → (∃ a2, S1.2.2 v1 1 = some a2 ∧ (∃ a3, S1.2.2 v0 1 = some a3 ∧ (cpOk 0 0 24 (G.2.1 a2) (G.2.1 a3) ∧ ∀ S5, S5 = cpI S1 a2 0 a3 0 24 → (∃ a6, S5.2.2 v1 2 = some a6 ∧ (∃ a7, S5.2.2 v0 2 = some a7 ∧ (cpOk 0 0 6 (G.2.1 a6) (G.2.1 a7) ∧ ∀ S9, S9 = cpI S5 a6 0 a7 0 6 → (∃ a10, S9.2.2 v1 3 = some a10 ∧ (∃ a11, S9.2.2 v0 3 = some a11 ∧ (cpOk 0 0 6 (G.2.1 a10) (G.2.1 a11) ∧ ∀ S13, S13 = cpI S9 a10 0 a11 0 6 → (∃ a14, S13.2.2 v1 4 = some a14 ∧ (∃ a15, S13.2.2 v0 4 = some a15 ∧ (cpOk 0 0 4 (G.2.1 a14) (G.2.1 a15) ∧ ∀ S17, S17 = cpI S13 a14 0 a15 0 4 → (∀ S18, S18 = uI S17 v0 5 (S17.1 v1 5) → (∃ a19, S18.2.2 v1 6 = some a19 ∧ (∃ a20, S18.2.2 v0 6 = some a20 ∧ (cpOk 0 0 8 (G.2.1 a19) (G.2.1 a20) ∧ ∀ S22, S22 = cpI S18 a19 0 a20 0 8 → (∃ a23, S22.2.2 v1 7 = some a23 ∧ (∃ a24, S22.2.2 v0 7 = some a24 ∧ (cpOk 0 0 8 (G.2.1 a23) (G.2.1 a24) ∧ ∀ S26, S26 = cpI S22 a23 0 a24 0 8 → (∀ S27, S27 = uI S26 v0 8 (S26.1 v1 8) → f_X5_copyFrom_115 G v0 v1 Q 0 S27)))))))))))))))))))))
def f_X9_copyFrom (G : Gm) (v0 : Nat) (v1 : Nat) (Q : St → Prop) (S : St) : Prop :=
  (∃ a1, S.2.2 v1 0 = some a1 ∧ (∃ a2, S.2.2 v0 0 = some a2 ∧ (cpOk 0 0 512 (G.2.1 a1) (G.2.1 a2) ∧ ∀ S4, S4 = cpI S a1 0 a2 0 512 → (∀ S5, S5 = uI S4 v0 1 (S4.1 v1 1) → (∀ S6, S6 = uI S5 v0 2 (S5.1 v1 2) → Q S6)))))
def f_X0_begin (G : Gm) (v0 : Nat) (v1 : Nat) (v2 : Nat) (Q : St → Prop) (S : St) : Prop :=
  (∃ a1, S.2.2 v0 0 = some a1 ∧ f_X5_copyFrom G a1 v1 (fun S2 => (∃ a3, S2.2.2 v0 1 = some a3 ∧ f_X9_copyFrom G a3 v2 (fun S4 => (∀ S5, S5 = uI S4 v0 6 0 → (∀ S6, S6 = uI S5 v0 7 (-1) → Q S6))) S2)) S)
def f_X5_init (G : Gm) (v0 : Nat) (Q : Gm → St → Prop) (S : St) : Prop :=
  (∀ a1, a1 = G.2.2 → ∀ G2, G2 = gN G 11 (24 : Int32).toNatClampNeg → ∀ S3, S3 = sN S a1 → (∀ S9, S9 = uR S3 v0 1 (some a1) → (∀ a10, a10 = G2.2.2 → ∀ G11, G11 = gN G2 11 (6 : Int32).toNatClampNeg → ∀ S12, S12 = sN S9 a10 → (∀ S18, S18 = uR S12 v0 2 (some a10) → (∀ a19, a19 = G11.2.2 → ∀ G20, G20 = gN G11 11 (6 : Int32).toNatClampNeg → ∀ S21, S21 = sN S18 a19 → (∀ S27, S27 = uR S21 v0 3 (some a19) → (∀ a28, a28 = G20.2.2 → ∀ G29, G29 = gN G20 11 (4 : Int32).toNatClampNeg → ∀ S30, S30 = sN S27 a28 → (∀ S36, S36 = uR S30 v0 4 (some a28) → (∀ a37, a37 = G29.2.2 → ∀ G38, G38 = gN G29 11 (8 : Int32).toNatClampNeg → ∀ S39, S39 = sN S36 a37 → (∀ S45, S45 = uR S39 v0 6 (some a37) → (∀ a46, a46 = G38.2.2 → ∀ G47, G47 = gN G38 11 (8 : Int32).toNatClampNeg → ∀ S48, S48 = sN S45 a46 → (∀ S54, S54 = uR S48 v0 7 (some a46) → (∀ a55, a55 = G47.2.2 → ∀ G56, G56 = gN G47 15 (6 : Int32).toNatClampNeg → ∀ S57, S57 = sN S54 a55 → (∀ S63, S63 = uR S57 v0 9 (some a55) → (∀ S64, S64 = uI S63 v0 10 (-1) → (∃ a65, S64.2.2 v0 4 = some a65 ∧ (vp_in 1 (G56.2.1 a65) ∧ ∀ S67, S67 = uI S64 a65 (1 : Int32).toNatClampNeg 1 → Q G56 S67)))))))))))))))))
def f_X9_init (G : Gm) (v0 : Nat) (Q : Gm → St → Prop) (S : St) : Prop :=
  (∀ a1, a1 = G.2.2 → ∀ G2, G2 = gN G 11 (512 : Int32).toNatClampNeg → ∀ S3, S3 = sN S a1 → (∀ S9, S9 = uR S3 v0 0 (some a1) → Q G2 S9))
def f_X7_init (G : Gm) (v0 : Nat) (Q : Gm → St → Prop) (S : St) : Prop :=
  (∀ a1, a1 = G.2.2 → ∀ G2, G2 = gN G 12 (32 : Int32).toNatClampNeg → ∀ S3, S3 = sN S a1 → (∀ S9, S9 = uR S3 v0 0 (some a1) → Q G2 S9))
def f_X2_init (G : Gm) (v0 : Nat) (Q : Gm → St → Prop) (S : St) : Prop :=
  (∀ a1, a1 = G.2.2 → ∀ G2, G2 = gN G 11 (9 : Int32).toNatClampNeg → ∀ S3, S3 = sN S a1 → (∀ S9, S9 = uR S3 v0 0 (some a1) → (∀ a10, a10 = G2.2.2 → ∀ G11, G11 = gN G2 6 0 → ∀ S12, S12 = sN S9 a10 → f_X7_init G11 a10 (fun G18 S19 => (∀ S28, S28 = uR S19 v0 1 (some a10) → Q G18 S28)) S12)))
def f_X1_init (G : Gm) (v0 : Nat) (Q : Gm → St → Prop) (S : St) : Prop :=
  (∀ a1, a1 = G.2.2 → ∀ G2, G2 = gN G 2 0 → ∀ S3, S3 = sN S a1 → f_X2_init G2 a1 (fun G9 S10 => (∀ S19, S19 = uR S10 v0 0 (some a1) → (∀ a20, a20 = G9.2.2 → ∀ G21, G21 = gN G9 11 (24 : Int32).toNatClampNeg → ∀ S22, S22 = sN S19 a20 → (∀ S28, S28 = uR S22 v0 1 (some a20) → Q G21 S28)))) S3)
def f_X0_init (G : Gm) (v0 : Nat) (Q : Gm → St → Prop) (S : St) : Prop :=
  (∀ a1, a1 = G.2.2 → ∀ G2, G2 = gN G 4 0 → ∀ S3, S3 = sN S a1 → f_X5_init G2 a1 (fun G9 S10 => (∀ S19, S19 = uR S10 v0 0 (some a1) → (∀ a20, a20 = G9.2.2 → ∀ G21, G21 = gN G9 8 0 → ∀ S22, S22 = sN S19 a20 → f_X9_init G21 a20 (fun G28 S29 => (∀ S38, S38 = uR S29 v0 1 (some a20) → (∀ a39, a39 = G28.2.2 → ∀ G40, G40 = gN G28 2 0 → ∀ S41, S41 = sN S38 a39 → f_X2_init G40 a39 (fun G47 S48 => (∀ S57, S57 = uR S48 v0 2 (some a39) → (∀ a58, a58 = G47.2.2 → ∀ G59, G59 = gN G47 1 0 → ∀ S60, S60 = sN S57 a58 → f_X1_init G59 a58 (fun G66 S67 => (∀ S76, S76 = uR S67 v0 3 (some a58) → (∀ a77, a77 = G66.2.2 → ∀ G78, G78 = gN G66 6 0 → ∀ S79, S79 = sN S76 a77 → f_X7_init G78 a77 (fun G85 S86 => (∀ S95, S95 = uR S86 v0 4 (some a77) → (∀ a96, a96 = G85.2.2 → ∀ G97, G97 = gN G85 11 (22 : Int32).toNatClampNeg → ∀ S98, S98 = sN S95 a96 → (∀ S104, S104 = uR S98 v0 5 (some a96) → Q G97 S104)))) S79))) S60))) S41))) S22))) S3)
def f_X5_termOf (G : Gm) (v0 : Nat) (v1 : Int32) (Q : Int32 → St → Prop) (S : St) : Prop :=
  (if v1 < 0 then Q 0 S else (if 4 ≤ v1 then Q 0 S else (∃ a3, S.2.2 v0 4 = some a3 ∧ (vp_in v1 (G.2.1 a3) ∧ Q (S.1 a3 v1.toNatClampNeg) S))))
def f_X5_has (G : Gm) (v0 : Nat) (v1 : Int32) (Q : Int32 → St → Prop) (S : St) : Prop :=
  (if v1 < 0 then Q 0 S else (if (S.1 v0 0) ≤ v1 then Q 0 S else (if 6 ≤ v1 then Q 0 S else Q 1 S)))
def f_X5_glassOf (G : Gm) (v0 : Nat) (v1 : Int32) (Q : Int32 → St → Prop) (S : St) : Prop :=
  f_X5_has G v0 v1 (fun r2 S1 => (if r2 = 0 then Q 0 S1 else (∃ a4, S1.2.2 v0 2 = some a4 ∧ (vp_in v1 (G.2.1 a4) ∧ Q (S1.1 a4 v1.toNatClampNeg) S1)))) S
def f_X3_bend (G : Gm) (v0 : Int32) (v1 : Int32) (Q : Int32 → St → Prop) (S : St) : Prop :=
  (if v0 = 1 then Q ((v1 ||| (v1 <<< ((1 : Int32) &&& 31))) &&& 255) S else (if v0 = 2 then (∀ x1 : Int32, x1 = ((v1 <<< ((4 : Int32) &&& 31)) &&& 240) ||| ((v1 >>> ((4 : Int32) &&& 31)) &&& 15) → (∀ x2 : Int32, x2 = ((x1 <<< ((2 : Int32) &&& 31)) &&& 204) ||| ((x1 >>> ((2 : Int32) &&& 31)) &&& 51) → Q (((x2 <<< ((1 : Int32) &&& 31)) &&& 170) ||| ((x2 >>> ((1 : Int32) &&& 31)) &&& 85)) S)) else (if v0 = 3 then Q (((v1 <<< ((1 : Int32) &&& 31)) ||| (v1 >>> ((7 : Int32) &&& 31))) &&& 255) S else (if v0 = 4 then Q (v1 &&& 126) S else (if v0 = 5 then Q (((v1 <<< ((4 : Int32) &&& 31)) ||| (v1 >>> ((4 : Int32) &&& 31))) &&& 255) S else (if v0 = 6 then Q (v1 ^^^ 255) S else (if v0 = 7 then Q (v1 &&& (v1 >>> ((1 : Int32) &&& 31))) S else Q v1 S)))))))
def f_X3_through_32 (G : Gm) (k6 : Int32 → Int32 → St → Prop) (v0 : Int32) (v2 : Int32) (v3 : Int32) (Q : Int32 → St → Prop) (S : St) : Prop :=
  (∀ x1 : Int32, x1 = v3 / 10 → k6 v2 x1 S)
def f_X3_through_6_n (G : Gm) (v0 : Int32) (Q : Int32 → St → Prop) : Nat → Int32 → Int32 → St → Prop
  | 0, _, _, _ => False
  | n + 1, v2, v3, S => (if v3 ≤ 0 then Q v2 S else (¬ v3 = 0 ∧ (∀ x2 : Int32, x2 = (v0 / v3) - (v0 / v3) / 10 * 10 → (if x2 ≤ 0 then f_X3_through_32 G (f_X3_through_6_n G v0 Q n) v0 v2 v3 Q S else f_X3_bend G (x2 - 1) v2 (fun r5 S4 => f_X3_through_32 G (f_X3_through_6_n G v0 Q n) v0 r5 v3 Q S4) S))))
def f_X3_through_6 (G : Gm) (v0 : Int32) (Q : Int32 → St → Prop) (v2 : Int32) (v3 : Int32) (S : St) : Prop := ∃ n, f_X3_through_6_n G v0 Q n v2 v3 S
def f_X3_through (G : Gm) (v0 : Int32) (v1 : Int32) (Q : Int32 → St → Prop) (S : St) : Prop :=
  f_X3_through_6 G v0 Q v1 1000 S
def f_X5_sightOf (G : Gm) (v0 : Nat) (v1 : Int32) (Q : Int32 → St → Prop) (S : St) : Prop :=
  f_X5_glassOf G v0 v1 (fun r2 S1 => f_X5_termOf G v0 3 (fun r4 S3 => f_X3_through G r2 r4 (fun r6 S5 => Q r6 S5) S3) S1) S
def f_X5_sinsOf_14_n (G : Gm) (v0 : Nat) (v1 : Int32) (Q : Int32 → St → Prop) : Nat → Int32 → Int32 → St → Prop
  | 0, _, _, _ => False
  | n + 1, v2, v3, S => (if 4 ≤ v3 then Q v2 S else (∃ a2, S.2.2 v0 1 = some a2 ∧ (vp_in ((v1 * 4) + v3) (G.2.1 a2) ∧ (∀ x4 : Int32, x4 = v2 + (S.1 a2 ((v1 * 4) + v3).toNatClampNeg) → (f_X5_sinsOf_14_n G v0 v1 Q n) x4 (v3 + 1) S))))
def f_X5_sinsOf_14 (G : Gm) (v0 : Nat) (v1 : Int32) (Q : Int32 → St → Prop) (v2 : Int32) (v3 : Int32) (S : St) : Prop := ∃ n, f_X5_sinsOf_14_n G v0 v1 Q n v2 v3 S
def f_X5_sinsOf (G : Gm) (v0 : Nat) (v1 : Int32) (Q : Int32 → St → Prop) (S : St) : Prop :=
  f_X5_has G v0 v1 (fun r2 S1 => (if r2 = 0 then Q 0 S1 else f_X5_sinsOf_14 G v0 v1 Q 0 0 S1)) S
def f_X3_litCells_4_n (G : Gm) (v0 : Int32) (Q : Int32 → St → Prop) : Nat → Int32 → Int32 → St → Prop
  | 0, _, _, _ => False
  | n + 1, v1, v2, S => (if 8 ≤ v2 then Q v1 S else (∀ x2 : Int32, x2 = v1 + ((v0 >>> ((v2 : Int32) &&& 31)) &&& 1) → (f_X3_litCells_4_n G v0 Q n) x2 (v2 + 1) S))
def f_X3_litCells_4 (G : Gm) (v0 : Int32) (Q : Int32 → St → Prop) (v1 : Int32) (v2 : Int32) (S : St) : Prop := ∃ n, f_X3_litCells_4_n G v0 Q n v1 v2 S
def f_X3_litCells (G : Gm) (v0 : Int32) (Q : Int32 → St → Prop) (S : St) : Prop :=
  f_X3_litCells_4 G v0 Q 0 0 S
def f_X3_lowestLit_2_n (G : Gm) (v0 : Int32) (Q : Int32 → St → Prop) : Nat → Int32 → St → Prop
  | 0, _, _ => False
  | n + 1, v1, S => (if 8 ≤ v1 then Q 8 S else (if ((v0 >>> ((v1 : Int32) &&& 31)) &&& 1) = 1 then Q v1 S else (f_X3_lowestLit_2_n G v0 Q n) (v1 + 1) S))
def f_X3_lowestLit_2 (G : Gm) (v0 : Int32) (Q : Int32 → St → Prop) (v1 : Int32) (S : St) : Prop := ∃ n, f_X3_lowestLit_2_n G v0 Q n v1 S
def f_X3_lowestLit (G : Gm) (v0 : Int32) (Q : Int32 → St → Prop) (S : St) : Prop :=
  f_X3_lowestLit_2 G v0 Q 0 S
def f_X2_aboutPerson (G : Gm) (v0 : Nat) (v1 : Nat) (v2 : Int32) (v3 : Int32) (Q : St → Prop) (S : St) : Prop :=
  (∃ a1, S.2.2 v0 0 = some a1 ∧ (vp_in 0 (G.2.1 a1) ∧ ∀ S3, S3 = uI S a1 (0 : Int32).toNatClampNeg v2 → (∃ a4, S3.2.2 v0 0 = some a4 ∧ (vp_in 1 (G.2.1 a4) ∧ ∀ S6, S6 = uI S3 a4 (1 : Int32).toNatClampNeg (-1) → (∃ a7, S6.2.2 v0 0 = some a7 ∧ (vp_in 2 (G.2.1 a7) ∧ ∀ S9, S9 = uI S6 a7 (2 : Int32).toNatClampNeg (-1) → (∃ a10, S9.2.2 v0 0 = some a10 ∧ f_X5_sinsOf G v1 v2 (fun r12 S11 => (vp_in 3 (G.2.1 a10) ∧ ∀ S14, S14 = uI S11 a10 (3 : Int32).toNatClampNeg r12 → (∃ a15, S14.2.2 v0 0 = some a15 ∧ (vp_in 4 (G.2.1 a15) ∧ ∀ S17, S17 = uI S14 a15 (4 : Int32).toNatClampNeg v3 → (∃ a18, S17.2.2 v0 0 = some a18 ∧ f_X3_litCells G v3 (fun r20 S19 => (vp_in 5 (G.2.1 a18) ∧ ∀ S22, S22 = uI S19 a18 (5 : Int32).toNatClampNeg r20 → (∃ a23, S22.2.2 v0 0 = some a23 ∧ f_X3_lowestLit G v3 (fun r25 S24 => (vp_in 6 (G.2.1 a23) ∧ ∀ S27, S27 = uI S24 a23 (6 : Int32).toNatClampNeg r25 → (∃ a28, S27.2.2 v0 0 = some a28 ∧ f_X5_termOf G v1 0 (fun r30 S29 => (vp_in 7 (G.2.1 a28) ∧ ∀ S32, S32 = uI S29 a28 (7 : Int32).toNatClampNeg r30 → (∃ a33, S32.2.2 v0 0 = some a33 ∧ f_X5_termOf G v1 2 (fun r35 S34 => (vp_in 8 (G.2.1 a33) ∧ ∀ S37, S37 = uI S34 a33 (8 : Int32).toNatClampNeg r35 → Q S37)) S32))) S27))) S22))) S17))))) S9)))))))
def f_X5_hasLaw (G : Gm) (v0 : Nat) (v1 : Int32) (Q : Int32 → St → Prop) (S : St) : Prop :=
  (if v1 < 0 then Q 0 S else (if (S.1 v0 8) ≤ v1 then Q 0 S else (if 6 ≤ v1 then Q 0 S else Q 1 S)))
def f_X5_lawAt (G : Gm) (v0 : Nat) (v1 : Int32) (Q : Option Nat → St → Prop) (S : St) : Prop :=
  f_X5_hasLaw G v0 v1 (fun r2 S1 => (if r2 = 0 then Q none S1 else (∃ a4, S1.2.2 v0 9 = some a4 ∧ (vp_in v1 (G.2.1 a4) ∧ ∀ r7, r7 = S1.2.2 a4 v1.toNatClampNeg → Q r7 S1)))) S
def f_X5_lawInForce (G : Gm) (v0 : Nat) (Q : Option Nat → St → Prop) (S : St) : Prop :=
  f_X5_lawAt G v0 (S.1 v0 10) (fun r2 S1 => (∀ z, r2 = some z → ok G 7 z) ∧ Q r2 S1) S
def f_X8_verbOf (G : Gm) (v0 : Nat) (v1 : Int32) (Q : Int32 → St → Prop) (S : St) : Prop :=
  (if v1 < 0 then Q (-1) S else (∃ a2, S.2.2 v0 0 = some a2 ∧ (if (nI (G.2.1 a2)) ≤ v1 then Q (-1) S else (∃ a4, S.2.2 v0 0 = some a4 ∧ (vp_in v1 (G.2.1 a4) ∧ Q (S.1 a4 v1.toNatClampNeg) S)))))
def f_X8_markOf (G : Gm) (v0 : Nat) (v1 : Int32) (v2 : Int32) (Q : Int32 → St → Prop) (S : St) : Prop :=
  (∀ x1 : Int32, x1 = (v1 * 4) + v2 → (if x1 < 0 then Q 0 S else (∃ a3, S.2.2 v0 3 = some a3 ∧ (if (nI (G.2.1 a3)) ≤ x1 then Q 0 S else (∃ a5, S.2.2 v0 3 = some a5 ∧ (vp_in x1 (G.2.1 a5) ∧ Q (S.1 a5 x1.toNatClampNeg) S))))))
