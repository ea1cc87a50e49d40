def f_X4_agrees_2_n (G : Gm) (v0 : Nat) (v1 : Int32) (Q : Int32 → St → Prop) : Nat → Int32 → St → Prop
  | 0, _, _ => False
  | n + 1, v2, S => (if (S.1 v0 5) ≤ v2 then Q 1 S else (if 8 ≤ v2 then Q 1 S else (∃ a3, S.2.2 v0 6 = some a3 ∧ (vp_in v2 (G.2.1 a3) ∧ f_X5_glassOf G v0 (S.1 a3 v2.toNatClampNeg) (fun r6 S5 => f_X3_through G r6 v1 (fun r8 S7 => (∃ a9, S7.2.2 v0 7 = some a9 ∧ (vp_in v2 (G.2.1 a9) ∧ (if r8 = (S7.1 a9 v2.toNatClampNeg) then (f_X4_agrees_2_n G v0 v1 Q n) (v2 + 1) S7 else Q 0 S7)))) S5) S))))
def f_X4_agrees_2 (G : Gm) (v0 : Nat) (v1 : Int32) (Q : Int32 → St → Prop) (v2 : Int32) (S : St) : Prop := ∃ n, f_X4_agrees_2_n G v0 v1 Q n v2 S
def f_X4_agrees (G : Gm) (v0 : Nat) (v1 : Int32) (Q : Int32 → St → Prop) (S : St) : Prop :=
  f_X4_agrees_2 G v0 v1 Q 0 S
def f_X4_findScenes_4_n (G : Gm) (v0 : Nat) (v1 : Nat) (Q : Int32 → St → Prop) : Nat → Int32 → Int32 → St → Prop
  | 0, _, _, _ => False
  | n + 1, v2, v3, S => (if 256 ≤ v3 then Q v2 S else f_X4_agrees G v1 v3 (fun r3 S2 => (if r3 = 0 then (f_X4_findScenes_4_n G v0 v1 Q n) v2 (v3 + 1) S2 else (∃ a5, S2.2.2 v0 5 = some a5 ∧ (vp_in v2 (G.2.1 a5) ∧ ∀ S7, S7 = uI S2 a5 v2.toNatClampNeg v3 → (f_X4_findScenes_4_n G v0 v1 Q n) (v2 + 1) (v3 + 1) S7)))) S)
def f_X4_findScenes_4 (G : Gm) (v0 : Nat) (v1 : Nat) (Q : Int32 → St → Prop) (v2 : Int32) (v3 : Int32) (S : St) : Prop := ∃ n, f_X4_findScenes_4_n G v0 v1 Q n v2 v3 S
def f_X4_findScenes (G : Gm) (v0 : Nat) (v1 : Nat) (Q : Int32 → St → Prop) (S : St) : Prop :=
  f_X4_findScenes_4 G v0 v1 Q 0 0 S
def f_X10_isNumber (G : Gm) (v0 : Int32) (Q : Int32 → St → Prop) (S : St) : Prop :=
  (if v0 < 0 then Q 0 S else (if 256 ≤ v0 then Q 0 S else Q 1 S))
def f_X4_mostAlike_27_n (G : Gm) (v0 : Nat) (v1 : Int32) (v2 : Int32) (Q : Int32 → St → Prop) : Nat → Int32 → Int32 → St → Prop
  | 0, _, _, _ => False
  | n + 1, v3, v4, S => (if v2 ≤ v4 then Q v3 S else (if 256 ≤ v4 then Q v3 S else (∃ a3, S.2.2 v0 5 = some a3 ∧ (vp_in v4 (G.2.1 a3) ∧ f_X3_through G v1 (S.1 a3 v4.toNatClampNeg) (fun r6 S5 => f_X10_isNumber G r6 (fun r8 S7 => (if r8 = 0 then (f_X4_mostAlike_27_n G v0 v1 v2 Q n) v3 (v4 + 1) S7 else (∃ a10, S7.2.2 v0 6 = some a10 ∧ (vp_in r6 (G.2.1 a10) ∧ (vp_in r6 (G.2.1 a10) ∧ ∀ S13, S13 = uI S7 a10 r6.toNatClampNeg ((S7.1 a10 r6.toNatClampNeg) + 1) → (∃ a14, S13.2.2 v0 6 = some a14 ∧ (vp_in r6 (G.2.1 a14) ∧ (∀ x16 : Int32, x16 = mx v3 (S13.1 a14 r6.toNatClampNeg) → (f_X4_mostAlike_27_n G v0 v1 v2 Q n) x16 (v4 + 1) S13)))))))) S5) S))))
def f_X4_mostAlike_27 (G : Gm) (v0 : Nat) (v1 : Int32) (v2 : Int32) (Q : Int32 → St → Prop) (v3 : Int32) (v4 : Int32) (S : St) : Prop := ∃ n, f_X4_mostAlike_27_n G v0 v1 v2 Q n v3 v4 S
def f_X4_mostAlike_2_n (G : Gm) (v0 : Nat) (v1 : Int32) (v2 : Int32) (Q : Int32 → St → Prop) : Nat → Int32 → St → Prop
  | 0, _, _ => False
  | n + 1, v3, S => (if 256 ≤ v3 then f_X4_mostAlike_27 G v0 v1 v2 Q 0 0 S else (∃ a2, S.2.2 v0 6 = some a2 ∧ (vp_in v3 (G.2.1 a2) ∧ ∀ S4, S4 = uI S a2 v3.toNatClampNeg 0 → (f_X4_mostAlike_2_n G v0 v1 v2 Q n) (v3 + 1) S4)))
def f_X4_mostAlike_2 (G : Gm) (v0 : Nat) (v1 : Int32) (v2 : Int32) (Q : Int32 → St → Prop) (v3 : Int32) (S : St) : Prop := ∃ n, f_X4_mostAlike_2_n G v0 v1 v2 Q n v3 S
def f_X4_mostAlike (G : Gm) (v0 : Nat) (v1 : Int32) (v2 : Int32) (Q : Int32 → St → Prop) (S : St) : Prop :=
  f_X4_mostAlike_2 G v0 v1 v2 Q 0 S
def f_X4_toAsk_64 (G : Gm) (v2 : Int32) (v4 : Int32) (v5 : Int32) (Q : Int32 → St → Prop) (S : St) : Prop :=
  (if v2 = 0 then (if v4 = (-1) then Q v4 S else Q v5 S) else Q v4 S)
def f_X4_toAsk_17_n (G : Gm) (v0 : Nat) (v1 : Nat) (v2 : Int32) (v3 : Int32) (Q : Int32 → St → Prop) : Nat → Int32 → Int32 → Int32 → St → Prop
  | 0, _, _, _, _ => False
  | n + 1, v4, v5, v6, S => (if (S.1 v1 0) ≤ v6 then f_X4_toAsk_64 G v2 v4 v5 Q S else (if v3 ≤ 0 then f_X4_toAsk_64 G v2 v4 v5 Q S else f_X5_glassOf G v1 v6 (fun r4 S3 => f_X4_mostAlike G v0 r4 v3 (fun r6 S5 => (if v5 ≤ r6 then (f_X4_toAsk_17_n G v0 v1 v2 v3 Q n) v4 v5 (v6 + 1) S5 else (f_X4_toAsk_17_n G v0 v1 v2 v3 Q n) v6 r6 (v6 + 1) S5)) S3) S))
def f_X4_toAsk_17 (G : Gm) (v0 : Nat) (v1 : Nat) (v2 : Int32) (v3 : Int32) (Q : Int32 → St → Prop) (v4 : Int32) (v5 : Int32) (v6 : Int32) (S : St) : Prop := ∃ n, f_X4_toAsk_17_n G v0 v1 v2 v3 Q n v4 v5 v6 S
def f_X4_toAsk (G : Gm) (v0 : Nat) (v1 : Nat) (v2 : Int32) (Q : Int32 → St → Prop) (S : St) : Prop :=
  f_X4_findScenes G v0 v1 (fun r2 S1 => f_X4_toAsk_17 G v0 v1 v2 r2 Q (-1) 257 0 S1) S
def f_X10_ask_26 (G : Gm) (u0 : Int32) (u1 : Nat) (u2 : Nat) (Q : Int32 → St → Prop) (S : St) : Prop :=
  f_X4_toAsk G u2 u1 u0 (fun r2 S1 => Q r2 S1) S
def f_X10_ask_9 (G : Gm) (v0 : Nat) (v1 : Int32) (Q : Int32 → St → Prop) (S : St) : Prop :=
  (∃ a1, S.2.2 v0 7 = some a1 ∧ (∃ a2, S.2.2 v0 0 = some a2 ∧ (if v1 = 0 then f_X10_ask_26 G 1 a2 a1 Q S else f_X10_ask_26 G 0 a2 a1 Q S)))
def f_X10_ask (G : Gm) (v0 : Nat) (v1 : Int32) (Q : Int32 → St → Prop) (S : St) : Prop :=
  (if v1 = 0 then f_X10_ask_9 G v0 v1 Q S else (if v1 = 1 then f_X10_ask_9 G v0 v1 Q S else Q (-1) S))
def f_X10_asks (G : Gm) (v0 : Nat) (v1 : Int32) (v2 : Int32) (v3 : Int32) (Q : Int32 → St → Prop) (S : St) : Prop :=
  (∃ a1, S.2.2 v0 0 = some a1 ∧ f_X5_has G a1 v1 (fun r3 S2 => (if r3 = 0 then Q (-100) S2 else f_X10_isKind G v2 (fun r6 S5 => (if r6 = 0 then Q (-100) S5 else (if v3 = 0 then (∃ a14, S5.2.2 v0 4 = some a14 ∧ (∃ a15, S5.2.2 v0 0 = some a15 ∧ (∃ a16, S5.2.2 v0 0 = some a16 ∧ f_X5_lawInForce G a16 (fun r18 S17 => (∀ z, r18 = some z → ok G 7 z) ∧ f_X2_lensFor G a14 a15 r18 v1 v2 (fun r21 S20 => Q r21 S20) S17) S5))) else (if v3 = 1 then (∃ a10, S5.2.2 v0 4 = some a10 ∧ (∃ a11, S5.2.2 v0 0 = some a11 ∧ f_X2_growth G a10 a11 v1 v2 (fun r13 S12 => Q r13 S12) S5)) else Q (-100) S5)))) S2)) S)
def f_X10_refuse (G : Gm) (v0 : Nat) (v1 : Int32) (Q : Int32 → St → Prop) (S : St) : Prop :=
  (∀ S1, S1 = uI S v0 10 v1 → (if 0 ≤ v1 then Q v1 S1 else (if v1 < (-6) then Q v1 S1 else (∃ a4, S1.2.2 v0 9 = some a4 ∧ (vp_in (-v1) (G.2.1 a4) ∧ (vp_in (-v1) (G.2.1 a4) ∧ ∀ S7, S7 = uI S1 a4 (-v1).toNatClampNeg ((S1.1 a4 (-v1).toNatClampNeg) + 1) → Q v1 S7))))))
def f_X9_empty (G : Gm) (v0 : Nat) (Q : St → Prop) (S : St) : Prop :=
  (∀ S1, S1 = uI S v0 2 0 → Q S1)
def f_X10_back_9 (G : Gm) (v0 : Nat) (Q : Int32 → St → Prop) (S : St) : Prop :=
  f_X10_refuse G v0 (-1) (fun r2 S1 => Q r2 S1) S
def f_X10_back (G : Gm) (v0 : Nat) (v1 : Int32) (Q : Int32 → St → Prop) (S : St) : Prop :=
  (if v1 < 0 then f_X10_back_9 G v0 Q S else (if v1 < 2 then (∃ a3, S.2.2 v0 2 = some a3 ∧ (vp_in v1 (G.2.1 a3) ∧ ∀ r6, r6 = S.2.2 a3 v1.toNatClampNeg → ((∀ a7, r6 = some a7 → (∃ a9, S.2.2 v0 0 = some a9 ∧ f_X5_copyFrom G a9 a7 (fun S10 => (∃ a11, S10.2.2 v0 3 = some a11 ∧ f_X9_empty G a11 (fun S12 => f_X10_accept G v0 0 (fun r14 S13 => Q r14 S13) S12) S10)) S)) ∧ (r6 = none → f_X10_refuse G v0 (-2) (fun r16 S15 => Q r16 S15) S)))) else f_X10_back_9 G v0 Q S))
def f_X10_judged (G : Gm) (v0 : Nat) (v1 : Int32) (Q : Int32 → St → Prop) (S : St) : Prop :=
  (if 0 ≤ v1 then f_X10_accept G v0 v1 (fun r3 S2 => Q r3 S2) S else f_X10_refuse G v0 v1 (fun r5 S4 => Q r5 S4) S)
def f_X10_cloth (G : Gm) (v0 : Nat) (v1 : Int32) (Q : Int32 → St → Prop) (S : St) : Prop :=
  (∃ a1, S.2.2 v0 5 = some a1 ∧ (∃ a2, S.2.2 v0 0 = some a2 ∧ (∃ a3, S.2.2 v0 3 = some a3 ∧ f_X1_act G a1 a2 a3 3 v1 0 0 (fun r5 S4 => f_X10_judged G v0 r5 (fun r7 S6 => Q r7 S6) S4) S)))
def f_X10_isLens (G : Gm) (v0 : Int32) (Q : Int32 → St → Prop) (S : St) : Prop :=
  (if v0 < 0 then Q 0 S else (if 8 ≤ v0 then Q 0 S else Q 1 S))
def f_X4_sinsBehind_14_n (G : Gm) (v0 : Nat) (v1 : Nat) (v2 : Int32) (v3 : Int32) (v4 : Int32) (v5 : Int32) (Q : Int32 → St → Prop) : Nat → Int32 → Int32 → St → Prop
  | 0, _, _, _ => False
  | n + 1, v6, v7, S => (if 8 < v7 then f_X5_setSin G v1 v2 v3 v5 (fun S2 => Q v6 S2) S else f_X5_setSin G v1 v2 v3 v7 (fun S3 => (∃ a4, S3.2.2 v0 0 = some a4 ∧ f_X5_lawInForce G v1 (fun r6 S5 => (∀ z, r6 = some z → ok G 7 z) ∧ f_X2_lensFor G a4 v1 r6 v2 v3 (fun r9 S8 => (if r9 = v4 then (∀ x11 : Int32, x11 = v6 ||| (1 <<< ((v7 : Int32) &&& 31)) → (f_X4_sinsBehind_14_n G v0 v1 v2 v3 v4 v5 Q n) x11 (v7 + 1) S8) else (f_X4_sinsBehind_14_n G v0 v1 v2 v3 v4 v5 Q n) v6 (v7 + 1) S8)) S5) S3)) S)
def f_X4_sinsBehind_14 (G : Gm) (v0 : Nat) (v1 : Nat) (v2 : Int32) (v3 : Int32) (v4 : Int32) (v5 : Int32) (Q : Int32 → St → Prop) (v6 : Int32) (v7 : Int32) (S : St) : Prop := ∃ n, f_X4_sinsBehind_14_n G v0 v1 v2 v3 v4 v5 Q n v6 v7 S
def f_X4_sinsBehind (G : Gm) (v0 : Nat) (v1 : Nat) (v2 : Int32) (v3 : Int32) (v4 : Int32) (Q : Int32 → St → Prop) (S : St) : Prop :=
  f_X5_sinOf G v1 v2 v3 (fun r2 S1 => f_X4_sinsBehind_14 G v0 v1 v2 v3 v4 r2 Q 0 0 S1) S
def f_X10_come (G : Gm) (v0 : Nat) (v1 : Int32) (v2 : Int32) (v3 : Int32) (Q : Int32 → St → Prop) (S : St) : Prop :=
  (∃ a1, S.2.2 v0 0 = some a1 ∧ f_X5_has G a1 v1 (fun r3 S2 => (if r3 = 0 then Q (-1) S2 else f_X10_isKind G v2 (fun r6 S5 => (if r6 = 0 then Q (-1) S5 else f_X10_isLens G v3 (fun r9 S8 => (if r9 = 0 then Q (-1) S8 else (∃ a11, S8.2.2 v0 7 = some a11 ∧ (∃ a12, S8.2.2 v0 0 = some a12 ∧ f_X4_sinsBehind G a11 a12 v1 v2 v3 (fun r14 S13 => Q r14 S13) S8)))) S5)) S2)) S)
def f_X5_allSins_4_n (G : Gm) (v0 : Nat) (Q : Int32 → St → Prop) : Nat → Int32 → Int32 → St → Prop
  | 0, _, _, _ => False
  | n + 1, v1, v2, S => (if (S.1 v0 0) ≤ v2 then Q v1 S else f_X5_sinsOf G v0 v2 (fun r3 S2 => (∀ x4 : Int32, x4 = v1 + r3 → (f_X5_allSins_4_n G v0 Q n) x4 (v2 + 1) S2)) S)
def f_X5_allSins_4 (G : Gm) (v0 : Nat) (Q : Int32 → St → Prop) (v1 : Int32) (v2 : Int32) (S : St) : Prop := ∃ n, f_X5_allSins_4_n G v0 Q n v1 v2 S
def f_X5_allSins (G : Gm) (v0 : Nat) (Q : Int32 → St → Prop) (S : St) : Prop :=
  f_X5_allSins_4 G v0 Q 0 0 S
def f_X10_count (G : Gm) (v0 : Nat) (v1 : Int32) (Q : Int32 → St → Prop) (S : St) : Prop :=
  (if v1 = 0 then (∃ a1, S.2.2 v0 0 = some a1 ∧ Q (S.1 a1 0) S) else (if v1 = 1 then (∃ a2, S.2.2 v0 0 = some a2 ∧ f_X5_allSins G a2 (fun r4 S3 => Q r4 S3) S) else (if v1 = 2 then (∃ a5, S.2.2 v0 0 = some a5 ∧ Q (S.1 a5 5) S) else (if v1 = 3 then (∃ a6, S.2.2 v0 0 = some a6 ∧ Q (S.1 a6 8) S) else (if v1 = 4 then (∃ a7, S.2.2 v0 3 = some a7 ∧ Q (S.1 a7 2) S) else (if v1 = 5 then (∃ a8, S.2.2 v0 8 = some a8 ∧ Q (S.1 a8 1) S) else (if v1 = 6 then (∃ a9, S.2.2 v0 9 = some a9 ∧ (vp_in 1 (G.2.1 a9) ∧ Q (S.1 a9 (1 : Int32).toNatClampNeg) S)) else (if v1 = 7 then (∃ a11, S.2.2 v0 9 = some a11 ∧ (vp_in 2 (G.2.1 a11) ∧ Q (S.1 a11 (2 : Int32).toNatClampNeg) S)) else (if v1 = 8 then (∃ a13, S.2.2 v0 9 = some a13 ∧ (vp_in 3 (G.2.1 a13) ∧ Q (S.1 a13 (3 : Int32).toNatClampNeg) S)) else (if v1 = 9 then (∃ a15, S.2.2 v0 9 = some a15 ∧ (vp_in 5 (G.2.1 a15) ∧ Q (S.1 a15 (5 : Int32).toNatClampNeg) S)) else (if v1 = 10 then (∃ a17, S.2.2 v0 9 = some a17 ∧ (vp_in 6 (G.2.1 a17) ∧ Q (S.1 a17 (6 : Int32).toNatClampNeg) S)) else (if v1 = 11 then (∃ a19, S.2.2 v0 0 = some a19 ∧ Q (S.1 a19 10) S) else (if v1 < 12 then Q (-1) S else (if 16 ≤ v1 then Q (-1) S else (∃ a22, S.2.2 v0 0 = some a22 ∧ f_X5_termOf G a22 (v1 - 12) (fun r24 S23 => Q r24 S23) S)))))))))))))))
def f_X4_spread_71_n (G : Gm) (k48 : Int32 → Int32 → St → Prop) (v0 : Nat) (v3 : Int32) (v4 : Int32) (Q : St → Prop) : Nat → Int32 → Int32 → St → Prop
  | 0, _, _, _ => False
  | n + 1, v2, v5, S => (if 8 ≤ v5 then k48 v2 (v3 + 1) S else f_X3_bend G v5 v4 (fun r3 S2 => f_X10_isNumber G r3 (fun r5 S4 => (if r5 = 0 then (f_X4_spread_71_n G k48 v0 v3 v4 Q n) v2 (v5 + 1) S4 else (∃ a7, S4.2.2 v0 4 = some a7 ∧ (vp_in r3 (G.2.1 a7) ∧ (if (S4.1 a7 r3.toNatClampNeg) = (-1) then (if 256 ≤ v2 then (f_X4_spread_71_n G k48 v0 v3 v4 Q n) v2 (v5 + 1) S4 else (∃ a11, S4.2.2 v0 4 = some a11 ∧ (∃ a12, S4.2.2 v0 4 = some a12 ∧ (vp_in v4 (G.2.1 a12) ∧ (vp_in r3 (G.2.1 a11) ∧ ∀ S15, S15 = uI S4 a11 r3.toNatClampNeg ((S4.1 a12 v4.toNatClampNeg) + 1) → (∃ a16, S15.2.2 v0 2 = some a16 ∧ (vp_in r3 (G.2.1 a16) ∧ ∀ S18, S18 = uI S15 a16 r3.toNatClampNeg v4 → (∃ a19, S18.2.2 v0 3 = some a19 ∧ (vp_in r3 (G.2.1 a19) ∧ ∀ S21, S21 = uI S18 a19 r3.toNatClampNeg v5 → (∃ a22, S21.2.2 v0 1 = some a22 ∧ (vp_in v2 (G.2.1 a22) ∧ ∀ S24, S24 = uI S21 a22 v2.toNatClampNeg r3 → (f_X4_spread_71_n G k48 v0 v3 v4 Q n) (v2 + 1) (v5 + 1) S24))))))))))) else (f_X4_spread_71_n G k48 v0 v3 v4 Q n) v2 (v5 + 1) S4))))) S2) S)
def f_X4_spread_71 (G : Gm) (k48 : Int32 → Int32 → St → Prop) (v0 : Nat) (v3 : Int32) (v4 : Int32) (Q : St → Prop) (v2 : Int32) (v5 : Int32) (S : St) : Prop := ∃ n, f_X4_spread_71_n G k48 v0 v3 v4 Q n v2 v5 S
def f_X4_spread_48_n (G : Gm) (v0 : Nat) (Q : St → Prop) : Nat → Int32 → Int32 → St → Prop
  | 0, _, _, _ => False
  | n + 1, v2, v3, S => (if v2 ≤ v3 then Q S else (if 256 ≤ v3 then Q S else (∃ a3, S.2.2 v0 1 = some a3 ∧ (vp_in v3 (G.2.1 a3) ∧ (∀ x5 : Int32, x5 = S.1 a3 v3.toNatClampNeg → f_X4_spread_71 G (f_X4_spread_48_n G v0 Q n) v0 v3 x5 Q v2 1 S)))))
def f_X4_spread_48 (G : Gm) (v0 : Nat) (Q : St → Prop) (v2 : Int32) (v3 : Int32) (S : St) : Prop := ∃ n, f_X4_spread_48_n G v0 Q n v2 v3 S
def f_X4_spread_2_n (G : Gm) (v0 : Nat) (v1 : Int32) (Q : St → Prop) : Nat → Int32 → St → Prop
  | 0, _, _ => False
  | n + 1, v2, S => (if 256 ≤ v2 then f_X10_isNumber G v1 (fun r3 S2 => (if r3 = 0 then Q S2 else (∃ a5, S2.2.2 v0 4 = some a5 ∧ (vp_in v1 (G.2.1 a5) ∧ ∀ S7, S7 = uI S2 a5 v1.toNatClampNeg 0 → (∃ a8, S7.2.2 v0 1 = some a8 ∧ (vp_in 0 (G.2.1 a8) ∧ ∀ S10, S10 = uI S7 a8 (0 : Int32).toNatClampNeg v1 → f_X4_spread_48 G v0 Q 1 0 S10)))))) S else (∃ a11, S.2.2 v0 4 = some a11 ∧ (vp_in v2 (G.2.1 a11) ∧ ∀ S13, S13 = uI S a11 v2.toNatClampNeg (-1) → (f_X4_spread_2_n G v0 v1 Q n) (v2 + 1) S13)))
def f_X4_spread_2 (G : Gm) (v0 : Nat) (v1 : Int32) (Q : St → Prop) (v2 : Int32) (S : St) : Prop := ∃ n, f_X4_spread_2_n G v0 v1 Q n v2 S
def f_X4_spread (G : Gm) (v0 : Nat) (v1 : Int32) (Q : St → Prop) (S : St) : Prop :=
  f_X4_spread_2 G v0 v1 Q 0 S
def f_X4_lensOnTheWay_31 (G : Gm) (v0 : Nat) (v3 : Int32) (Q : Int32 → St → Prop) (S : St) : Prop :=
  f_X10_isNumber G v3 (fun r2 S1 => (if r2 = 0 then Q (-1) S1 else (∃ a4, S1.2.2 v0 3 = some a4 ∧ (vp_in v3 (G.2.1 a4) ∧ Q (S1.1 a4 v3.toNatClampNeg) S1)))) S
def f_X4_lensOnTheWay_5_n (G : Gm) (v0 : Nat) (v2 : Int32) (Q : Int32 → St → Prop) : Nat → Int32 → Int32 → St → Prop
  | 0, _, _, _ => False
  | n + 1, v3, v4, S => (if v2 ≤ v4 then f_X4_lensOnTheWay_31 G v0 v3 Q S else f_X10_isNumber G v3 (fun r3 S2 => (if r3 = 0 then f_X4_lensOnTheWay_31 G v0 v3 Q S2 else (∃ a5, S2.2.2 v0 2 = some a5 ∧ (vp_in v3 (G.2.1 a5) ∧ (∀ x7 : Int32, x7 = S2.1 a5 v3.toNatClampNeg → (f_X4_lensOnTheWay_5_n G v0 v2 Q n) x7 (v4 + 1) S2))))) S)
def f_X4_lensOnTheWay_5 (G : Gm) (v0 : Nat) (v2 : Int32) (Q : Int32 → St → Prop) (v3 : Int32) (v4 : Int32) (S : St) : Prop := ∃ n, f_X4_lensOnTheWay_5_n G v0 v2 Q n v3 v4 S
def f_X4_lensOnTheWay (G : Gm) (v0 : Nat) (v1 : Int32) (v2 : Int32) (Q : Int32 → St → Prop) (S : St) : Prop :=
  f_X4_lensOnTheWay_5 G v0 v2 Q v1 0 S
def f_X4_cureOf_40 (G : Gm) (v0 : Nat) (v3 : Int32) (v4 : Int32) (u0 : Int32) (Q : Int32 → St → Prop) (S : St) : Prop :=
  (if u0 = (-1) then Q u0 S else (if v3 = (-1) then Q u0 S else (if u0 ≤ v3 then Q (-1) S else f_X4_lensOnTheWay G v0 v4 ((u0 - 1) - v3) (fun r5 S4 => Q r5 S4) S)))
def f_X4_cureOf_39 (G : Gm) (v0 : Nat) (v3 : Int32) (v4 : Int32) (Q : Int32 → St → Prop) (S : St) : Prop :=
  f_X4_cureOf_40 G v0 v3 v4 (-1) Q S
def f_X4_cureOf (G : Gm) (v0 : Nat) (v1 : Nat) (v2 : Int32) (v3 : Int32) (Q : Int32 → St → Prop) (S : St) : Prop :=
  f_X5_termOf G v1 3 (fun r2 S1 => f_X5_sightOf G v1 v2 (fun r4 S3 => f_X4_spread G v0 r4 (fun S5 => (if r2 < 0 then f_X4_cureOf_39 G v0 v3 r2 Q S5 else (if 256 ≤ r2 then f_X4_cureOf_39 G v0 v3 r2 Q S5 else (∃ a8, S5.2.2 v0 4 = some a8 ∧ (vp_in r2 (G.2.1 a8) ∧ f_X4_cureOf_40 G v0 v3 r2 (S5.1 a8 r2.toNatClampNeg) Q S5))))) S3) S1) S
