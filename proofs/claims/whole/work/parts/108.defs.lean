def f_X8_repeatsOf (G : Gm) (v0 : Nat) (v1 : Int32) (Q : Int32 → St → Prop) (S : St) : Prop :=
  (if v1 < 0 then Q 0 S else (∃ a2, S.2.2 v0 1 = some a2 ∧ (if (nI (G.2.1 a2)) ≤ v1 then Q 0 S else (∃ a4, S.2.2 v0 1 = some a4 ∧ (vp_in v1 (G.2.1 a4) ∧ Q (S.1 a4 v1.toNatClampNeg) S)))))
def f_X10_orders_58_n (G : Gm) (k48 : Int32 → St → Prop) (v0 : Nat) (v1 : Nat) (v2 : Int32) (Q : Int32 → St → Prop) : Nat → Int32 → St → Prop
  | 0, _, _ => False
  | n + 1, v3, S => f_X8_repeatsOf G v1 v2 (fun r2 S1 => (if r2 ≤ v3 then k48 (v2 + 1) S1 else (∃ a4, S1.2.2 v0 6 = some a4 ∧ (∃ a5, S1.2.2 v0 0 = some a5 ∧ (∃ a6, S1.2.2 v0 3 = some a6 ∧ f_X0_runOnce G a4 v1 v2 a5 a6 (fun r8 S7 => (if r8 = 0 then (∃ a10, S7.2.2 v0 6 = some a10 ∧ (∃ a11, S7.2.2 v0 0 = some a11 ∧ (∃ a12, S7.2.2 v0 3 = some a12 ∧ f_X0_takeBack G a10 a11 a12 (fun S13 => (∀ S14, S14 = uI S13 v0 12 v2 → f_X10_refuse G v0 (-3) (fun r16 S15 => Q r16 S15) S14)) S7))) else (f_X10_orders_58_n G k48 v0 v1 v2 Q n) (v3 + 1) S7)) S1))))) S
def f_X10_orders_58 (G : Gm) (k48 : Int32 → St → Prop) (v0 : Nat) (v1 : Nat) (v2 : Int32) (Q : Int32 → St → Prop) (v3 : Int32) (S : St) : Prop := ∃ n, f_X10_orders_58_n G k48 v0 v1 v2 Q n v3 S
def f_X10_orders_48_n (G : Gm) (v0 : Nat) (v1 : Nat) (Q : Int32 → St → Prop) : Nat → Int32 → St → Prop
  | 0, _, _ => False
  | n + 1, v2, S => (if (S.1 v1 5) ≤ v2 then (∃ a2, S.2.2 v0 6 = some a2 ∧ f_X10_accept G v0 (S.1 a2 6) (fun r4 S3 => Q r4 S3) S) else f_X10_orders_58 G (f_X10_orders_48_n G v0 v1 Q n) v0 v1 v2 Q 0 S)
def f_X10_orders_48 (G : Gm) (v0 : Nat) (v1 : Nat) (Q : Int32 → St → Prop) (v2 : Int32) (S : St) : Prop := ∃ n, f_X10_orders_48_n G v0 v1 Q n v2 S
def f_X10_orders (G : Gm) (v0 : Nat) (Q : Int32 → St → Prop) (S : St) : Prop :=
  (∀ S1, S1 = uI S v0 12 (-1) → (∃ a2, S1.2.2 v0 8 = some a2 ∧ f_X6_reads G a2 0 (fun r4 S3 => (if r4 = 0 then f_X10_refuse G v0 (-6) (fun r13 S12 => Q r13 S12) S3 else (∃ a6, S3.2.2 v0 6 = some a6 ∧ (∃ a7, S3.2.2 v0 0 = some a7 ∧ (∃ a8, S3.2.2 v0 3 = some a8 ∧ f_X0_begin G a6 a7 a8 (fun S9 => (∃ a10, S9.2.2 v0 8 = some a10 ∧ (∃ a11, S9.2.2 a10 10 = some a11 ∧ f_X10_orders_48 G v0 a11 Q 0 S9))) S3))))) S1))
def f_X10_pass (G : Gm) (v0 : Nat) (Q : Int32 → St → Prop) (S : St) : Prop :=
  (∃ a1, S.2.2 v0 5 = some a1 ∧ (∃ a2, S.2.2 v0 0 = some a2 ∧ (∃ a3, S.2.2 v0 3 = some a3 ∧ f_X1_act G a1 a2 a3 4 0 0 0 (fun r5 S4 => f_X10_judged G v0 r5 (fun r7 S6 => Q r7 S6) S4) S)))
def f_X10_person (G : Gm) (v0 : Nat) (Q : Int32 → St → Prop) (S : St) : Prop :=
  (∃ a1, S.2.2 v0 0 = some a1 ∧ (if (S.1 a1 0) < 6 then (∃ a3, S.2.2 v0 3 = some a3 ∧ f_X9_empty G a3 (fun S4 => (∃ a5, S4.2.2 v0 0 = some a5 ∧ f_X5_addPerson G a5 (fun r7 S6 => f_X10_accept G v0 r7 (fun r9 S8 => Q r9 S8) S6) S4)) S) else f_X10_refuse G v0 (-5) (fun r11 S10 => Q r11 S10) S))
def f_X6_hasSinsAt_2_n (G : Gm) (v0 : Nat) (v1 : Int32) (Q : Int32 → St → Prop) : Nat → Int32 → St → Prop
  | 0, _, _ => False
  | n + 1, v2, S => (if (v1 + 4) ≤ v2 then Q 1 S else f_X6_byteAt G v0 v2 (fun r3 S2 => (if r3 < 0 then Q 0 S2 else (if r3 ≤ 8 then (f_X6_hasSinsAt_2_n G v0 v1 Q n) (v2 + 1) S2 else Q 0 S2))) S)
def f_X6_hasSinsAt_2 (G : Gm) (v0 : Nat) (v1 : Int32) (Q : Int32 → St → Prop) (v2 : Int32) (S : St) : Prop := ∃ n, f_X6_hasSinsAt_2_n G v0 v1 Q n v2 S
def f_X6_hasSinsAt (G : Gm) (v0 : Nat) (v1 : Int32) (Q : Int32 → St → Prop) (S : St) : Prop :=
  f_X6_hasSinsAt_2 G v0 v1 Q v1 S
def f_X10_row_30_n (G : Gm) (v0 : Nat) (Q : Int32 → St → Prop) : Nat → Int32 → Int32 → Int32 → St → Prop
  | 0, _, _, _, _ => False
  | n + 1, v1, v2, v3, S => (∃ a1, S.2.2 v0 8 = some a1 ∧ (if (S.1 a1 1) ≤ v3 then (∃ a3, S.2.2 v0 8 = some a3 ∧ (∀ S4, S4 = uI S a3 1 0 → (∀ S5, S5 = uI S4 v0 11 v2 → f_X10_accept G v0 v1 (fun r7 S6 => Q r7 S6) S5))) else (∃ a8, S.2.2 v0 8 = some a8 ∧ f_X6_hasSinsAt G a8 v3 (fun r10 S9 => (if r10 = 0 then (f_X10_row_30_n G v0 Q n) v1 (v2 + 1) (v3 + 4) S9 else (∃ a12, S9.2.2 v0 0 = some a12 ∧ (if 6 ≤ (S9.1 a12 0) then (f_X10_row_30_n G v0 Q n) v1 (v2 + 1) (v3 + 4) S9 else f_X10_addSinner G v0 v3 (fun S14 => (f_X10_row_30_n G v0 Q n) (v1 + 1) v2 (v3 + 4) S14) S9)))) S)))
def f_X10_row_30 (G : Gm) (v0 : Nat) (Q : Int32 → St → Prop) (v1 : Int32) (v2 : Int32) (v3 : Int32) (S : St) : Prop := ∃ n, f_X10_row_30_n G v0 Q n v1 v2 v3 S
def f_X10_row (G : Gm) (v0 : Nat) (Q : Int32 → St → Prop) (S : St) : Prop :=
  (∃ a1, S.2.2 v0 8 = some a1 ∧ (if (S.1 a1 1) = 0 then f_X10_refuse G v0 (-6) (fun r6 S5 => Q r6 S5) S else (∃ a3, S.2.2 v0 3 = some a3 ∧ f_X9_empty G a3 (fun S4 => f_X10_row_30 G v0 Q 0 0 0 S4) S)))
def f_X5_addSeen_46 (G : Gm) (v0 : Nat) (Q : Int32 → St → Prop) (S : St) : Prop :=
  Q (S.1 v0 5) S
def f_X5_addSeen (G : Gm) (v0 : Nat) (v1 : Int32) (v2 : Int32) (Q : Int32 → St → Prop) (S : St) : Prop :=
  (if (S.1 v0 5) < 0 then f_X5_addSeen_46 G v0 Q S else (if 8 ≤ (S.1 v0 5) then f_X5_addSeen_46 G v0 Q S else (∃ a3, S.2.2 v0 6 = some a3 ∧ (vp_in (S.1 v0 5) (G.2.1 a3) ∧ ∀ S5, S5 = uI S a3 (S.1 v0 5).toNatClampNeg v1 → (∃ a6, S5.2.2 v0 7 = some a6 ∧ (vp_in (S5.1 v0 5) (G.2.1 a6) ∧ ∀ S8, S8 = uI S5 a6 (S5.1 v0 5).toNatClampNeg v2 → (∀ S9, S9 = uI S8 v0 5 ((S8.1 v0 5) + 1) → f_X5_addSeen_46 G v0 Q S9)))))))
def f_X10_saw (G : Gm) (v0 : Nat) (v1 : Int32) (v2 : Int32) (Q : Int32 → St → Prop) (S : St) : Prop :=
  f_X10_isNumber G v2 (fun r2 S1 => (if r2 = 0 then f_X10_refuse G v0 (-1) (fun r20 S19 => Q r20 S19) S1 else (∃ a4, S1.2.2 v0 0 = some a4 ∧ f_X5_has G a4 v1 (fun r6 S5 => (if r6 = 0 then f_X10_refuse G v0 (-2) (fun r18 S17 => Q r18 S17) S5 else (∃ a8, S5.2.2 v0 0 = some a8 ∧ (if (S5.1 a8 5) < 8 then (∃ a10, S5.2.2 v0 0 = some a10 ∧ f_X5_addSeen G a10 v1 v2 (fun r12 S11 => f_X10_accept G v0 r12 (fun r14 S13 => Q r14 S13) S11) S5) else f_X10_refuse G v0 (-5) (fun r16 S15 => Q r16 S15) S5)))) S1))) S
def f_X4_sceneAt (G : Gm) (v0 : Nat) (v1 : Nat) (v2 : Int32) (Q : Int32 → St → Prop) (S : St) : Prop :=
  f_X4_findScenes G v0 v1 (fun r2 S1 => (if v2 = (-1) then Q r2 S1 else (if r2 ≤ v2 then Q (-1) S1 else (if 256 ≤ v2 then Q (-1) S1 else (∃ a6, S1.2.2 v0 5 = some a6 ∧ (vp_in v2 (G.2.1 a6) ∧ Q (S1.1 a6 v2.toNatClampNeg) S1)))))) S
def f_X10_scenes (G : Gm) (v0 : Nat) (v1 : Int32) (Q : Int32 → St → Prop) (S : St) : Prop :=
  (if v1 < (-1) then Q (-1) S else (∃ a2, S.2.2 v0 7 = some a2 ∧ (∃ a3, S.2.2 v0 0 = some a3 ∧ f_X4_sceneAt G a2 a3 v1 (fun r5 S4 => Q r5 S4) S)))
def f_X10_sin (G : Gm) (v0 : Nat) (v1 : Int32) (v2 : Int32) (v3 : Int32) (Q : Int32 → St → Prop) (S : St) : Prop :=
  (∃ a1, S.2.2 v0 5 = some a1 ∧ (∃ a2, S.2.2 v0 0 = some a2 ∧ (∃ a3, S.2.2 v0 3 = some a3 ∧ f_X1_act G a1 a2 a3 0 v1 v2 v3 (fun r5 S4 => f_X10_judged G v0 r5 (fun r7 S6 => Q r7 S6) S4) S)))
def f_X10_smears (G : Gm) (v0 : Nat) (Q : Int32 → St → Prop) (S : St) : Prop :=
  Q (S.1 v0 11) S
def f_X10_status (G : Gm) (v0 : Nat) (Q : Int32 → St → Prop) (S : St) : Prop :=
  Q (S.1 v0 10) S
def f_X10_stopped (G : Gm) (v0 : Nat) (Q : Int32 → St → Prop) (S : St) : Prop :=
  Q (S.1 v0 12) S
def f_X10_swap (G : Gm) (v0 : Nat) (v1 : Int32) (v2 : Int32) (Q : Int32 → St → Prop) (S : St) : Prop :=
  (∃ a1, S.2.2 v0 5 = some a1 ∧ (∃ a2, S.2.2 v0 0 = some a2 ∧ (∃ a3, S.2.2 v0 3 = some a3 ∧ f_X1_act G a1 a2 a3 2 v1 v2 0 (fun r5 S4 => f_X10_judged G v0 r5 (fun r7 S6 => Q r7 S6) S4) S)))
def f_X10_terms_22 (G : Gm) (v0 : Nat) (Q : Int32 → St → Prop) (S : St) : Prop :=
  f_X10_refuse G v0 (-1) (fun r2 S1 => Q r2 S1) S
def f_X10_terms (G : Gm) (v0 : Nat) (v1 : Int32) (v2 : Int32) (Q : Int32 → St → Prop) (S : St) : Prop :=
  (if v1 < 0 then f_X10_terms_22 G v0 Q S else (if 4 ≤ v1 then f_X10_terms_22 G v0 Q S else (if v2 < 0 then f_X10_terms_22 G v0 Q S else (vp_in v1 4 ∧ (if v2 ≤ (mo v1) then (∃ a6, S.2.2 v0 3 = some a6 ∧ f_X9_empty G a6 (fun S7 => (∃ a8, S7.2.2 v0 0 = some a8 ∧ f_X5_termOf G a8 v1 (fun r10 S9 => (∃ a11, S9.2.2 v0 0 = some a11 ∧ f_X5_setTerm G a11 v1 v2 (fun S12 => f_X10_accept G v0 r10 (fun r14 S13 => Q r14 S13) S12) S9)) S7)) S) else f_X10_terms_22 G v0 Q S)))))
def f_X9_goBack (G : Gm) (v0 : Nat) (v1 : Nat) (Q : Int32 → St → Prop) (S : St) : Prop :=
  f_J9_floorMod_7cf53 G ((S.1 v0 1) - 1) 16 (fun r2 S1 => (∀ S3, S3 = uI S1 v0 1 r2 → (∀ S4, S4 = uI S3 v0 2 (mx ((S3.1 v0 2) - 1) 0) → (∀ x5 : Int32, x5 = (S4.1 v0 1) * 32 → (∃ a6, S4.2.2 v0 0 = some a6 ∧ (∃ a7, S4.2.2 v1 1 = some a7 ∧ (cpOk x5 0 24 (G.2.1 a6) (G.2.1 a7) ∧ ∀ S9, S9 = cpI S4 a6 x5 a7 0 24 → (∃ a10, S9.2.2 v0 0 = some a10 ∧ (∃ a11, S9.2.2 v1 2 = some a11 ∧ (cpOk (x5 + 24) 0 6 (G.2.1 a10) (G.2.1 a11) ∧ ∀ S13, S13 = cpI S9 a10 (x5 + 24) a11 0 6 → (∃ a14, S13.2.2 v0 0 = some a14 ∧ (vp_in (x5 + 30) (G.2.1 a14) ∧ f_X5_setTerm G v1 0 (S13.1 a14 (x5 + 30).toNatClampNeg) (fun S16 => (∃ a17, S16.2.2 v0 0 = some a17 ∧ (vp_in (x5 + 31) (G.2.1 a17) ∧ Q (S16.1 a17 (x5 + 31).toNatClampNeg) S16))) S13)))))))))))) S
def f_X10_undo (G : Gm) (v0 : Nat) (Q : Int32 → St → Prop) (S : St) : Prop :=
  (∃ a1, S.2.2 v0 3 = some a1 ∧ (if (S.1 a1 2) = 0 then f_X10_refuse G v0 (-3) (fun r10 S9 => Q r10 S9) S else (∃ a3, S.2.2 v0 3 = some a3 ∧ (∃ a4, S.2.2 v0 0 = some a4 ∧ f_X9_goBack G a3 a4 (fun r6 S5 => f_X10_accept G v0 r6 (fun r8 S7 => Q r8 S7) S5) S))))
def f_X10_wanted_9 (G : Gm) (v0 : Nat) (Q : Int32 → St → Prop) (S : St) : Prop :=
  f_X10_refuse G v0 (-1) (fun r2 S1 => Q r2 S1) S
def f_X10_wanted (G : Gm) (v0 : Nat) (v1 : Int32) (v2 : Int32) (Q : Int32 → St → Prop) (S : St) : Prop :=
  (if v2 < 0 then f_X10_wanted_9 G v0 Q S else (if v2 ≤ 3 then (∃ a3, S.2.2 v0 0 = some a3 ∧ f_X5_has G a3 v1 (fun r5 S4 => (if r5 = 0 then f_X10_refuse G v0 (-2) (fun r15 S14 => Q r15 S14) S4 else (∃ a7, S4.2.2 v0 0 = some a7 ∧ f_X5_wantedOf G a7 v1 (fun r9 S8 => (∃ a10, S8.2.2 v0 0 = some a10 ∧ f_X5_setWanted G a10 v1 v2 (fun S11 => f_X10_accept G v0 r9 (fun r13 S12 => Q r13 S12) S11) S8)) S4))) S) else f_X10_wanted_9 G v0 Q S))
def f_X4_chance_63_n (G : Gm) (k52 : Int32 → St → Prop) (v0 : Nat) (v1 : Int32) (v2 : Int32) (v3 : Int32) (v4 : Int32) (Q : Int64 → St → Prop) : Nat → Int32 → St → Prop
  | 0, _, _ => False
  | n + 1, v5, S => (if v5 < 0 then k52 (v4 + 1) S else (∃ a2, S.2.2 v0 11 = some a2 ∧ (vp_in (v5 + 1) (G.2.1 a2) ∧ (∃ a4, S.2.2 v0 11 = some a4 ∧ (vp_in v5 (G.2.1 a4) ∧ (vp_in (v5 + 1) (G.2.1 a2) ∧ ∀ S7, S7 = uJ S a2 (v5 + 1).toNatClampNeg ((S.2.1 a2 (v5 + 1).toNatClampNeg) + (((S.2.1 a4 v5.toNatClampNeg) * v1.toInt64) / 10)) → (∃ a8, S7.2.2 v0 11 = some a8 ∧ (∃ a9, S7.2.2 v0 11 = some a9 ∧ (vp_in v5 (G.2.1 a9) ∧ (vp_in v5 (G.2.1 a8) ∧ ∀ S12, S12 = uJ S7 a8 v5.toNatClampNeg (((S7.2.1 a9 v5.toNatClampNeg) * ((10 - v1).toInt64)) / 10) → (f_X4_chance_63_n G k52 v0 v1 v2 v3 v4 Q n) (v5 + (-1)) S12))))))))))
def f_X4_chance_63 (G : Gm) (k52 : Int32 → St → Prop) (v0 : Nat) (v1 : Int32) (v2 : Int32) (v3 : Int32) (v4 : Int32) (Q : Int64 → St → Prop) (v5 : Int32) (S : St) : Prop := ∃ n, f_X4_chance_63_n G k52 v0 v1 v2 v3 v4 Q n v5 S
def f_X4_chance_52_n (G : Gm) (v0 : Nat) (v1 : Int32) (v2 : Int32) (v3 : Int32) (Q : Int64 → St → Prop) : Nat → Int32 → St → Prop
  | 0, _, _ => False
  | n + 1, v4, S => (if v3 ≤ v4 then (∃ a2, S.2.2 v0 11 = some a2 ∧ (vp_in v2 (G.2.1 a2) ∧ Q (S.2.1 a2 v2.toNatClampNeg) S)) else (∀ x4 : Int32, x4 = v2 - 1 → f_X4_chance_63 G (f_X4_chance_52_n G v0 v1 v2 v3 Q n) v0 v1 v2 v3 v4 Q x4 S))
def f_X4_chance_52 (G : Gm) (v0 : Nat) (v1 : Int32) (v2 : Int32) (v3 : Int32) (Q : Int64 → St → Prop) (v4 : Int32) (S : St) : Prop := ∃ n, f_X4_chance_52_n G v0 v1 v2 v3 Q n v4 S
def f_X4_chance_20_n (G : Gm) (v0 : Nat) (v1 : Int32) (v2 : Int32) (v3 : Int32) (Q : Int64 → St → Prop) : Nat → Int32 → St → Prop
  | 0, _, _ => False
  | n + 1, v4, S => (if v2 < v4 then (∃ a2, S.2.2 v0 11 = some a2 ∧ (vp_in 0 (G.2.1 a2) ∧ ∀ S4, S4 = uJ S a2 (0 : Int32).toNatClampNeg 1000000000000 → f_X4_chance_52 G v0 v1 v2 v3 Q 0 S4)) else (∃ a5, S.2.2 v0 11 = some a5 ∧ (vp_in v4 (G.2.1 a5) ∧ ∀ S7, S7 = uJ S a5 v4.toNatClampNeg 0 → (f_X4_chance_20_n G v0 v1 v2 v3 Q n) (v4 + 1) S7)))
def f_X4_chance_20 (G : Gm) (v0 : Nat) (v1 : Int32) (v2 : Int32) (v3 : Int32) (Q : Int64 → St → Prop) (v4 : Int32) (S : St) : Prop := ∃ n, f_X4_chance_20_n G v0 v1 v2 v3 Q n v4 S
def f_X4_chance_13 (G : Gm) (Q : Int64 → St → Prop) (S : St) : Prop :=
  Q (-1) S
def f_X4_chance (G : Gm) (v0 : Nat) (v1 : Int32) (v2 : Int32) (v3 : Int32) (Q : Int64 → St → Prop) (S : St) : Prop :=
  (if v2 < 0 then f_X4_chance_13 G Q S else (∃ a2, S.2.2 v0 11 = some a2 ∧ (if v2 < (nI (G.2.1 a2)) then f_X4_chance_20 G v0 v1 v2 v3 Q 0 S else f_X4_chance_13 G Q S)))
def f_X10_weaker_20 (G : Gm) (Q : Int64 → St → Prop) (S : St) : Prop :=
  Q (-1) S
def f_X10_weaker (G : Gm) (v0 : Nat) (v1 : Int32) (v2 : Int32) (Q : Int64 → St → Prop) (S : St) : Prop :=
  (if v1 < 0 then f_X10_weaker_20 G Q S else (if 20 < v1 then f_X10_weaker_20 G Q S else (if v2 < 0 then f_X10_weaker_20 G Q S else (if v2 ≤ 60 then (∃ a5, S.2.2 v0 7 = some a5 ∧ (∃ a6, S.2.2 v0 0 = some a6 ∧ f_X5_termOf G a6 1 (fun r8 S7 => f_X4_chance G a5 r8 v1 v2 (fun r10 S9 => Q r10 S9) S7) S)) else f_X10_weaker_20 G Q S))))
def f_X11_in (G : Gm) (v0 : Int64) (v2 : Int64) (v4 : Int64) (Q : Int32 → St → Prop) (S : St) : Prop :=
  (if (lg_cmp v0 v2) < 0 then Q 0 S else (if 0 < (lg_cmp v0 v4) then Q 0 S else Q 1 S))
def f_X11_isKind (G : Gm) (v0 : Int32) (Q : Int32 → St → Prop) (S : St) : Prop :=
  f_X11_in G v0.toInt64 0 3 (fun r2 S1 => ((r2 = 0 ∨ r2 = 1) ∧ Q r2 S1)) S
def f_X11_isPerson (G : Gm) (v0 : Nat) (v1 : Int32) (Q : Int32 → St → Prop) (S : St) : Prop :=
  (∃ a1, S.2.2 v0 4 = some a1 ∧ (vp_in 0 (G.2.1 a1) ∧ f_X11_in G v1.toInt64 0 (((S.1 a1 (0 : Int32).toNatClampNeg).toInt64) - 1) (fun r4 S3 => ((r4 = 0 ∨ r4 = 1) ∧ Q r4 S3)) S))
def f_X11_keepAll_2_n (G : Gm) (v0 : Nat) (v1 : Int32) (Q : St → Prop) : Nat → Int32 → St → Prop
  | 0, _, _ => False
  | n + 1, v2, S => (if 58 ≤ v2 then Q S else (∃ a2, S.2.2 v0 7 = some a2 ∧ (∃ a3, S.2.2 v0 4 = some a3 ∧ (vp_in (4 + v2) (G.2.1 a3) ∧ (vp_in ((58 * v1) + v2) (G.2.1 a2) ∧ ∀ S6, S6 = uI S a2 ((58 * v1) + v2).toNatClampNeg (S.1 a3 (4 + v2).toNatClampNeg) → (f_X11_keepAll_2_n G v0 v1 Q n) (v2 + 1) S6)))))
def f_X11_keepAll_2 (G : Gm) (v0 : Nat) (v1 : Int32) (Q : St → Prop) (v2 : Int32) (S : St) : Prop := ∃ n, f_X11_keepAll_2_n G v0 v1 Q n v2 S
def f_X11_keepAll (G : Gm) (v0 : Nat) (v1 : Int32) (Q : St → Prop) (S : St) : Prop :=
  f_X11_keepAll_2 G v0 v1 Q 0 S
