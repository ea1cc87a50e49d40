def f_X11_orders_150_n (G : Gm) (k140 : Int32 → St → Prop) (v0 : Nat) (v1 : Int32) (v2 : Int32) (Q : Int32 → St → Prop) : Nat → Int32 → St → Prop
  | 0, _, _ => False
  | n + 1, v3, S => (∃ a1, S.2.2 v0 52 = some a1 ∧ (vp_in ((8 * v2) + 7) (G.2.1 a1) ∧ (if (S.1 a1 ((8 * v2) + 7).toNatClampNeg) ≤ v3 then k140 (v2 + 1) S else f_X11_run G v0 (8 * v2) (fun r5 S4 => (if 0 ≤ r5 then (f_X11_orders_150_n G k140 v0 v1 v2 Q n) (v3 + 1) S4 else f_X11_giveBack G v0 v1 (fun S7 => (∀ S8, S8 = uI S7 v0 55 v2 → f_X11_tell G v0 (-3) (fun r10 S9 => Q r10 S9) S8)) S4)) S)))
def f_X11_orders_150 (G : Gm) (k140 : Int32 → St → Prop) (v0 : Nat) (v1 : Int32) (v2 : Int32) (Q : Int32 → St → Prop) (v3 : Int32) (S : St) : Prop := ∃ n, f_X11_orders_150_n G k140 v0 v1 v2 Q n v3 S
def f_X11_orders_140_n (G : Gm) (v0 : Nat) (v1 : Int32) (Q : Int32 → St → Prop) : Nat → Int32 → St → Prop
  | 0, _, _ => False
  | n + 1, v2, S => (if (S.1 v0 22) ≤ v2 then f_X11_tell G v0 (S.1 v0 53) (fun r3 S2 => Q r3 S2) S else f_X11_orders_150 G (f_X11_orders_140_n G v0 v1 Q n) v0 v1 v2 Q 0 S)
def f_X11_orders_140 (G : Gm) (v0 : Nat) (v1 : Int32) (Q : Int32 → St → Prop) (v2 : Int32) (S : St) : Prop := ∃ n, f_X11_orders_140_n G v0 v1 Q n v2 S
def f_X11_orders_104_n (G : Gm) (v0 : Nat) (v1 : Int32) (Q : Int32 → St → Prop) : Nat → Int32 → St → Prop
  | 0, _, _ => False
  | n + 1, v2, S => (if 16 ≤ v2 then (∀ S2, S2 = uI S v0 53 0 → (∀ S3, S3 = uI S2 v0 54 (-1) → f_X11_orders_140 G v0 v1 Q 0 S3)) else (∃ a4, S.2.2 v0 11 = some a4 ∧ (∃ a5, S.2.2 v0 8 = some a5 ∧ (vp_in v2 (G.2.1 a5) ∧ (vp_in v2 (G.2.1 a4) ∧ ∀ S8, S8 = uI S a4 v2.toNatClampNeg (S.1 a5 v2.toNatClampNeg) → (f_X11_orders_104_n G v0 v1 Q n) (v2 + 1) S8)))))
def f_X11_orders_104 (G : Gm) (v0 : Nat) (v1 : Int32) (Q : Int32 → St → Prop) (v2 : Int32) (S : St) : Prop := ∃ n, f_X11_orders_104_n G v0 v1 Q n v2 S
def f_X11_orders_77_n (G : Gm) (v0 : Nat) (v1 : Int32) (Q : Int32 → St → Prop) : Nat → Int32 → St → Prop
  | 0, _, _ => False
  | n + 1, v2, S => (if 928 ≤ v2 then f_X11_orders_104 G v0 v1 Q 0 S else (∃ a2, S.2.2 v0 10 = some a2 ∧ (∃ a3, S.2.2 v0 7 = some a3 ∧ (vp_in v2 (G.2.1 a3) ∧ (vp_in v2 (G.2.1 a2) ∧ ∀ S6, S6 = uI S a2 v2.toNatClampNeg (S.1 a3 v2.toNatClampNeg) → (f_X11_orders_77_n G v0 v1 Q n) (v2 + 1) S6)))))
def f_X11_orders_77 (G : Gm) (v0 : Nat) (v1 : Int32) (Q : Int32 → St → Prop) (v2 : Int32) (S : St) : Prop := ∃ n, f_X11_orders_77_n G v0 v1 Q n v2 S
def f_X11_orders_46 (G : Gm) (v0 : Nat) (Q : Int32 → St → Prop) (S : St) : Prop :=
  f_X11_endText G v0 (fun S1 => (if (S1.1 v0 20) = 0 then f_X11_keepAll G v0 17 (fun S3 => (∀ x4 : Int32, x4 = S3.1 v0 9 → f_X11_orders_77 G v0 x4 Q 0 S3)) S1 else f_X11_tell G v0 (-6) (fun r6 S5 => Q r6 S5) S1)) S
def f_X11_orders_19_n (G : Gm) (v0 : Nat) (Q : Int32 → St → Prop) : Nat → St → Prop
  | 0, _ => False
  | n + 1, S => (if (S.1 v0 20) = 0 then f_X11_isSign G v0 59 (fun r3 S2 => (if r3 = 0 then f_X11_orders_46 G v0 Q S2 else f_X11_next G v0 (fun S5 => f_X11_readOrder G v0 (fun S6 => (f_X11_orders_19_n G v0 Q n)  S6) S5) S2)) S else f_X11_orders_46 G v0 Q S)
def f_X11_orders_19 (G : Gm) (v0 : Nat) (Q : Int32 → St → Prop) (S : St) : Prop := ∃ n, f_X11_orders_19_n G v0 Q n S
def f_X11_orders (G : Gm) (v0 : Nat) (Q : Int32 → St → Prop) (S : St) : Prop :=
  (∀ S1, S1 = uI S v0 0 0 → (∀ S2, S2 = uI S1 v0 55 (-1) → f_X11_beginText G v0 1 (fun S3 => f_X11_readOrder G v0 (fun S4 => f_X11_orders_19 G v0 Q S4) S3) S2))
def f_X11_pass (G : Gm) (v0 : Nat) (Q : Int32 → St → Prop) (S : St) : Prop :=
  (∀ S1, S1 = uI S v0 0 0 → f_X11_passNow G v0 (fun r3 S2 => f_X11_tell G v0 r3 (fun r5 S4 => Q r5 S4) S2) S1)
def f_X11_person (G : Gm) (v0 : Nat) (Q : Int32 → St → Prop) (S : St) : Prop :=
  (∀ S1, S1 = uI S v0 0 0 → f_X11_come1 G v0 0 0 0 0 (fun r3 S2 => f_X11_settled G v0 r3 (fun r5 S4 => Q r5 S4) S2) S1)
def f_X11_row_90 (G : Gm) (k35 : Int32 → Int32 → St → Prop) (v0 : Nat) (v1 : Int32) (v2 : Int32) (v3 : Int32) (Q : Int32 → St → Prop) (S : St) : Prop :=
  (∀ S1, S1 = uI S v0 12 ((S.1 v0 12) + 1) → k35 v2 (v3 + 4) S1)
def f_X11_row_35_n (G : Gm) (v0 : Nat) (v1 : Int32) (Q : Int32 → St → Prop) : Nat → Int32 → Int32 → St → Prop
  | 0, _, _, _ => False
  | n + 1, v2, v3, S => (if v1 ≤ v3 then f_X11_settled G v0 v2 (fun r3 S2 => Q r3 S2) S else (if v1 ≤ (v3 + 3) then f_X11_row_90 G (f_X11_row_35_n G v0 v1 Q n) v0 v1 v2 v3 Q S else (∃ a5, S.2.2 v0 13 = some a5 ∧ (vp_in v3 (G.2.1 a5) ∧ (∃ a7, S.2.2 v0 13 = some a7 ∧ (vp_in (v3 + 1) (G.2.1 a7) ∧ (∃ a9, S.2.2 v0 13 = some a9 ∧ (vp_in (v3 + 2) (G.2.1 a9) ∧ (∃ a11, S.2.2 v0 13 = some a11 ∧ (vp_in (v3 + 3) (G.2.1 a11) ∧ f_X11_come1 G v0 (S.1 a5 v3.toNatClampNeg) (S.1 a7 (v3 + 1).toNatClampNeg) (S.1 a9 (v3 + 2).toNatClampNeg) (S.1 a11 (v3 + 3).toNatClampNeg) (fun r14 S13 => (if r14 < 0 then f_X11_row_90 G (f_X11_row_35_n G v0 v1 Q n) v0 v1 v2 v3 Q S13 else (f_X11_row_35_n G v0 v1 Q n) (v2 + 1) (v3 + 4) S13)) S))))))))))
def f_X11_row_35 (G : Gm) (v0 : Nat) (v1 : Int32) (Q : Int32 → St → Prop) (v2 : Int32) (v3 : Int32) (S : St) : Prop := ∃ n, f_X11_row_35_n G v0 v1 Q n v2 v3 S
def f_X11_row (G : Gm) (v0 : Nat) (Q : Int32 → St → Prop) (S : St) : Prop :=
  (∀ S1, S1 = uI S v0 0 0 → (∀ x2 : Int32, x2 = S1.1 v0 14 → (∀ S3, S3 = uI S1 v0 14 0 → (if x2 = 0 then f_X11_tell G v0 (-6) (fun r7 S6 => Q r7 S6) S3 else (∀ S5, S5 = uI S3 v0 12 0 → f_X11_row_35 G v0 x2 Q 0 0 S5)))))
def f_X11_saw (G : Gm) (v0 : Nat) (v1 : Int32) (v2 : Int32) (Q : Int32 → St → Prop) (S : St) : Prop :=
  (∀ S1, S1 = uI S v0 0 0 → f_X11_isSight G v2 (fun r3 S2 => (if r3 = 0 then f_X11_tell G v0 (-1) (fun r29 S28 => Q r29 S28) S2 else f_X11_isPerson G v0 v1 (fun r6 S5 => (if r6 = 0 then f_X11_tell G v0 (-2) (fun r27 S26 => Q r27 S26) S5 else (∃ a8, S5.2.2 v0 4 = some a8 ∧ (vp_in 1 (G.2.1 a8) ∧ (∀ x10 : Int32, x10 = S5.1 a8 (1 : Int32).toNatClampNeg → (if x10 = 8 then f_X11_tell G v0 (-5) (fun r25 S24 => Q r25 S24) S5 else (∃ a12, S5.2.2 v0 4 = some a12 ∧ (vp_in (68 + (2 * x10)) (G.2.1 a12) ∧ ∀ S14, S14 = uI S5 a12 (68 + (2 * x10)).toNatClampNeg v1 → (∃ a15, S14.2.2 v0 4 = some a15 ∧ (vp_in ((68 + (2 * x10)) + 1) (G.2.1 a15) ∧ ∀ S17, S17 = uI S14 a15 ((68 + (2 * x10)) + 1).toNatClampNeg v2 → (∃ a18, S17.2.2 v0 4 = some a18 ∧ (vp_in 1 (G.2.1 a18) ∧ (vp_in 1 (G.2.1 a18) ∧ ∀ S21, S21 = uI S17 a18 (1 : Int32).toNatClampNeg ((S17.1 a18 (1 : Int32).toNatClampNeg) + 1) → f_X11_tell G v0 (x10 + 1) (fun r23 S22 => Q r23 S22) S21))))))))))))) S2)) S1)
def f_X11_scenes_12_n (G : Gm) (v0 : Nat) (v1 : Int32) (Q : Int32 → St → Prop) : Nat → Int32 → Int32 → Int32 → St → Prop
  | 0, _, _, _, _ => False
  | n + 1, v2, v3, v4, S => (if 256 ≤ v4 then (if v1 = (-1) then Q v2 S else Q v3 S) else f_X11_allSee G v0 v4 (fun r4 S3 => (if r4 = 0 then (f_X11_scenes_12_n G v0 v1 Q n) v2 v3 (v4 + 1) S3 else (if v2 = v1 then (f_X11_scenes_12_n G v0 v1 Q n) (v2 + 1) v4 (v4 + 1) S3 else (f_X11_scenes_12_n G v0 v1 Q n) (v2 + 1) v3 (v4 + 1) S3))) S)
def f_X11_scenes_12 (G : Gm) (v0 : Nat) (v1 : Int32) (Q : Int32 → St → Prop) (v2 : Int32) (v3 : Int32) (v4 : Int32) (S : St) : Prop := ∃ n, f_X11_scenes_12_n G v0 v1 Q n v2 v3 v4 S
def f_X11_scenes (G : Gm) (v0 : Nat) (v1 : Int32) (Q : Int32 → St → Prop) (S : St) : Prop :=
  (∀ S1, S1 = uI S v0 0 0 → f_X11_scenes_12 G v0 v1 Q 0 (-1) 0 S1)
def f_X11_sin (G : Gm) (v0 : Nat) (v1 : Int32) (v2 : Int32) (v3 : Int32) (Q : Int32 → St → Prop) (S : St) : Prop :=
  (∀ S1, S1 = uI S v0 0 0 → f_X11_sinNow G v0 v1 v2 v3 (fun r3 S2 => f_X11_tell G v0 r3 (fun r5 S4 => Q r5 S4) S2) S1)
def f_X11_smears (G : Gm) (v0 : Nat) (Q : Int32 → St → Prop) (S : St) : Prop :=
  (∀ S1, S1 = uI S v0 0 0 → Q (S1.1 v0 12) S1)
def f_X11_status (G : Gm) (v0 : Nat) (Q : Int32 → St → Prop) (S : St) : Prop :=
  (∀ S1, S1 = uI S v0 0 0 → Q (S1.1 v0 1) S1)
def f_X11_stopped (G : Gm) (v0 : Nat) (Q : Int32 → St → Prop) (S : St) : Prop :=
  (∀ S1, S1 = uI S v0 0 0 → Q (S1.1 v0 55) S1)
def f_X11_swap (G : Gm) (v0 : Nat) (v1 : Int32) (v2 : Int32) (Q : Int32 → St → Prop) (S : St) : Prop :=
  (∀ S1, S1 = uI S v0 0 0 → f_X11_swapNow G v0 v1 v2 (fun r3 S2 => f_X11_tell G v0 r3 (fun r5 S4 => Q r5 S4) S2) S1)
def f_X11_terms (G : Gm) (v0 : Nat) (v1 : Int32) (v2 : Int32) (Q : Int32 → St → Prop) (S : St) : Prop :=
  (∀ S1, S1 = uI S v0 0 0 → f_X11_isTerm G v1 v2 (fun r3 S2 => (if r3 = 0 then f_X11_tell G v0 (-1) (fun r9 S8 => Q r9 S8) S2 else (∀ S5, S5 = uI S2 v0 9 0 → f_X11_change G v0 (4 + v1) v2 (fun r7 S6 => Q r7 S6) S5))) S1)
def f_X11_undo (G : Gm) (v0 : Nat) (Q : Int32 → St → Prop) (S : St) : Prop :=
  (∀ S1, S1 = uI S v0 0 0 → (if (S1.1 v0 9) = 0 then f_X11_tell G v0 (-3) (fun r10 S9 => Q r10 S9) S1 else (∀ S3, S3 = uI S1 v0 9 ((S1.1 v0 9) - 1) → f_X11_putBack G v0 (S3.1 v0 9) (fun S4 => (∃ a5, S4.2.2 v0 8 = some a5 ∧ (vp_in (S4.1 v0 9) (G.2.1 a5) ∧ f_X11_tell G v0 (S4.1 a5 (S4.1 v0 9).toNatClampNeg) (fun r8 S7 => Q r8 S7) S4))) S3)))
def f_X11_wanted (G : Gm) (v0 : Nat) (v1 : Int32) (v2 : Int32) (Q : Int32 → St → Prop) (S : St) : Prop :=
  (∀ S1, S1 = uI S v0 0 0 → f_X11_in G v2.toInt64 0 3 (fun r3 S2 => (if r3 = 0 then f_X11_tell G v0 (-1) (fun r13 S12 => Q r13 S12) S2 else f_X11_isPerson G v0 v1 (fun r6 S5 => (if r6 = 0 then f_X11_tell G v0 (-2) (fun r9 S8 => Q r9 S8) S5 else f_X11_change G v0 (62 + v1) v2 (fun r11 S10 => Q r11 S10) S5)) S2)) S1)
def f_X11_weaker_85_n (G : Gm) (k74 : Int32 → St → Prop) (v0 : Nat) (v1 : Int32) (v2 : Int32) (v3 : Int32) (v4 : Int32) (Q : Int64 → St → Prop) : Nat → Int32 → St → Prop
  | 0, _, _ => False
  | n + 1, v5, S => (if v5 < 0 then k74 (v4 + 1) S else (∃ a2, S.2.2 v0 50 = some a2 ∧ (vp_in v5 (G.2.1 a2) ∧ (∀ x4 : Int64, x4 = S.2.1 a2 v5.toNatClampNeg → (∃ a5, S.2.2 v0 50 = some a5 ∧ (vp_in v5 (G.2.1 a5) ∧ ∀ S7, S7 = uJ S a5 v5.toNatClampNeg ((x4 * ((10 - v3).toInt64)) / 10) → (∃ a8, S7.2.2 v0 50 = some a8 ∧ (vp_in (v5 + 1) (G.2.1 a8) ∧ (vp_in (v5 + 1) (G.2.1 a8) ∧ ∀ S11, S11 = uJ S7 a8 (v5 + 1).toNatClampNeg ((S7.2.1 a8 (v5 + 1).toNatClampNeg) + ((x4 * v3.toInt64) / 10)) → (f_X11_weaker_85_n G k74 v0 v1 v2 v3 v4 Q n) (v5 + (-1)) S11)))))))))
def f_X11_weaker_85 (G : Gm) (k74 : Int32 → St → Prop) (v0 : Nat) (v1 : Int32) (v2 : Int32) (v3 : Int32) (v4 : Int32) (Q : Int64 → St → Prop) (v5 : Int32) (S : St) : Prop := ∃ n, f_X11_weaker_85_n G k74 v0 v1 v2 v3 v4 Q n v5 S
def f_X11_weaker_74_n (G : Gm) (v0 : Nat) (v1 : Int32) (v2 : Int32) (v3 : Int32) (Q : Int64 → St → Prop) : Nat → Int32 → St → Prop
  | 0, _, _ => False
  | n + 1, v4, S => (if v2 ≤ v4 then (∃ a2, S.2.2 v0 50 = some a2 ∧ (vp_in v1 (G.2.1 a2) ∧ Q (S.2.1 a2 v1.toNatClampNeg) S)) else (∀ x4 : Int32, x4 = v1 - 1 → f_X11_weaker_85 G (f_X11_weaker_74_n G v0 v1 v2 v3 Q n) v0 v1 v2 v3 v4 Q x4 S))
def f_X11_weaker_74 (G : Gm) (v0 : Nat) (v1 : Int32) (v2 : Int32) (v3 : Int32) (Q : Int64 → St → Prop) (v4 : Int32) (S : St) : Prop := ∃ n, f_X11_weaker_74_n G v0 v1 v2 v3 Q n v4 S
def f_X11_weaker_57 (G : Gm) (k35 : Int32 → St → Prop) (v0 : Nat) (v1 : Int32) (v2 : Int32) (v3 : Int32) (u0 : Int64) (u1 : Int32) (u2 : Nat) (Q : Int64 → St → Prop) (S : St) : Prop :=
  (vp_in u1 (G.2.1 u2) ∧ ∀ S2, S2 = uJ S u2 u1.toNatClampNeg u0 → k35 (v3 + 1) S2)
def f_X11_weaker_35_n (G : Gm) (v0 : Nat) (v1 : Int32) (v2 : Int32) (Q : Int64 → St → Prop) : Nat → Int32 → St → Prop
  | 0, _, _ => False
  | n + 1, v3, S => (if 21 ≤ v3 then (∃ a2, S.2.2 v0 4 = some a2 ∧ (vp_in 5 (G.2.1 a2) ∧ (∀ x4 : Int32, x4 = S.1 a2 (5 : Int32).toNatClampNeg → f_X11_weaker_74 G v0 v1 v2 x4 Q 0 S))) else (∃ a5, S.2.2 v0 50 = some a5 ∧ (if v3 = 0 then f_X11_weaker_57 G (f_X11_weaker_35_n G v0 v1 v2 Q n) v0 v1 v2 v3 1000000000000 v3 a5 Q S else f_X11_weaker_57 G (f_X11_weaker_35_n G v0 v1 v2 Q n) v0 v1 v2 v3 0 v3 a5 Q S)))
def f_X11_weaker_35 (G : Gm) (v0 : Nat) (v1 : Int32) (v2 : Int32) (Q : Int64 → St → Prop) (v3 : Int32) (S : St) : Prop := ∃ n, f_X11_weaker_35_n G v0 v1 v2 Q n v3 S
def f_X11_weaker_29 (G : Gm) (Q : Int64 → St → Prop) (S : St) : Prop :=
  Q (-1) S
def f_X11_weaker (G : Gm) (v0 : Nat) (v1 : Int32) (v2 : Int32) (Q : Int64 → St → Prop) (S : St) : Prop :=
  (∀ S1, S1 = uI S v0 0 0 → f_X11_in G v1.toInt64 0 20 (fun r3 S2 => (if r3 = 0 then f_X11_weaker_29 G Q S2 else f_X11_in G v2.toInt64 0 60 (fun r6 S5 => (if r6 = 0 then f_X11_weaker_29 G Q S5 else f_X11_weaker_35 G v0 v1 v2 Q 0 S5)) S2)) S1)
