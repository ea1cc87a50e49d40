def f_X11_allSins_4_n (G : Gm) (v0 : Nat) (Q : Int32 → St → Prop) : Nat → Int32 → Int32 → St → Prop
  | 0, _, _, _ => False
  | n + 1, v1, v2, S => (∃ a1, S.2.2 v0 4 = some a1 ∧ (vp_in 0 (G.2.1 a1) ∧ (if (S.1 a1 (0 : Int32).toNatClampNeg) ≤ v2 then Q v1 S else f_X11_sinsOf G v0 v2 (fun r5 S4 => (∀ x6 : Int32, x6 = v1 + r5 → (f_X11_allSins_4_n G v0 Q n) x6 (v2 + 1) S4)) S)))
def f_X11_allSins_4 (G : Gm) (v0 : Nat) (Q : Int32 → St → Prop) (v1 : Int32) (v2 : Int32) (S : St) : Prop := ∃ n, f_X11_allSins_4_n G v0 Q n v1 v2 S
def f_X11_allSins (G : Gm) (v0 : Nat) (Q : Int32 → St → Prop) (S : St) : Prop :=
  f_X11_allSins_4 G v0 Q 0 0 S
def f_X11_mostAlike_26_n (G : Gm) (v0 : Nat) (v1 : Int32) (Q : Int32 → St → Prop) : Nat → Int32 → Int32 → St → Prop
  | 0, _, _, _ => False
  | n + 1, v2, v3, S => (if 256 ≤ v3 then Q v2 S else f_X11_allSee G v0 v3 (fun r3 S2 => (if r3 = 0 then (f_X11_mostAlike_26_n G v0 v1 Q n) v2 (v3 + 1) S2 else f_X11_through G v0 v1 v3 (fun r6 S5 => (∃ a7, S5.2.2 v0 46 = some a7 ∧ (vp_in r6 (G.2.1 a7) ∧ (vp_in r6 (G.2.1 a7) ∧ ∀ S10, S10 = uI S5 a7 r6.toNatClampNeg ((S5.1 a7 r6.toNatClampNeg) + 1) → (∃ a11, S10.2.2 v0 46 = some a11 ∧ (vp_in r6 (G.2.1 a11) ∧ (if (S10.1 a11 r6.toNatClampNeg) ≤ v2 then (f_X11_mostAlike_26_n G v0 v1 Q n) v2 (v3 + 1) S10 else (∃ a14, S10.2.2 v0 46 = some a14 ∧ (vp_in r6 (G.2.1 a14) ∧ (∀ x16 : Int32, x16 = S10.1 a14 r6.toNatClampNeg → (f_X11_mostAlike_26_n G v0 v1 Q n) x16 (v3 + 1) S10)))))))))) S2)) S)
def f_X11_mostAlike_26 (G : Gm) (v0 : Nat) (v1 : Int32) (Q : Int32 → St → Prop) (v2 : Int32) (v3 : Int32) (S : St) : Prop := ∃ n, f_X11_mostAlike_26_n G v0 v1 Q n v2 v3 S
def f_X11_mostAlike_2_n (G : Gm) (v0 : Nat) (v1 : Int32) (Q : Int32 → St → Prop) : Nat → Int32 → St → Prop
  | 0, _, _ => False
  | n + 1, v2, S => (if 256 ≤ v2 then f_X11_mostAlike_26 G v0 v1 Q 0 0 S else (∃ a2, S.2.2 v0 46 = some a2 ∧ (vp_in v2 (G.2.1 a2) ∧ ∀ S4, S4 = uI S a2 v2.toNatClampNeg 0 → (f_X11_mostAlike_2_n G v0 v1 Q n) (v2 + 1) S4)))
def f_X11_mostAlike_2 (G : Gm) (v0 : Nat) (v1 : Int32) (Q : Int32 → St → Prop) (v2 : Int32) (S : St) : Prop := ∃ n, f_X11_mostAlike_2_n G v0 v1 Q n v2 S
def f_X11_mostAlike (G : Gm) (v0 : Nat) (v1 : Int32) (Q : Int32 → St → Prop) (S : St) : Prop :=
  f_X11_mostAlike_2 G v0 v1 Q 0 S
def f_X11_ask_62 (G : Gm) (k26 : Int32 → Int32 → Int32 → St → Prop) (v0 : Nat) (v1 : Int32) (v2 : Int32) (v4 : Int32) (v5 : Int32) (u0 : Int32) (Q : Int32 → St → Prop) (S : St) : Prop :=
  (if v5 ≤ 0 then k26 v2 u0 (v4 + 1) S else (if v2 ≤ v5 then k26 v2 u0 (v4 + 1) S else k26 v5 u0 (v4 + 1) S))
def f_X11_ask_61 (G : Gm) (k26 : Int32 → Int32 → Int32 → St → Prop) (v0 : Nat) (v1 : Int32) (v2 : Int32) (v3 : Int32) (v4 : Int32) (v5 : Int32) (Q : Int32 → St → Prop) (S : St) : Prop :=
  f_X11_ask_62 G k26 v0 v1 v2 v4 v5 v3 Q S
def f_X11_ask_26_n (G : Gm) (v0 : Nat) (v1 : Int32) (Q : Int32 → St → Prop) : Nat → Int32 → Int32 → Int32 → St → Prop
  | 0, _, _, _, _ => False
  | n + 1, v2, v3, v4, S => (∃ a1, S.2.2 v0 4 = some a1 ∧ (vp_in 0 (G.2.1 a1) ∧ (if (S.1 a1 (0 : Int32).toNatClampNeg) ≤ v4 then (if v3 = (-1) then Q v3 S else (if v1 = 0 then Q v3 S else Q v2 S)) else f_X11_mostAlike G v0 v4 (fun r7 S6 => (if r7 ≤ 0 then f_X11_ask_61 G (f_X11_ask_26_n G v0 v1 Q n) v0 v1 v2 v3 v4 r7 Q S6 else (if v2 ≤ r7 then f_X11_ask_61 G (f_X11_ask_26_n G v0 v1 Q n) v0 v1 v2 v3 v4 r7 Q S6 else f_X11_ask_62 G (f_X11_ask_26_n G v0 v1 Q n) v0 v1 v2 v4 r7 v4 Q S6))) S)))
def f_X11_ask_26 (G : Gm) (v0 : Nat) (v1 : Int32) (Q : Int32 → St → Prop) (v2 : Int32) (v3 : Int32) (v4 : Int32) (S : St) : Prop := ∃ n, f_X11_ask_26_n G v0 v1 Q n v2 v3 v4 S
def f_X11_ask (G : Gm) (v0 : Nat) (v1 : Int32) (Q : Int32 → St → Prop) (S : St) : Prop :=
  (∀ S1, S1 = uI S v0 0 0 → f_X11_in G v1.toInt64 0 1 (fun r3 S2 => (if r3 = 0 then Q (-1) S2 else f_X11_ask_26 G v0 v1 Q 100000000 (-1) 0 S2)) S1)
def f_X11_asks (G : Gm) (v0 : Nat) (v1 : Int32) (v2 : Int32) (v3 : Int32) (Q : Int32 → St → Prop) (S : St) : Prop :=
  (∀ S1, S1 = uI S v0 0 0 → f_X11_isPerson G v0 v1 (fun r3 S2 => (if r3 = 0 then Q (-100) S2 else f_X11_isKind G v2 (fun r6 S5 => (if r6 = 0 then Q (-100) S5 else f_X11_in G v3.toInt64 0 1 (fun r9 S8 => (if r9 = 0 then Q (-100) S8 else (if v3 = 0 then f_X11_grindsOf G v0 v1 v2 (fun r15 S14 => Q r15 S14) S8 else f_X11_growsOf G v0 v1 v2 (fun r13 S12 => Q r13 S12) S8))) S5)) S2)) S1)
def f_X11_tell_10 (G : Gm) (v0 : Nat) (v1 : Int32) (u0 : Int32) (u1 : Nat) (Q : Int32 → St → Prop) (S : St) : Prop :=
  (∀ S1, S1 = uI S u1 1 u0 → (if 0 ≤ v1 then Q v1 S1 else (∃ a3, S1.2.2 v0 2 = some a3 ∧ (vp_in (-v1) (G.2.1 a3) ∧ (vp_in (-v1) (G.2.1 a3) ∧ ∀ S6, S6 = uI S1 a3 (-v1).toNatClampNeg ((S1.1 a3 (-v1).toNatClampNeg) + 1) → Q v1 S6)))))
def f_X11_tell (G : Gm) (v0 : Nat) (v1 : Int32) (Q : Int32 → St → Prop) (S : St) : Prop :=
  (if 0 ≤ v1 then f_X11_tell_10 G v0 v1 0 v0 Q S else f_X11_tell_10 G v0 v1 v1 v0 Q S)
def f_X11_settled_13 (G : Gm) (v0 : Nat) (v1 : Int32) (u0 : Int32) (u1 : Nat) (Q : Int32 → St → Prop) (S : St) : Prop :=
  (∀ S1, S1 = uI S u1 9 u0 → f_X11_tell G v0 v1 (fun r3 S2 => Q r3 S2) S1)
def f_X11_settled (G : Gm) (v0 : Nat) (v1 : Int32) (Q : Int32 → St → Prop) (S : St) : Prop :=
  (if 0 ≤ v1 then f_X11_settled_13 G v0 v1 0 v0 Q S else f_X11_settled_13 G v0 v1 (S.1 v0 9) v0 Q S)
def f_X11_back_39_n (G : Gm) (v0 : Nat) (v1 : Int32) (Q : Int32 → St → Prop) : Nat → Int32 → St → Prop
  | 0, _, _ => False
  | n + 1, v2, S => (if 5485 ≤ v2 then f_X11_settled G v0 0 (fun r3 S2 => Q r3 S2) S else (∃ a4, S.2.2 v0 4 = some a4 ∧ (∃ a5, S.2.2 v0 5 = some a5 ∧ (vp_in ((5485 * v1) + v2) (G.2.1 a5) ∧ (vp_in v2 (G.2.1 a4) ∧ ∀ S8, S8 = uI S a4 v2.toNatClampNeg (S.1 a5 ((5485 * v1) + v2).toNatClampNeg) → (f_X11_back_39_n G v0 v1 Q n) (v2 + 1) S8)))))
def f_X11_back_39 (G : Gm) (v0 : Nat) (v1 : Int32) (Q : Int32 → St → Prop) (v2 : Int32) (S : St) : Prop := ∃ n, f_X11_back_39_n G v0 v1 Q n v2 S
def f_X11_back (G : Gm) (v0 : Nat) (v1 : Int32) (Q : Int32 → St → Prop) (S : St) : Prop :=
  (∀ S1, S1 = uI S v0 0 0 → f_X11_in G v1.toInt64 0 1 (fun r3 S2 => (if r3 = 0 then f_X11_tell G v0 (-1) (fun r11 S10 => Q r11 S10) S2 else (∃ a5, S2.2.2 v0 6 = some a5 ∧ (vp_in v1 (G.2.1 a5) ∧ (if (S2.1 a5 v1.toNatClampNeg) = 0 then f_X11_tell G v0 (-2) (fun r9 S8 => Q r9 S8) S2 else f_X11_back_39 G v0 v1 Q 0 S2))))) S1)
def f_X11_isSmall (G : Gm) (v0 : Int32) (Q : Int32 → St → Prop) (S : St) : Prop :=
  (if v0 < 97 then Q 0 S else (if 122 < v0 then Q 0 S else Q 1 S))
def f_X11_isDigit (G : Gm) (v0 : Int32) (Q : Int32 → St → Prop) (S : St) : Prop :=
  (if v0 < 48 then Q 0 S else (if 57 < v0 then Q 0 S else Q 1 S))
def f_X11_next_319 (G : Gm) (k243 : St → Prop) (v0 : Nat) (u0 : Int64) (u1 : Nat) (Q : St → Prop) (S : St) : Prop :=
  (∀ S1, S1 = uJ S u1 18 u0 → (∀ S2, S2 = uI S1 v0 16 ((S1.1 v0 16) + 1) → k243  S2))
def f_X11_next_243_n (G : Gm) (v0 : Nat) (Q : St → Prop) : Nat → St → Prop
  | 0, _ => False
  | n + 1, S => (if (S.1 v0 17) = 2 then (if (S.1 v0 14) ≤ (S.1 v0 16) then Q S else (∃ a3, S.2.2 v0 13 = some a3 ∧ (vp_in (S.1 v0 16) (G.2.1 a3) ∧ f_X11_isDigit G (S.1 a3 (S.1 v0 16).toNatClampNeg) (fun r6 S5 => (if r6 = 0 then Q S5 else (if (lg_cmp (S5.2.1 v0 18) 1000000) ≤ 0 then (∃ a9, S5.2.2 v0 13 = some a9 ∧ (vp_in (S5.1 v0 16) (G.2.1 a9) ∧ f_X11_next_319 G (f_X11_next_243_n G v0 Q n) v0 ((((S5.2.1 v0 18) * 10) + ((S5.1 a9 (S5.1 v0 16).toNatClampNeg).toInt64)) - 48) v0 Q S5)) else f_X11_next_319 G (f_X11_next_243_n G v0 Q n) v0 (S5.2.1 v0 18) v0 Q S5))) S))) else Q S)
def f_X11_next_243 (G : Gm) (v0 : Nat) (Q : St → Prop) (S : St) : Prop := ∃ n, f_X11_next_243_n G v0 Q n S
def f_X11_next_227 (G : Gm) (k149 : St → Prop) (v0 : Nat) (u0 : Int64) (u1 : Nat) (Q : St → Prop) (S : St) : Prop :=
  (∀ S1, S1 = uJ S u1 18 u0 → (∀ S2, S2 = uI S1 v0 16 ((S1.1 v0 16) + 1) → k149  S2))
def f_X11_next_149_n (G : Gm) (v0 : Nat) (Q : St → Prop) : Nat → St → Prop
  | 0, _ => False
  | n + 1, S => (if (S.1 v0 17) = 1 then (if (S.1 v0 14) ≤ (S.1 v0 16) then f_X11_next_243 G v0 Q S else (∃ a3, S.2.2 v0 13 = some a3 ∧ (vp_in (S.1 v0 16) (G.2.1 a3) ∧ f_X11_isSmall G (S.1 a3 (S.1 v0 16).toNatClampNeg) (fun r6 S5 => (if r6 = 0 then f_X11_next_243 G v0 Q S5 else (if 10 ≤ ((S5.1 v0 16) - (S5.1 v0 15)) then f_X11_next_227 G (f_X11_next_149_n G v0 Q n) v0 (-1) v0 Q S5 else (∃ a9, S5.2.2 v0 13 = some a9 ∧ (vp_in (S5.1 v0 16) (G.2.1 a9) ∧ f_X11_next_227 G (f_X11_next_149_n G v0 Q n) v0 ((((S5.2.1 v0 18) * 32) + ((S5.1 a9 (S5.1 v0 16).toNatClampNeg).toInt64)) - 96) v0 Q S5))))) S))) else f_X11_next_243 G v0 Q S)
def f_X11_next_149 (G : Gm) (v0 : Nat) (Q : St → Prop) (S : St) : Prop := ∃ n, f_X11_next_149_n G v0 Q n S
def f_X11_next_114 (G : Gm) (v0 : Nat) (u0 : Int32) (u1 : Nat) (Q : St → Prop) (S : St) : Prop :=
  (∀ S1, S1 = uI S u1 17 u0 → (if (S1.1 v0 17) = 3 then (∃ a3, S1.2.2 v0 13 = some a3 ∧ (vp_in (S1.1 v0 15) (G.2.1 a3) ∧ (∀ S5, S5 = uJ S1 v0 18 ((S1.1 a3 (S1.1 v0 15).toNatClampNeg).toInt64) → (∀ S6, S6 = uI S5 v0 16 ((S5.1 v0 16) + 1) → f_X11_next_149 G v0 Q S6)))) else f_X11_next_149 G v0 Q S1))
def f_X11_next_46 (G : Gm) (v0 : Nat) (Q : St → Prop) (S : St) : Prop :=
  (∀ S1, S1 = uI S v0 16 (S.1 v0 15) → (∀ S2, S2 = uJ S1 v0 18 0 → (if (S2.1 v0 15) = (S2.1 v0 14) then f_X11_next_114 G v0 0 v0 Q S2 else (∃ a4, S2.2.2 v0 13 = some a4 ∧ (vp_in (S2.1 v0 15) (G.2.1 a4) ∧ f_X11_isSmall G (S2.1 a4 (S2.1 v0 15).toNatClampNeg) (fun r7 S6 => (if r7 = 0 then (∃ a9, S6.2.2 v0 13 = some a9 ∧ (vp_in (S6.1 v0 15) (G.2.1 a9) ∧ f_X11_isDigit G (S6.1 a9 (S6.1 v0 15).toNatClampNeg) (fun r12 S11 => (if r12 = 0 then f_X11_next_114 G v0 3 v0 Q S11 else f_X11_next_114 G v0 2 v0 Q S11)) S6)) else f_X11_next_114 G v0 1 v0 Q S6)) S2)))))
def f_X11_next_8_n (G : Gm) (v0 : Nat) (Q : St → Prop) : Nat → St → Prop
  | 0, _ => False
  | n + 1, S => (if (S.1 v0 14) ≤ (S.1 v0 15) then f_X11_next_46 G v0 Q S else (∃ a2, S.2.2 v0 13 = some a2 ∧ (vp_in (S.1 v0 15) (G.2.1 a2) ∧ (if (S.1 a2 (S.1 v0 15).toNatClampNeg) = 32 then (∀ S5, S5 = uI S v0 15 ((S.1 v0 15) + 1) → (f_X11_next_8_n G v0 Q n)  S5) else f_X11_next_46 G v0 Q S))))
def f_X11_next_8 (G : Gm) (v0 : Nat) (Q : St → Prop) (S : St) : Prop := ∃ n, f_X11_next_8_n G v0 Q n S
def f_X11_next (G : Gm) (v0 : Nat) (Q : St → Prop) (S : St) : Prop :=
  (∀ S1, S1 = uI S v0 15 (S.1 v0 16) → f_X11_next_8 G v0 Q S1)
def f_X11_begin (G : Gm) (v0 : Nat) (Q : St → Prop) (S : St) : Prop :=
  (∀ S1, S1 = uI S v0 16 0 → (∀ S2, S2 = uI S1 v0 20 0 → (∀ S3, S3 = uI S2 v0 19 (-1) → f_X11_next G v0 (fun S4 => Q S4) S3)))
def f_X11_beginText (G : Gm) (v0 : Nat) (v1 : Int32) (Q : St → Prop) (S : St) : Prop :=
  ((v1 = 0 ∨ v1 = 1) ∧ ∀ S1, S1 = uI S v0 21 v1 → f_X11_begin G v0 (fun S2 => (∀ S3, S3 = uI S2 v0 22 0 → (∀ S4, S4 = uI S3 v0 24 0 → (∀ S5, S5 = uI S4 v0 27 0 → Q S5)))) S1)
def f_X11_isSign (G : Gm) (v0 : Nat) (v1 : Int32) (Q : Int32 → St → Prop) (S : St) : Prop :=
  (if (S.1 v0 17) = 3 then (if (lg_cmp (S.2.1 v0 18) v1.toInt64) = 0 then Q 1 S else Q 0 S) else Q 0 S)
def f_X11_binds (G : Gm) (v0 : Int32) (Q : Int32 → St → Prop) (S : St) : Prop :=
  (if v0 < 31 then (if v0 = 30 then Q 1 S else (if v0 = 29 then Q 2 S else (if v0 = 28 then Q 3 S else (if v0 < 25 then (if v0 < 22 then Q 5 S else Q 6 S) else Q 4 S)))) else Q 0 S)
def f_X11_emit (G : Gm) (v0 : Nat) (v1 : Int32) (v2 : Int32) (Q : St → Prop) (S : St) : Prop :=
  (∃ a1, S.2.2 v0 25 = some a1 ∧ (vp_in (S.1 v0 24) (G.2.1 a1) ∧ ∀ S3, S3 = uI S a1 (S.1 v0 24).toNatClampNeg v1 → (∃ a4, S3.2.2 v0 26 = some a4 ∧ (vp_in (S3.1 v0 24) (G.2.1 a4) ∧ ∀ S6, S6 = uI S3 a4 (S3.1 v0 24).toNatClampNeg v2 → (∀ S7, S7 = uI S6 v0 24 ((S6.1 v0 24) + 1) → Q S7)))))
def f_X11_settle_63 (G : Gm) (k0 : St → Prop) (v0 : Nat) (v1 : Int32) (Q : St → Prop) (S : St) : Prop :=
  (∃ a1, S.2.2 v0 26 = some a1 ∧ (∃ a2, S.2.2 v0 29 = some a2 ∧ (vp_in (S.1 v0 30) (G.2.1 a2) ∧ (vp_in (S.1 a2 (S.1 v0 30).toNatClampNeg) (G.2.1 a1) ∧ ∀ S5, S5 = uI S a1 (S.1 a2 (S.1 v0 30).toNatClampNeg).toNatClampNeg (S.1 v0 24) → k0  S5))))
def f_X11_settle_0_n (G : Gm) (v0 : Nat) (v1 : Int32) (Q : St → Prop) : Nat → St → Prop
  | 0, _ => False
  | n + 1, S => (if (S.1 v0 30) ≤ 0 then Q S else (∃ a2, S.2.2 v0 28 = some a2 ∧ (vp_in ((S.1 v0 30) - 1) (G.2.1 a2) ∧ f_X11_binds G (S.1 a2 ((S.1 v0 30) - 1).toNatClampNeg) (fun r5 S4 => (if r5 < v1 then Q S4 else (∀ S7, S7 = uI S4 v0 30 ((S4.1 v0 30) - 1) → (∃ a8, S7.2.2 v0 28 = some a8 ∧ (vp_in (S7.1 v0 30) (G.2.1 a8) ∧ (if (S7.1 a8 (S7.1 v0 30).toNatClampNeg) = 29 then f_X11_settle_63 G (f_X11_settle_0_n G v0 v1 Q n) v0 v1 Q S7 else (∃ a11, S7.2.2 v0 28 = some a11 ∧ (vp_in (S7.1 v0 30) (G.2.1 a11) ∧ (if (S7.1 a11 (S7.1 v0 30).toNatClampNeg) = 30 then f_X11_settle_63 G (f_X11_settle_0_n G v0 v1 Q n) v0 v1 Q S7 else (∃ a14, S7.2.2 v0 28 = some a14 ∧ (vp_in (S7.1 v0 30) (G.2.1 a14) ∧ f_X11_emit G v0 (S7.1 a14 (S7.1 v0 30).toNatClampNeg) 0 (fun S16 => (f_X11_settle_0_n G v0 v1 Q n)  S16) S7))))))))))) S)))
def f_X11_settle_0 (G : Gm) (v0 : Nat) (v1 : Int32) (Q : St → Prop) (S : St) : Prop := ∃ n, f_X11_settle_0_n G v0 v1 Q n S
def f_X11_settle (G : Gm) (v0 : Nat) (v1 : Int32) (Q : St → Prop) (S : St) : Prop := f_X11_settle_0 G v0 v1 Q S
def f_X11_push (G : Gm) (v0 : Nat) (v1 : Int32) (v2 : Int32) (Q : St → Prop) (S : St) : Prop :=
  (∃ a1, S.2.2 v0 28 = some a1 ∧ (vp_in (S.1 v0 30) (G.2.1 a1) ∧ ∀ S3, S3 = uI S a1 (S.1 v0 30).toNatClampNeg v1 → (∃ a4, S3.2.2 v0 29 = some a4 ∧ (vp_in (S3.1 v0 30) (G.2.1 a4) ∧ ∀ S6, S6 = uI S3 a4 (S3.1 v0 30).toNatClampNeg v2 → (∀ S7, S7 = uI S6 v0 30 ((S6.1 v0 30) + 1) → Q S7)))))
def f_X11_inner_4_n (G : Gm) (v0 : Nat) (Q : Int32 → St → Prop) : Nat → Int32 → Int32 → St → Prop
  | 0, _, _, _ => False
  | n + 1, v1, v2, S => (if (S.1 v0 30) ≤ v2 then Q v1 S else (∃ a2, S.2.2 v0 28 = some a2 ∧ (vp_in v2 (G.2.1 a2) ∧ (if (S.1 a2 v2.toNatClampNeg) < 31 then (f_X11_inner_4_n G v0 Q n) v1 (v2 + 1) S else (∃ a5, S.2.2 v0 28 = some a5 ∧ (vp_in v2 (G.2.1 a5) ∧ (∀ x7 : Int32, x7 = S.1 a5 v2.toNatClampNeg → (f_X11_inner_4_n G v0 Q n) x7 (v2 + 1) S)))))))
def f_X11_inner_4 (G : Gm) (v0 : Nat) (Q : Int32 → St → Prop) (v1 : Int32) (v2 : Int32) (S : St) : Prop := ∃ n, f_X11_inner_4_n G v0 Q n v1 v2 S
def f_X11_inner (G : Gm) (v0 : Nat) (Q : Int32 → St → Prop) (S : St) : Prop :=
  f_X11_inner_4 G v0 Q (-1) 0 S
