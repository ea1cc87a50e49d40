def f_X6_lawWord (G : Gm) (v0 : Int32) (Q : Int32 → St → Prop) (S : St) : Prop :=
  (if v0 = 4 then Q 2 S else (if v0 = 5 then Q (-1) S else (if v0 = 6 then Q (-1) S else (if v0 = 7 then Q (-1) S else (if v0 = 8 then Q (-1) S else (if v0 = 9 then Q (-1) S else (if v0 = 10 then Q (-1) S else (if v0 = 11 then Q (-1) S else (if v0 = 12 then Q (-1) S else (if v0 = 13 then Q (-1) S else (if v0 = 14 then Q (-1) S else (if v0 = 15 then Q (-1) S else (if v0 = 16 then Q 0 S else (if v0 = 17 then Q 1 S else (if v0 = 18 then Q 3 S else (if v0 = 19 then Q 4 S else (if v0 = 20 then Q 5 S else (if v0 = 21 then Q 6 S else (if v0 = 22 then Q 7 S else (if v0 = 23 then Q 8 S else Q (-1) S))))))))))))))))))))
def f_X6_orderWord (G : Gm) (v0 : Int32) (Q : Int32 → St → Prop) (S : St) : Prop :=
  (if v0 = 2 then Q 16 S else (if v0 = 3 then Q (-1) S else (if v0 = 4 then Q (-1) S else (if v0 = 5 then Q (-1) S else (if v0 = 6 then Q (-1) S else (if v0 = 7 then Q (-1) S else (if v0 = 8 then Q (-1) S else (if v0 = 9 then Q (-1) S else (if v0 = 10 then Q (-1) S else (if v0 = 11 then Q (-1) S else (if v0 = 12 then Q (-1) S else (if v0 = 13 then Q (-1) S else (if v0 = 14 then Q (-1) S else (if v0 = 15 then Q (-1) S else (if v0 = 16 then Q (-1) S else (if v0 = 17 then Q (-1) S else (if v0 = 18 then Q 4 S else (if v0 = 19 then Q 10 S else (if v0 = 20 then Q (-1) S else (if v0 = 21 then Q (-1) S else (if v0 = 22 then Q 0 S else (if v0 = 23 then Q (-1) S else (if v0 = 24 then Q 1 S else (if v0 = 25 then Q 2 S else (if v0 = 26 then Q 3 S else Q (-1) S)))))))))))))))))))))))))
def f_X8_put_43 (G : Gm) (v0 : Nat) (v1 : Int32) (v2 : Int32) (v3 : Int32) (Q : Int32 → St → Prop) (S : St) : Prop :=
  (∀ x1 : Int32, x1 = (S.1 v0 5) - 1 → (if v1 = 1 then (if x1 < 0 then Q v3 S else (∃ a4, S.2.2 v0 2 = some a4 ∧ (if (nI (G.2.1 a4)) ≤ x1 then Q v3 S else (∃ a6, S.2.2 v0 2 = some a6 ∧ (vp_in x1 (G.2.1 a6) ∧ (vp_in x1 (G.2.1 a6) ∧ ∀ S9, S9 = uI S a6 x1.toNatClampNeg ((S.1 a6 x1.toNatClampNeg) ||| (1 <<< ((v2 : Int32) &&& 31))) → Q v3 S9)))))) else Q v3 S))
def f_X8_put (G : Gm) (v0 : Nat) (v1 : Int32) (v2 : Int32) (Q : Int32 → St → Prop) (S : St) : Prop :=
  (∀ x1 : Int32, x1 = S.1 v0 6 → (if x1 < 0 then f_X8_put_43 G v0 v1 v2 x1 Q S else (∃ a3, S.2.2 v0 4 = some a3 ∧ (if (nI (G.2.1 a3)) ≤ (x1 + 1) then f_X8_put_43 G v0 v1 v2 x1 Q S else (∃ a5, S.2.2 v0 4 = some a5 ∧ (vp_in x1 (G.2.1 a5) ∧ ∀ S7, S7 = uI S a5 x1.toNatClampNeg v1 → (∃ a8, S7.2.2 v0 4 = some a8 ∧ (vp_in (x1 + 1) (G.2.1 a8) ∧ ∀ S10, S10 = uI S7 a8 (x1 + 1).toNatClampNeg v2 → (∀ S11, S11 = uI S10 v0 6 (x1 + 2) → f_X8_put_43 G v0 v1 v2 x1 Q S11)))))))))
def f_X6_simplePart_151 (G : Gm) (u0 : Int32) (u1 : Int32) (u2 : Nat) (Q : St → Prop) (S : St) : Prop :=
  f_X8_put G u2 u1 u0 (fun r2 S1 => Q S1) S
def f_X6_simplePart_141 (G : Gm) (v1 : Int32) (v2 : Int32) (u0 : Int32) (u1 : Nat) (Q : St → Prop) (S : St) : Prop :=
  (if v2 = (-1) then f_X6_simplePart_151 G v1 u0 u1 Q S else f_X6_simplePart_151 G v2 u0 u1 Q S)
def f_X6_simplePart_127 (G : Gm) (v0 : Nat) (v1 : Int32) (v2 : Int32) (Q : St → Prop) (S : St) : Prop :=
  (∃ a1, S.2.2 v0 10 = some a1 ∧ (if v2 = (-1) then f_X6_simplePart_141 G v1 v2 0 a1 Q S else f_X6_simplePart_141 G v1 v2 1 a1 Q S))
def f_X6_simplePart_108 (G : Gm) (v0 : Nat) (Q : St → Prop) (S : St) : Prop :=
  f_X6_fail G v0 (fun S1 => Q S1) S
def f_X6_simplePart_61 (G : Gm) (v0 : Nat) (v1 : Int32) (v2 : Int32) (Q : St → Prop) (S : St) : Prop :=
  (∀ S1, S1 = uI S v0 7 ((S.1 v0 7) + 1) → (∀ S2, S2 = uI S1 v0 6 ((S1.1 v0 6) + 1) → (if (S2.1 v0 8) = 0 then (if v2 < 4 then f_X6_simplePart_127 G v0 v1 v2 Q S2 else f_X6_numberHere G v0 (fun r6 S5 => (if r6 < 0 then f_X6_simplePart_108 G v0 Q S5 else (if r6 < 6 then (∀ S9, S9 = uI S5 v0 6 ((S5.1 v0 6) + 1) → (∀ x10 : Int32, x10 = v2 + r6 → f_X6_simplePart_127 G v0 v1 x10 Q S9)) else f_X6_simplePart_108 G v0 Q S5))) S2) else f_X6_simplePart_127 G v0 v1 v2 Q S2)))
def f_X6_simplePart_56 (G : Gm) (v0 : Nat) (Q : St → Prop) (S : St) : Prop :=
  f_X6_fail G v0 (fun S1 => Q S1) S
def f_X6_simplePart_29 (G : Gm) (v0 : Nat) (v1 : Int32) (u0 : Int32) (Q : St → Prop) (S : St) : Prop :=
  (if 50 ≤ (S.1 v0 7) then f_X6_simplePart_56 G v0 Q S else (if 1000 < v1 then f_X6_simplePart_56 G v0 Q S else (if v1 = (-1) then (if u0 = (-1) then f_X6_simplePart_56 G v0 Q S else f_X6_simplePart_61 G v0 v1 u0 Q S) else f_X6_simplePart_61 G v0 v1 u0 Q S)))
def f_X6_simplePart (G : Gm) (v0 : Nat) (Q : St → Prop) (S : St) : Prop :=
  f_X6_numberHere G v0 (fun r2 S1 => (if (S1.1 v0 8) = 0 then f_X6_here G v0 (fun r5 S4 => f_X6_orderWord G r5 (fun r7 S6 => f_X6_simplePart_29 G v0 r2 r7 Q S6) S4) S1 else f_X6_here G v0 (fun r9 S8 => f_X6_lawWord G r9 (fun r11 S10 => f_X6_simplePart_29 G v0 r2 r11 Q S10) S8) S1)) S
def f_X6_expect (G : Gm) (v0 : Nat) (v1 : Int32) (Q : St → Prop) (S : St) : Prop :=
  f_X6_here G v0 (fun r2 S1 => (if r2 = v1 then (∀ S5, S5 = uI S1 v0 6 ((S1.1 v0 6) + 1) → Q S5) else f_X6_fail G v0 (fun S4 => Q S4) S1)) S
def f_X6_part_r (G : Gm) (R : Nat → Int32 → (St → Prop) → St → Prop) (v0 : Nat) (v1 : Int32) (Q : St → Prop) (S : St) : Prop :=
  f_X6_here G v0 (fun r2 S1 => (if r2 = 191 then (if v1 < 8 then (∀ S5, S5 = uI S1 v0 6 ((S1.1 v0 6) + 1) → R v0 (v1 + 1) (fun S6 => f_X6_expect G v0 193 (fun S7 => Q S7) S6) S5) else f_X6_fail G v0 (fun S8 => Q S8) S1) else f_X6_simplePart G v0 (fun S9 => Q S9) S1)) S
def f_X6_stepOf (G : Gm) (v0 : Int32) (Q : Int32 → St → Prop) (S : St) : Prop :=
  (if (v0 - 100) = 37 then Q 6 S else (if (v0 - 100) = 38 then Q (-1) S else (if (v0 - 100) = 39 then Q (-1) S else (if (v0 - 100) = 40 then Q (-1) S else (if (v0 - 100) = 41 then Q (-1) S else (if (v0 - 100) = 42 then Q 4 S else (if (v0 - 100) = 43 then Q 2 S else (if (v0 - 100) = 44 then Q (-1) S else (if (v0 - 100) = 45 then Q 3 S else (if (v0 - 100) = 46 then Q (-1) S else (if (v0 - 100) = 47 then Q 5 S else (if (v0 - 100) = 48 then Q (-1) S else (if (v0 - 100) = 49 then Q (-1) S else (if (v0 - 100) = 50 then Q (-1) S else (if (v0 - 100) = 51 then Q (-1) S else (if (v0 - 100) = 52 then Q (-1) S else (if (v0 - 100) = 53 then Q (-1) S else (if (v0 - 100) = 54 then Q (-1) S else (if (v0 - 100) = 55 then Q (-1) S else (if (v0 - 100) = 56 then Q (-1) S else (if (v0 - 100) = 57 then Q (-1) S else (if (v0 - 100) = 58 then Q (-1) S else (if (v0 - 100) = 59 then Q (-1) S else (if (v0 - 100) = 60 then Q 7 S else (if (v0 - 100) = 61 then Q 9 S else (if (v0 - 100) = 62 then Q 8 S else Q (-1) S))))))))))))))))))))))))))
def f_X6_term_r_39 (G : Gm) (R : Nat → Int32 → (St → Prop) → St → Prop) (k7 : Int32 → St → Prop) (v0 : Nat) (v1 : Int32) (v2 : Int32) (v3 : Int32) (Q : St → Prop) (S : St) : Prop :=
  (∀ S1, S1 = uI S v0 6 ((S.1 v0 6) + 1) → f_X6_part_r G R v0 v1 (fun S2 => (∃ a3, S2.2.2 v0 10 = some a3 ∧ f_X8_put G a3 v3 0 (fun r5 S4 => k7 (v2 + 1) S4) S2)) S1)
def f_X6_term_r_7_n (G : Gm) (R : Nat → Int32 → (St → Prop) → St → Prop) (v0 : Nat) (v1 : Int32) (Q : St → Prop) : Nat → Int32 → St → Prop
  | 0, _, _ => False
  | n + 1, v2, S => (if 400 ≤ v2 then Q S else f_X6_here G v0 (fun r3 S2 => f_X6_stepOf G r3 (fun r5 S4 => (if r5 = 4 then f_X6_term_r_39 G R (f_X6_term_r_7_n G R v0 v1 Q n) v0 v1 v2 r5 Q S4 else (if r5 = 5 then f_X6_term_r_39 G R (f_X6_term_r_7_n G R v0 v1 Q n) v0 v1 v2 r5 Q S4 else (if r5 = 6 then f_X6_term_r_39 G R (f_X6_term_r_7_n G R v0 v1 Q n) v0 v1 v2 r5 Q S4 else Q S4)))) S2) S)
def f_X6_term_r_7 (G : Gm) (R : Nat → Int32 → (St → Prop) → St → Prop) (v0 : Nat) (v1 : Int32) (Q : St → Prop) (v2 : Int32) (S : St) : Prop := ∃ n, f_X6_term_r_7_n G R v0 v1 Q n v2 S
def f_X6_term_r (G : Gm) (R : Nat → Int32 → (St → Prop) → St → Prop) (v0 : Nat) (v1 : Int32) (Q : St → Prop) (S : St) : Prop :=
  f_X6_part_r G R v0 v1 (fun S1 => f_X6_term_r_7 G R v0 v1 Q 0 S1) S
def f_X6_sum_r_33 (G : Gm) (R : Nat → Int32 → (St → Prop) → St → Prop) (k7 : Int32 → St → Prop) (v0 : Nat) (v1 : Int32) (v2 : Int32) (v3 : Int32) (Q : St → Prop) (S : St) : Prop :=
  (∀ S1, S1 = uI S v0 6 ((S.1 v0 6) + 1) → f_X6_term_r G R v0 v1 (fun S2 => (∃ a3, S2.2.2 v0 10 = some a3 ∧ f_X8_put G a3 v3 0 (fun r5 S4 => k7 (v2 + 1) S4) S2)) S1)
def f_X6_sum_r_7_n (G : Gm) (R : Nat → Int32 → (St → Prop) → St → Prop) (v0 : Nat) (v1 : Int32) (Q : St → Prop) : Nat → Int32 → St → Prop
  | 0, _, _ => False
  | n + 1, v2, S => (if 400 ≤ v2 then Q S else f_X6_here G v0 (fun r3 S2 => f_X6_stepOf G r3 (fun r5 S4 => (if r5 = 2 then f_X6_sum_r_33 G R (f_X6_sum_r_7_n G R v0 v1 Q n) v0 v1 v2 r5 Q S4 else (if r5 = 3 then f_X6_sum_r_33 G R (f_X6_sum_r_7_n G R v0 v1 Q n) v0 v1 v2 r5 Q S4 else Q S4))) S2) S)
def f_X6_sum_r_7 (G : Gm) (R : Nat → Int32 → (St → Prop) → St → Prop) (v0 : Nat) (v1 : Int32) (Q : St → Prop) (v2 : Int32) (S : St) : Prop := ∃ n, f_X6_sum_r_7_n G R v0 v1 Q n v2 S
def f_X6_sum_r (G : Gm) (R : Nat → Int32 → (St → Prop) → St → Prop) (v0 : Nat) (v1 : Int32) (Q : St → Prop) (S : St) : Prop :=
  f_X6_term_r G R v0 v1 (fun S1 => f_X6_sum_r_7 G R v0 v1 Q 0 S1) S
def f_X6_sum (G : Gm) : Nat → Nat → Int32 → (St → Prop) → St → Prop
  | 0, _, _, _, _ => False
  | n + 1, v0, v1, Q, S => f_X6_sum_r G (f_X6_sum G n) v0 v1 Q S
def f_X8_repeat (G : Gm) (v0 : Nat) (v1 : Int32) (Q : St → Prop) (S : St) : Prop :=
  (∀ x1 : Int32, x1 = (S.1 v0 5) - 1 → (if x1 < 0 then Q S else (∃ a3, S.2.2 v0 1 = some a3 ∧ (if (nI (G.2.1 a3)) ≤ x1 then Q S else (∃ a5, S.2.2 v0 1 = some a5 ∧ (vp_in x1 (G.2.1 a5) ∧ ∀ S7, S7 = uI S a5 x1.toNatClampNeg v1 → Q S7))))))
def f_X6_restOfOrder_64 (G : Gm) (v0 : Nat) (Q : St → Prop) (S : St) : Prop :=
  f_X6_fail G v0 (fun S1 => Q S1) S
def f_X6_restOfOrder_29 (G : Gm) (v0 : Nat) (Q : St → Prop) (S : St) : Prop :=
  f_X6_here G v0 (fun r2 S1 => (if r2 = 10 then (∀ S4, S4 = uI S1 v0 6 ((S1.1 v0 6) + 1) → f_X6_numberHere G v0 (fun r6 S5 => (if r6 < 1 then f_X6_restOfOrder_64 G v0 Q S5 else (if r6 ≤ 20 then (∀ S9, S9 = uI S5 v0 6 ((S5.1 v0 6) + 1) → (∃ a10, S9.2.2 v0 10 = some a10 ∧ f_X8_repeat G a10 r6 (fun S11 => Q S11) S9)) else f_X6_restOfOrder_64 G v0 Q S5))) S4) else Q S1)) S
def f_X6_restOfOrder_21 (G : Gm) (v0 : Nat) (u0 : Int32) (u1 : Nat) (Q : St → Prop) (S : St) : Prop :=
  f_X6_expect G u1 u0 (fun S1 => f_X6_sum G 10 v0 0 (fun S2 => f_X6_restOfOrder_29 G v0 Q S2) S1) S
def f_X6_restOfOrder_9 (G : Gm) (v0 : Nat) (v1 : Int32) (Q : St → Prop) (S : St) : Prop :=
  (if v1 = 0 then f_X6_restOfOrder_21 G v0 11 v0 Q S else f_X6_restOfOrder_21 G v0 12 v0 Q S)
def f_X6_restOfOrder (G : Gm) (v0 : Nat) (v1 : Int32) (Q : St → Prop) (S : St) : Prop :=
  (if v1 = 0 then f_X6_restOfOrder_9 G v0 v1 Q S else (if v1 = 2 then f_X6_restOfOrder_9 G v0 v1 Q S else f_X6_restOfOrder_29 G v0 Q S))
def f_X6_comparison_25 (G : Gm) (v0 : Nat) (Q : St → Prop) (S : St) : Prop :=
  f_X6_fail G v0 (fun S1 => Q S1) S
def f_X6_comparison (G : Gm) (v0 : Nat) (v1 : Int32) (Q : St → Prop) (S : St) : Prop :=
  f_X6_sum G 10 v0 v1 (fun S1 => f_X6_here G v0 (fun r3 S2 => f_X6_stepOf G r3 (fun r5 S4 => (if r5 < 7 then f_X6_comparison_25 G v0 Q S4 else (if r5 ≤ 9 then (∀ S8, S8 = uI S4 v0 6 ((S4.1 v0 6) + 1) → f_X6_sum G 10 v0 v1 (fun S9 => (∃ a10, S9.2.2 v0 10 = some a10 ∧ f_X8_put G a10 r5 0 (fun r12 S11 => Q S11) S9)) S8) else f_X6_comparison_25 G v0 Q S4))) S2) S1) S
def f_X6_plain_r_101 (G : Gm) (R : Nat → Int32 → (St → Prop) → St → Prop) (v0 : Nat) (v2 : Int32) (Q : St → Prop) (S : St) : Prop :=
  (if v2 = 0 then Q S else (∃ a2, S.2.2 v0 10 = some a2 ∧ f_X8_put G a2 10 0 (fun r4 S3 => Q S3) S))
def f_X6_plain_r_46 (G : Gm) (R : Nat → Int32 → (St → Prop) → St → Prop) (v0 : Nat) (v1 : Int32) (v2 : Int32) (Q : St → Prop) (S : St) : Prop :=
  f_X6_here G v0 (fun r2 S1 => (if r2 = 140 then (if v1 < 8 then (∀ S5, S5 = uI S1 v0 6 ((S1.1 v0 6) + 1) → R v0 (v1 + 1) (fun S6 => f_X6_expect G v0 141 (fun S7 => f_X6_plain_r_101 G R v0 v2 Q S7) S6) S5) else f_X6_fail G v0 (fun S8 => f_X6_plain_r_101 G R v0 v2 Q S8) S1) else f_X6_comparison G v0 v1 (fun S9 => f_X6_plain_r_101 G R v0 v2 Q S9) S1)) S
def f_X6_plain_r_4_n (G : Gm) (R : Nat → Int32 → (St → Prop) → St → Prop) (v0 : Nat) (v1 : Int32) (Q : St → Prop) : Nat → Int32 → Int32 → St → Prop
  | 0, _, _, _ => False
  | n + 1, v2, v3, S => (if 400 ≤ v3 then f_X6_plain_r_46 G R v0 v1 v2 Q S else f_X6_here G v0 (fun r3 S2 => (if r3 = 15 then (∀ S5, S5 = uI S2 v0 6 ((S2.1 v0 6) + 1) → (if v2 = 0 then (f_X6_plain_r_4_n G R v0 v1 Q n) 1 (v3 + 1) S5 else (f_X6_plain_r_4_n G R v0 v1 Q n) 0 (v3 + 1) S5)) else f_X6_plain_r_46 G R v0 v1 v2 Q S2)) S)
def f_X6_plain_r_4 (G : Gm) (R : Nat → Int32 → (St → Prop) → St → Prop) (v0 : Nat) (v1 : Int32) (Q : St → Prop) (v2 : Int32) (v3 : Int32) (S : St) : Prop := ∃ n, f_X6_plain_r_4_n G R v0 v1 Q n v2 v3 S
def f_X6_plain_r (G : Gm) (R : Nat → Int32 → (St → Prop) → St → Prop) (v0 : Nat) (v1 : Int32) (Q : St → Prop) (S : St) : Prop :=
  f_X6_plain_r_4 G R v0 v1 Q 0 0 S
def f_X8_aim (G : Gm) (v0 : Nat) (v1 : Int32) (Q : St → Prop) (S : St) : Prop :=
  (if v1 < 0 then Q S else (∃ a2, S.2.2 v0 4 = some a2 ∧ (if (nI (G.2.1 a2)) ≤ (v1 + 1) then Q S else (∃ a4, S.2.2 v0 4 = some a4 ∧ (vp_in (v1 + 1) (G.2.1 a4) ∧ ∀ S6, S6 = uI S a4 (v1 + 1).toNatClampNeg (S.1 v0 6) → Q S6)))))
def f_X6_both_r_7_n (G : Gm) (R : Nat → Int32 → (St → Prop) → St → Prop) (v0 : Nat) (v1 : Int32) (Q : St → Prop) : Nat → Int32 → St → Prop
  | 0, _, _ => False
  | n + 1, v2, S => (if 400 ≤ v2 then Q S else f_X6_here G v0 (fun r3 S2 => (if r3 = 14 then (∀ S5, S5 = uI S2 v0 6 ((S2.1 v0 6) + 1) → (∃ a6, S5.2.2 v0 10 = some a6 ∧ f_X8_put G a6 12 0 (fun r8 S7 => f_X6_plain_r G R v0 v1 (fun S9 => (∃ a10, S9.2.2 v0 10 = some a10 ∧ f_X8_aim G a10 r8 (fun S11 => (f_X6_both_r_7_n G R v0 v1 Q n) (v2 + 1) S11) S9)) S7) S5)) else Q S2)) S)
def f_X6_both_r_7 (G : Gm) (R : Nat → Int32 → (St → Prop) → St → Prop) (v0 : Nat) (v1 : Int32) (Q : St → Prop) (v2 : Int32) (S : St) : Prop := ∃ n, f_X6_both_r_7_n G R v0 v1 Q n v2 S
def f_X6_both_r (G : Gm) (R : Nat → Int32 → (St → Prop) → St → Prop) (v0 : Nat) (v1 : Int32) (Q : St → Prop) (S : St) : Prop :=
  f_X6_plain_r G R v0 v1 (fun S1 => f_X6_both_r_7 G R v0 v1 Q 0 S1) S
def f_X6_test_r_7_n (G : Gm) (R : Nat → Int32 → (St → Prop) → St → Prop) (v0 : Nat) (v1 : Int32) (Q : St → Prop) : Nat → Int32 → St → Prop
  | 0, _, _ => False
  | n + 1, v2, S => (if 400 ≤ v2 then Q S else f_X6_here G v0 (fun r3 S2 => (if r3 = 13 then (∀ S5, S5 = uI S2 v0 6 ((S2.1 v0 6) + 1) → (∃ a6, S5.2.2 v0 10 = some a6 ∧ f_X8_put G a6 11 0 (fun r8 S7 => f_X6_both_r G R v0 v1 (fun S9 => (∃ a10, S9.2.2 v0 10 = some a10 ∧ f_X8_aim G a10 r8 (fun S11 => (f_X6_test_r_7_n G R v0 v1 Q n) (v2 + 1) S11) S9)) S7) S5)) else Q S2)) S)
def f_X6_test_r_7 (G : Gm) (R : Nat → Int32 → (St → Prop) → St → Prop) (v0 : Nat) (v1 : Int32) (Q : St → Prop) (v2 : Int32) (S : St) : Prop := ∃ n, f_X6_test_r_7_n G R v0 v1 Q n v2 S
def f_X6_test_r (G : Gm) (R : Nat → Int32 → (St → Prop) → St → Prop) (v0 : Nat) (v1 : Int32) (Q : St → Prop) (S : St) : Prop :=
  f_X6_both_r G R v0 v1 (fun S1 => f_X6_test_r_7 G R v0 v1 Q 0 S1) S
def f_X6_test (G : Gm) : Nat → Nat → Int32 → (St → Prop) → St → Prop
  | 0, _, _, _, _ => False
  | n + 1, v0, v1, Q, S => f_X6_test_r G (f_X6_test G n) v0 v1 Q S
def f_X6_clause_134 (G : Gm) (v0 : Nat) (Q : St → Prop) (S : St) : Prop :=
  (∃ a1, S.2.2 v0 10 = some a1 ∧ f_X8_mark G a1 3 (fun S2 => Q S2) S)
def f_X6_clause_102 (G : Gm) (v0 : Nat) (Q : St → Prop) (S : St) : Prop :=
  (∃ a1, S.2.2 v0 10 = some a1 ∧ f_X8_mark G a1 2 (fun S2 => f_X6_here G v0 (fun r4 S3 => (if r4 = 9 then (∀ S6, S6 = uI S3 v0 6 ((S3.1 v0 6) + 1) → f_X6_test G 10 v0 0 (fun S7 => f_X6_clause_134 G v0 Q S7) S6) else f_X6_clause_134 G v0 Q S3)) S2) S)
def f_X6_clause_82 (G : Gm) (v0 : Nat) (v1 : Int32) (Q : St → Prop) (S : St) : Prop :=
  (∃ a1, S.2.2 v0 10 = some a1 ∧ f_X8_mark G a1 1 (fun S2 => (if (S2.1 v0 8) = 0 then f_X6_restOfOrder G v0 v1 (fun S4 => f_X6_clause_102 G v0 Q S4) S2 else f_X6_clause_102 G v0 Q S2)) S)
def f_X6_clause_74 (G : Gm) (v0 : Nat) (v1 : Int32) (u0 : Int32) (u1 : Int32) (Q : St → Prop) (S : St) : Prop :=
  (if u1 = u0 then f_X6_clause_82 G v0 v1 Q S else f_X6_sum G 10 v0 0 (fun S2 => f_X6_clause_82 G v0 v1 Q S2) S)
def f_X6_clause_38 (G : Gm) (v0 : Nat) (Q : St → Prop) (S : St) : Prop :=
  f_X6_fail G v0 (fun S1 => Q S1) S
def f_X6_clause_35 (G : Gm) (v0 : Nat) (v1 : Int32) (u0 : Int32) (u1 : Int32) (Q : St → Prop) (S : St) : Prop :=
  (if u1 ≤ u0 then (∀ S2, S2 = uI S v0 6 ((S.1 v0 6) + 1) → (∃ a3, S2.2.2 v0 10 = some a3 ∧ f_X8_open G a3 v1 (fun S4 => (if (S4.1 v0 8) = 0 then f_X6_clause_74 G v0 v1 4 v1 Q S4 else f_X6_clause_74 G v0 v1 3 v1 Q S4)) S2)) else f_X6_clause_38 G v0 Q S)
def f_X6_clause_16 (G : Gm) (v0 : Nat) (u0 : Int32) (u1 : Int32) (Q : St → Prop) (S : St) : Prop :=
  (∀ x1 : Int32, x1 = u1 - u0 → (if x1 < 0 then f_X6_clause_38 G v0 Q S else (if (S.1 v0 8) = 0 then f_X6_clause_35 G v0 x1 4 x1 Q S else f_X6_clause_35 G v0 x1 3 x1 Q S)))
def f_X6_clause (G : Gm) (v0 : Nat) (Q : St → Prop) (S : St) : Prop :=
  f_X6_here G v0 (fun r2 S1 => (if (S1.1 v0 8) = 0 then f_X6_clause_16 G v0 4 r2 Q S1 else f_X6_clause_16 G v0 0 r2 Q S1)) S
