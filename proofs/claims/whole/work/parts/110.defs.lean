def f_X11_tells_184_n (G : Gm) (v0 : Nat) (v1 : Int32) (Q : Int64 → St → Prop) : Nat → Int64 → Int32 → St → Prop
  | 0, _, _, _ => False
  | n + 1, v7, v9, S => (∃ a1, S.2.2 v0 4 = some a1 ∧ (vp_in ((S.1 v0 35) + 1) (G.2.1 a1) ∧ (if (S.1 a1 ((S.1 v0 35) + 1).toNatClampNeg) ≤ v9 then Q v7 S else (∀ x4 : Int32, x4 = ((S.1 v0 35) + 2) + (8 * v9) → (∃ a5, S.2.2 v0 4 = some a5 ∧ (vp_in x4 (G.2.1 a5) ∧ (if (S.1 a5 x4.toNatClampNeg) = v1 then f_X11_isSo G v0 x4 (fun r9 S8 => (if r9 = 0 then (f_X11_tells_184_n G v0 v1 Q n) v7 (v9 + 1) S8 else (if v1 = 3 then (f_X11_tells_184_n G v0 v1 Q n) 1 (v9 + 1) S8 else (∀ x12 : Int64, x12 = S8.2.1 v0 42 → (f_X11_tells_184_n G v0 v1 Q n) x12 (v9 + 1) S8)))) S else (f_X11_tells_184_n G v0 v1 Q n) v7 (v9 + 1) S)))))))
def f_X11_tells_184 (G : Gm) (v0 : Nat) (v1 : Int32) (Q : Int64 → St → Prop) (v7 : Int64) (v9 : Int32) (S : St) : Prop := ∃ n, f_X11_tells_184_n G v0 v1 Q n v7 v9 S
def f_X11_tells_147 (G : Gm) (v0 : Nat) (v1 : Int32) (v5 : Int64) (u0 : Int64) (u1 : Int32) (u2 : Nat) (Q : Int64 → St → Prop) (S : St) : Prop :=
  (vp_in u1 (G.2.1 u2) ∧ ∀ S2, S2 = uJ S u2 u1.toNatClampNeg u0 → (∃ a3, S2.2.2 v0 36 = some a3 ∧ (∃ a4, S2.2.2 v0 4 = some a4 ∧ (vp_in 4 (G.2.1 a4) ∧ (vp_in 8 (G.2.1 a3) ∧ ∀ S7, S7 = uJ S2 a3 (8 : Int32).toNatClampNeg ((S2.1 a4 (4 : Int32).toNatClampNeg).toInt64) → (∃ a8, S7.2.2 v0 36 = some a8 ∧ (∃ a9, S7.2.2 v0 4 = some a9 ∧ (vp_in 6 (G.2.1 a9) ∧ (vp_in 9 (G.2.1 a8) ∧ ∀ S12, S12 = uJ S7 a8 (9 : Int32).toNatClampNeg ((S7.1 a9 (6 : Int32).toNatClampNeg).toInt64) → f_X11_tells_184 G v0 v1 Q v5 0 S12)))))))))
def f_X11_tells_122 (G : Gm) (v0 : Nat) (v1 : Int32) (v4 : Int32) (v5 : Int64) (u0 : Int64) (u1 : Int32) (u2 : Nat) (Q : Int64 → St → Prop) (S : St) : Prop :=
  (vp_in u1 (G.2.1 u2) ∧ ∀ S2, S2 = uJ S u2 u1.toNatClampNeg u0 → (∃ a3, S2.2.2 v0 36 = some a3 ∧ (if v4 = (-1) then f_X11_tells_147 G v0 v1 v5 (-1) 7 a3 Q S2 else f_X11_firstOf G v4 (fun r6 S5 => f_X11_tells_147 G v0 v1 v5 r6.toInt64 7 a3 Q S5) S2)))
def f_X11_tells_76 (G : Gm) (v0 : Nat) (v1 : Int32) (v2 : Int32) (v4 : Int32) (v5 : Int64) (u0 : Int64) (u1 : Int32) (u2 : Nat) (Q : Int64 → St → Prop) (S : St) : Prop :=
  (vp_in u1 (G.2.1 u2) ∧ ∀ S2, S2 = uJ S u2 u1.toNatClampNeg u0 → (∃ a3, S2.2.2 v0 36 = some a3 ∧ f_X11_sinsOf G v0 v2 (fun r5 S4 => (vp_in 4 (G.2.1 a3) ∧ ∀ S7, S7 = uJ S4 a3 (4 : Int32).toNatClampNeg r5.toInt64 → (∃ a8, S7.2.2 v0 36 = some a8 ∧ (vp_in 5 (G.2.1 a8) ∧ ∀ S10, S10 = uJ S7 a8 (5 : Int32).toNatClampNeg v4.toInt64 → (∃ a11, S10.2.2 v0 36 = some a11 ∧ (if v4 = (-1) then f_X11_tells_122 G v0 v1 v4 v5 (-1) 6 a11 Q S10 else f_X11_litOf G v4 (fun r14 S13 => f_X11_tells_122 G v0 v1 v4 v5 r14.toInt64 6 a11 Q S13) S10)))))) S2))
def f_X11_tells (G : Gm) (v0 : Nat) (v1 : Int32) (v2 : Int32) (v3 : Int32) (v4 : Int32) (v5 : Int64) (Q : Int64 → St → Prop) (S : St) : Prop :=
  (∃ a1, S.2.2 v0 4 = some a1 ∧ (vp_in 3 (G.2.1 a1) ∧ (if (S.1 a1 (3 : Int32).toNatClampNeg) = (-1) then Q v5 S else (∃ a4, S.2.2 v0 4 = some a4 ∧ (vp_in 3 (G.2.1 a4) ∧ (∀ S6, S6 = uI S v0 35 (85 + (900 * (S.1 a4 (3 : Int32).toNatClampNeg))) → (∃ a7, S6.2.2 v0 36 = some a7 ∧ (vp_in 1 (G.2.1 a7) ∧ ∀ S9, S9 = uJ S6 a7 (1 : Int32).toNatClampNeg v2.toInt64 → (∃ a10, S9.2.2 v0 36 = some a10 ∧ (vp_in 2 (G.2.1 a10) ∧ ∀ S12, S12 = uJ S9 a10 (2 : Int32).toNatClampNeg v3.toInt64 → (∃ a13, S12.2.2 v0 36 = some a13 ∧ (if v3 = (-1) then f_X11_tells_76 G v0 v1 v2 v4 v5 (-1) 3 a13 Q S12 else (∃ a15, S12.2.2 v0 4 = some a15 ∧ (vp_in ((8 + (4 * v2)) + v3) (G.2.1 a15) ∧ f_X11_tells_76 G v0 v1 v2 v4 v5 ((S12.1 a15 ((8 + (4 * v2)) + v3).toNatClampNeg).toInt64) 3 a13 Q S12))))))))))))))
def f_X11_isBarred (G : Gm) (v0 : Nat) (v1 : Int32) (Q : Int32 → St → Prop) (S : St) : Prop :=
  f_X11_sightOf G v0 v1 (fun r2 S1 => f_X11_tells G v0 3 v1 (-1) r2 0 (fun r4 S3 => (if (lg_cmp r4 1) = 0 then Q 1 S3 else Q 0 S3)) S1) S
def f_X11_within (G : Gm) (v0 : Int64) (v2 : Int32) (v3 : Int32) (Q : Int32 → St → Prop) (S : St) : Prop :=
  (if 0 ≤ (lg_cmp v0 v2.toInt64) then (if (lg_cmp v0 v3.toInt64) ≤ 0 then Q v0.toInt32 S else Q v3 S) else Q v2 S)
def f_X11_grindsOf_30 (G : Gm) (u0 : Int64) (u1 : Int32) (u2 : Int32) (u3 : Int32) (u4 : Int32) (u5 : Nat) (Q : Int32 → St → Prop) (S : St) : Prop :=
  f_X11_tells G u5 u4 u3 u2 u1 u0 (fun r2 S1 => f_X11_within G r2 0 7 (fun r4 S3 => Q r4 S3) S1) S
def f_X11_grindsOf (G : Gm) (v0 : Nat) (v1 : Int32) (v2 : Int32) (Q : Int32 → St → Prop) (S : St) : Prop :=
  (∃ a1, S.2.2 v0 4 = some a1 ∧ (vp_in ((8 + (4 * v1)) + v2) (G.2.1 a1) ∧ (if 4 ≤ (S.1 a1 ((8 + (4 * v1)) + v2).toNatClampNeg) then f_X11_grindsOf_30 G (v2.toInt64 + 1) (-1) v2 v1 0 v0 Q S else f_X11_grindsOf_30 G 0 (-1) v2 v1 0 v0 Q S)))
def f_X11_layGround_4_n (G : Gm) (v0 : Nat) (v1 : Int32) (Q : Int32 → St → Prop) : Nat → Int32 → Int32 → St → Prop
  | 0, _, _, _ => False
  | n + 1, v2, v3, S => (if 4 ≤ v3 then Q v2 S else (∃ a2, S.2.2 v0 43 = some a2 ∧ f_X11_grindsOf G v0 v1 v3 (fun r4 S3 => (vp_in v3 (G.2.1 a2) ∧ ∀ S6, S6 = uI S3 a2 v3.toNatClampNeg r4 → (∃ a7, S6.2.2 v0 43 = some a7 ∧ (vp_in v3 (G.2.1 a7) ∧ (if (S6.1 a7 v3.toNatClampNeg) = 0 then (∀ x11 : Int32, x11 = v2 + 0 → (f_X11_layGround_4_n G v0 v1 Q n) x11 (v3 + 1) S6) else (∀ x10 : Int32, x10 = v2 + 1 → (f_X11_layGround_4_n G v0 v1 Q n) x10 (v3 + 1) S6)))))) S))
def f_X11_layGround_4 (G : Gm) (v0 : Nat) (v1 : Int32) (Q : Int32 → St → Prop) (v2 : Int32) (v3 : Int32) (S : St) : Prop := ∃ n, f_X11_layGround_4_n G v0 v1 Q n v2 v3 S
def f_X11_layGround (G : Gm) (v0 : Nat) (v1 : Int32) (Q : Int32 → St → Prop) (S : St) : Prop :=
  f_X11_layGround_4 G v0 v1 Q 0 0 S
def f_X11_grindIt_52_n (G : Gm) (v0 : Nat) (v2 : Int32) (Q : Int32 → St → Prop) : Nat → Int32 → Int32 → St → Prop
  | 0, _, _, _ => False
  | n + 1, v3, v4, S => (if 4 ≤ v4 then Q v2 S else (∃ a2, S.2.2 v0 43 = some a2 ∧ (vp_in v4 (G.2.1 a2) ∧ (if (S.1 a2 v4.toNatClampNeg) = 0 then (f_X11_grindIt_52_n G v0 v2 Q n) v3 (v4 + 1) S else (∃ a5, S.2.2 v0 4 = some a5 ∧ (∃ a6, S.2.2 v0 43 = some a6 ∧ (vp_in v4 (G.2.1 a6) ∧ (vp_in v3 (G.2.1 a5) ∧ ∀ S9, S9 = uI S a5 v3.toNatClampNeg (S.1 a6 v4.toNatClampNeg) → (f_X11_grindIt_52_n G v0 v2 Q n) (v3 + 1) (v4 + 1) S9))))))))
def f_X11_grindIt_52 (G : Gm) (v0 : Nat) (v2 : Int32) (Q : Int32 → St → Prop) (v3 : Int32) (v4 : Int32) (S : St) : Prop := ∃ n, f_X11_grindIt_52_n G v0 v2 Q n v3 v4 S
def f_X11_grindIt_27_n (G : Gm) (v0 : Nat) (v2 : Int32) (v3 : Int32) (Q : Int32 → St → Prop) : Nat → Int32 → St → Prop
  | 0, _, _ => False
  | n + 1, v4, S => (if 4 ≤ v4 then f_X11_grindIt_52 G v0 v2 Q v3 0 S else (∃ a2, S.2.2 v0 4 = some a2 ∧ (vp_in (v3 + v4) (G.2.1 a2) ∧ ∀ S4, S4 = uI S a2 (v3 + v4).toNatClampNeg 0 → (f_X11_grindIt_27_n G v0 v2 v3 Q n) (v4 + 1) S4)))
def f_X11_grindIt_27 (G : Gm) (v0 : Nat) (v2 : Int32) (v3 : Int32) (Q : Int32 → St → Prop) (v4 : Int32) (S : St) : Prop := ∃ n, f_X11_grindIt_27_n G v0 v2 v3 Q n v4 S
def f_X11_grindIt (G : Gm) (v0 : Nat) (v1 : Int32) (Q : Int32 → St → Prop) (S : St) : Prop :=
  f_X11_layGround G v0 v1 (fun r2 S1 => (∀ x3 : Int32, x3 = (32 + (5 * v1)) + 1 → (∃ a4, S1.2.2 v0 4 = some a4 ∧ (vp_in (x3 - 1) (G.2.1 a4) ∧ ∀ S6, S6 = uI S1 a4 (x3 - 1).toNatClampNeg r2 → f_X11_grindIt_27 G v0 r2 x3 Q 0 S6)))) S
def f_X11_grindNow (G : Gm) (v0 : Nat) (v1 : Int32) (Q : Int32 → St → Prop) (S : St) : Prop :=
  f_X11_isPerson G v0 v1 (fun r2 S1 => (if r2 = 0 then Q (-2) S1 else f_X11_isBarred G v0 v1 (fun r5 S4 => (if r5 = 0 then f_X11_remember G v0 1 (fun S7 => f_X11_grindIt G v0 v1 (fun r9 S8 => Q r9 S8) S7) S4 else Q (-3) S4)) S1)) S
def f_X11_putGlass_75_n (G : Gm) (v0 : Nat) (v1 : Int32) (Q : St → Prop) : Nat → Int32 → Int32 → St → Prop
  | 0, _, _, _ => False
  | n + 1, v4, v5, S => (if v5 < 0 then Q S else (∃ a2, S.2.2 v0 4 = some a2 ∧ (vp_in (((32 + (5 * v1)) + 1) + v5) (G.2.1 a2) ∧ ∀ S4, S4 = uI S a2 (((32 + (5 * v1)) + 1) + v5).toNatClampNeg ((v4 - v4 / 10 * 10) - 1) → (∀ x5 : Int32, x5 = v4 / 10 → (f_X11_putGlass_75_n G v0 v1 Q n) x5 (v5 + (-1)) S4))))
def f_X11_putGlass_75 (G : Gm) (v0 : Nat) (v1 : Int32) (Q : St → Prop) (v4 : Int32) (v5 : Int32) (S : St) : Prop := ∃ n, f_X11_putGlass_75_n G v0 v1 Q n v4 v5 S
def f_X11_putGlass_38_n (G : Gm) (v0 : Nat) (v1 : Int32) (v2 : Int32) (v3 : Int32) (Q : St → Prop) : Nat → Int32 → St → Prop
  | 0, _, _ => False
  | n + 1, v4, S => (if 4 ≤ v4 then (∀ x2 : Int32, x2 = v3 - 1 → f_X11_putGlass_75 G v0 v1 Q v2 x2 S) else (∃ a3, S.2.2 v0 4 = some a3 ∧ (vp_in (((32 + (5 * v1)) + 1) + v4) (G.2.1 a3) ∧ ∀ S5, S5 = uI S a3 (((32 + (5 * v1)) + 1) + v4).toNatClampNeg 0 → (f_X11_putGlass_38_n G v0 v1 v2 v3 Q n) (v4 + 1) S5)))
def f_X11_putGlass_38 (G : Gm) (v0 : Nat) (v1 : Int32) (v2 : Int32) (v3 : Int32) (Q : St → Prop) (v4 : Int32) (S : St) : Prop := ∃ n, f_X11_putGlass_38_n G v0 v1 v2 v3 Q n v4 S
def f_X11_putGlass_5_n (G : Gm) (v0 : Nat) (v1 : Int32) (v2 : Int32) (Q : St → Prop) : Nat → Int32 → Int32 → St → Prop
  | 0, _, _, _ => False
  | n + 1, v3, v4, S => (if v4 ≤ 0 then (∃ a2, S.2.2 v0 4 = some a2 ∧ (vp_in (32 + (5 * v1)) (G.2.1 a2) ∧ ∀ S4, S4 = uI S a2 (32 + (5 * v1)).toNatClampNeg v3 → f_X11_putGlass_38 G v0 v1 v2 v3 Q 0 S4)) else (∀ x5 : Int32, x5 = v4 / 10 → (f_X11_putGlass_5_n G v0 v1 v2 Q n) (v3 + 1) x5 S))
def f_X11_putGlass_5 (G : Gm) (v0 : Nat) (v1 : Int32) (v2 : Int32) (Q : St → Prop) (v3 : Int32) (v4 : Int32) (S : St) : Prop := ∃ n, f_X11_putGlass_5_n G v0 v1 v2 Q n v3 v4 S
def f_X11_putGlass (G : Gm) (v0 : Nat) (v1 : Int32) (v2 : Int32) (Q : St → Prop) (S : St) : Prop :=
  f_X11_putGlass_5 G v0 v1 v2 Q 0 v2 S
def f_X11_clothNow (G : Gm) (v0 : Nat) (v1 : Int32) (Q : Int32 → St → Prop) (S : St) : Prop :=
  f_X11_isPerson G v0 v1 (fun r2 S1 => (if r2 = 0 then Q (-2) S1 else f_X11_lensesOf G v0 v1 (fun r5 S4 => (if r5 = 0 then Q (-3) S4 else f_X11_remember G v0 3 (fun S7 => f_X11_putGlass G v0 v1 0 (fun S8 => Q r5 S8) S7) S4)) S1)) S
def f_X11_growsOf (G : Gm) (v0 : Nat) (v1 : Int32) (v2 : Int32) (Q : Int32 → St → Prop) (S : St) : Prop :=
  f_X11_tells G v0 1 v1 v2 (-1) 0 (fun r2 S1 => f_X11_within G r2 (-8) 8 (fun r4 S3 => Q r4 S3) S1) S
def f_X11_passIt_38_n (G : Gm) (v0 : Nat) (Q : St → Prop) : Nat → Int32 → St → Prop
  | 0, _, _ => False
  | n + 1, v1, S => (∃ a1, S.2.2 v0 4 = some a1 ∧ (vp_in 0 (G.2.1 a1) ∧ (if (4 * (S.1 a1 (0 : Int32).toNatClampNeg)) ≤ v1 then (∃ a4, S.2.2 v0 4 = some a4 ∧ (vp_in 4 (G.2.1 a4) ∧ (vp_in 4 (G.2.1 a4) ∧ ∀ S7, S7 = uI S a4 (4 : Int32).toNatClampNeg ((S.1 a4 (4 : Int32).toNatClampNeg) + 1) → Q S7))) else (∃ a8, S.2.2 v0 4 = some a8 ∧ (∃ a9, S.2.2 v0 4 = some a9 ∧ (vp_in (8 + v1) (G.2.1 a9) ∧ (∃ a11, S.2.2 v0 44 = some a11 ∧ (vp_in v1 (G.2.1 a11) ∧ f_X11_within G (((S.1 a9 (8 + v1).toNatClampNeg) + (S.1 a11 v1.toNatClampNeg)).toInt64) 0 8 (fun r14 S13 => (vp_in (8 + v1) (G.2.1 a8) ∧ ∀ S16, S16 = uI S13 a8 (8 + v1).toNatClampNeg r14 → (f_X11_passIt_38_n G v0 Q n) (v1 + 1) S16)) S))))))))
def f_X11_passIt_38 (G : Gm) (v0 : Nat) (Q : St → Prop) (v1 : Int32) (S : St) : Prop := ∃ n, f_X11_passIt_38_n G v0 Q n v1 S
def f_X11_passIt_2_n (G : Gm) (v0 : Nat) (Q : St → Prop) : Nat → Int32 → St → Prop
  | 0, _, _ => False
  | n + 1, v1, S => (∃ a1, S.2.2 v0 4 = some a1 ∧ (vp_in 0 (G.2.1 a1) ∧ (if (4 * (S.1 a1 (0 : Int32).toNatClampNeg)) ≤ v1 then f_X11_passIt_38 G v0 Q 0 S else (∃ a4, S.2.2 v0 44 = some a4 ∧ f_X11_growsOf G v0 (v1 / 4) (v1 - v1 / 4 * 4) (fun r6 S5 => (vp_in v1 (G.2.1 a4) ∧ ∀ S8, S8 = uI S5 a4 v1.toNatClampNeg r6 → (f_X11_passIt_2_n G v0 Q n) (v1 + 1) S8)) S))))
def f_X11_passIt_2 (G : Gm) (v0 : Nat) (Q : St → Prop) (v1 : Int32) (S : St) : Prop := ∃ n, f_X11_passIt_2_n G v0 Q n v1 S
def f_X11_passIt (G : Gm) (v0 : Nat) (Q : St → Prop) (S : St) : Prop :=
  f_X11_passIt_2 G v0 Q 0 S
def f_X11_passNow (G : Gm) (v0 : Nat) (Q : Int32 → St → Prop) (S : St) : Prop :=
  (∃ a1, S.2.2 v0 4 = some a1 ∧ (vp_in 4 (G.2.1 a1) ∧ (if (S.1 a1 (4 : Int32).toNatClampNeg) = 999 then Q (-3) S else f_X11_remember G v0 4 (fun S4 => f_X11_passIt G v0 (fun S5 => (∃ a6, S5.2.2 v0 4 = some a6 ∧ (vp_in 4 (G.2.1 a6) ∧ Q (S5.1 a6 (4 : Int32).toNatClampNeg) S5))) S4) S)))
def f_X11_act (G : Gm) (v0 : Nat) (v1 : Int32) (v2 : Int32) (v3 : Int32) (Q : Int32 → St → Prop) (S : St) : Prop :=
  (if v1 = 0 then f_X11_sinNow G v0 v2 v3 1 (fun r2 S1 => Q r2 S1) S else (if v1 = 1 then f_X11_swapNow G v0 v2 v3 (fun r4 S3 => Q r4 S3) S else (if v1 = 2 then f_X11_grindNow G v0 v2 (fun r6 S5 => Q r6 S5) S else (if v1 = 3 then f_X11_clothNow G v0 v2 (fun r8 S7 => Q r8 S7) S else f_X11_passNow G v0 (fun r10 S9 => Q r10 S9) S))))
def f_X11_alike_19_n (G : Gm) (v0 : Nat) (v1 : Int32) (Q : Int32 → St → Prop) : Nat → Int32 → Int32 → St → Prop
  | 0, _, _, _ => False
  | n + 1, v2, v3, S => (∃ a1, S.2.2 v0 4 = some a1 ∧ (vp_in 0 (G.2.1 a1) ∧ (if (S.1 a1 (0 : Int32).toNatClampNeg) ≤ v3 then Q v2 S else f_X11_sightOf G v0 v3 (fun r5 S4 => f_X11_sightOf G v0 v1 (fun r7 S6 => (if r5 = r7 then (∀ x10 : Int32, x10 = v2 + 1 → (f_X11_alike_19_n G v0 v1 Q n) x10 (v3 + 1) S6) else (∀ x9 : Int32, x9 = v2 + 0 → (f_X11_alike_19_n G v0 v1 Q n) x9 (v3 + 1) S6))) S4) S)))
def f_X11_alike_19 (G : Gm) (v0 : Nat) (v1 : Int32) (Q : Int32 → St → Prop) (v2 : Int32) (v3 : Int32) (S : St) : Prop := ∃ n, f_X11_alike_19_n G v0 v1 Q n v2 v3 S
def f_X11_alike (G : Gm) (v0 : Nat) (v1 : Int32) (Q : Int32 → St → Prop) (S : St) : Prop :=
  (∀ S1, S1 = uI S v0 0 0 → f_X11_isPerson G v0 v1 (fun r3 S2 => (if r3 = 0 then Q (-1) S2 else f_X11_alike_19 G v0 v1 Q 0 0 S2)) S1)
def f_X11_allSee_4_n (G : Gm) (v0 : Nat) (v1 : Int32) (Q : Int32 → St → Prop) : Nat → Int32 → Int32 → St → Prop
  | 0, _, _, _ => False
  | n + 1, v2, v3, S => (∃ a1, S.2.2 v0 4 = some a1 ∧ (vp_in 1 (G.2.1 a1) ∧ (if (S.1 a1 (1 : Int32).toNatClampNeg) ≤ v3 then ((v2 = 0 ∨ v2 = 1) ∧ Q v2 S) else (if v2 = 0 then ((v2 = 0 ∨ v2 = 1) ∧ Q v2 S) else (∃ a5, S.2.2 v0 4 = some a5 ∧ (vp_in (68 + (2 * v3)) (G.2.1 a5) ∧ f_X11_through G v0 (S.1 a5 (68 + (2 * v3)).toNatClampNeg) v1 (fun r8 S7 => (∃ a9, S7.2.2 v0 4 = some a9 ∧ (vp_in ((68 + (2 * v3)) + 1) (G.2.1 a9) ∧ (if r8 = (S7.1 a9 ((68 + (2 * v3)) + 1).toNatClampNeg) then (f_X11_allSee_4_n G v0 v1 Q n) 1 (v3 + 1) S7 else (f_X11_allSee_4_n G v0 v1 Q n) 0 (v3 + 1) S7)))) S))))))
def f_X11_allSee_4 (G : Gm) (v0 : Nat) (v1 : Int32) (Q : Int32 → St → Prop) (v2 : Int32) (v3 : Int32) (S : St) : Prop := ∃ n, f_X11_allSee_4_n G v0 v1 Q n v2 v3 S
def f_X11_allSee (G : Gm) (v0 : Nat) (v1 : Int32) (Q : Int32 → St → Prop) (S : St) : Prop :=
  f_X11_allSee_4 G v0 v1 Q 1 0 S
