def f_X11_remember_77 (G : Gm) (v0 : Nat) (v1 : Int32) (Q : St → Prop) (S : St) : Prop :=
  f_X11_keepAll G v0 (S.1 v0 9) (fun S1 => (∃ a2, S1.2.2 v0 8 = some a2 ∧ (vp_in (S1.1 v0 9) (G.2.1 a2) ∧ ∀ S4, S4 = uI S1 a2 (S1.1 v0 9).toNatClampNeg v1 → (∀ S5, S5 = uI S4 v0 9 ((S4.1 v0 9) + 1) → Q S5)))) S
def f_X11_remember_41_n (G : Gm) (v0 : Nat) (v1 : Int32) (Q : St → Prop) : Nat → Int32 → St → Prop
  | 0, _, _ => False
  | n + 1, v2, S => (if 15 ≤ v2 then (∀ S2, S2 = uI S v0 9 ((S.1 v0 9) - 1) → f_X11_remember_77 G v0 v1 Q S2) else (∃ a3, S.2.2 v0 8 = some a3 ∧ (∃ a4, S.2.2 v0 8 = some a4 ∧ (vp_in (v2 + 1) (G.2.1 a4) ∧ (vp_in v2 (G.2.1 a3) ∧ ∀ S7, S7 = uI S a3 v2.toNatClampNeg (S.1 a4 (v2 + 1).toNatClampNeg) → (f_X11_remember_41_n G v0 v1 Q n) (v2 + 1) S7)))))
def f_X11_remember_41 (G : Gm) (v0 : Nat) (v1 : Int32) (Q : St → Prop) (v2 : Int32) (S : St) : Prop := ∃ n, f_X11_remember_41_n G v0 v1 Q n v2 S
def f_X11_remember_11_n (G : Gm) (v0 : Nat) (v1 : Int32) (Q : St → Prop) : Nat → Int32 → St → Prop
  | 0, _, _ => False
  | n + 1, v2, S => (if 870 ≤ v2 then f_X11_remember_41 G v0 v1 Q 0 S else (∃ a2, S.2.2 v0 7 = some a2 ∧ (∃ a3, S.2.2 v0 7 = some a3 ∧ (vp_in (v2 + 58) (G.2.1 a3) ∧ (vp_in v2 (G.2.1 a2) ∧ ∀ S6, S6 = uI S a2 v2.toNatClampNeg (S.1 a3 (v2 + 58).toNatClampNeg) → (f_X11_remember_11_n G v0 v1 Q n) (v2 + 1) S6)))))
def f_X11_remember_11 (G : Gm) (v0 : Nat) (v1 : Int32) (Q : St → Prop) (v2 : Int32) (S : St) : Prop := ∃ n, f_X11_remember_11_n G v0 v1 Q n v2 S
def f_X11_remember (G : Gm) (v0 : Nat) (v1 : Int32) (Q : St → Prop) (S : St) : Prop :=
  (if (S.1 v0 9) = 16 then f_X11_remember_11 G v0 v1 Q 0 S else f_X11_remember_77 G v0 v1 Q S)
def f_X11_sinNow (G : Gm) (v0 : Nat) (v1 : Int32) (v2 : Int32) (v3 : Int32) (Q : Int32 → St → Prop) (S : St) : Prop :=
  f_X11_isKind G v2 (fun r2 S1 => (if r2 = 0 then Q (-1) S1 else f_X11_in G v3.toInt64 (-8) 8 (fun r5 S4 => (if r5 = 0 then Q (-1) S4 else f_X11_isPerson G v0 v1 (fun r8 S7 => (if r8 = 0 then Q (-2) S7 else (∃ a10, S7.2.2 v0 4 = some a10 ∧ (vp_in ((8 + (4 * v1)) + v2) (G.2.1 a10) ∧ (∀ x12 : Int32, x12 = (S7.1 a10 ((8 + (4 * v1)) + v2).toNatClampNeg) + v3 → f_X11_in G x12.toInt64 0 8 (fun r14 S13 => (if r14 = 0 then Q (-3) S13 else f_X11_remember G v0 0 (fun S16 => (∃ a17, S16.2.2 v0 4 = some a17 ∧ (vp_in ((8 + (4 * v1)) + v2) (G.2.1 a17) ∧ ∀ S19, S19 = uI S16 a17 ((8 + (4 * v1)) + v2).toNatClampNeg x12 → Q x12 S19))) S13)) S7))))) S4)) S1)) S
def f_X11_exchange_2_n (G : Gm) (v0 : Nat) (v1 : Int32) (v2 : Int32) (Q : St → Prop) : Nat → Int32 → St → Prop
  | 0, _, _ => False
  | n + 1, v3, S => (if 5 ≤ v3 then Q S else (∃ a2, S.2.2 v0 4 = some a2 ∧ (vp_in ((32 + (5 * v1)) + v3) (G.2.1 a2) ∧ (∀ x4 : Int32, x4 = S.1 a2 ((32 + (5 * v1)) + v3).toNatClampNeg → (∃ a5, S.2.2 v0 4 = some a5 ∧ (∃ a6, S.2.2 v0 4 = some a6 ∧ (vp_in ((32 + (5 * v2)) + v3) (G.2.1 a6) ∧ (vp_in ((32 + (5 * v1)) + v3) (G.2.1 a5) ∧ ∀ S9, S9 = uI S a5 ((32 + (5 * v1)) + v3).toNatClampNeg (S.1 a6 ((32 + (5 * v2)) + v3).toNatClampNeg) → (∃ a10, S9.2.2 v0 4 = some a10 ∧ (vp_in ((32 + (5 * v2)) + v3) (G.2.1 a10) ∧ ∀ S12, S12 = uI S9 a10 ((32 + (5 * v2)) + v3).toNatClampNeg x4 → (f_X11_exchange_2_n G v0 v1 v2 Q n) (v3 + 1) S12))))))))))
def f_X11_exchange_2 (G : Gm) (v0 : Nat) (v1 : Int32) (v2 : Int32) (Q : St → Prop) (v3 : Int32) (S : St) : Prop := ∃ n, f_X11_exchange_2_n G v0 v1 v2 Q n v3 S
def f_X11_exchange (G : Gm) (v0 : Nat) (v1 : Int32) (v2 : Int32) (Q : St → Prop) (S : St) : Prop :=
  f_X11_exchange_2 G v0 v1 v2 Q 0 S
def f_X11_lensesOf (G : Gm) (v0 : Nat) (v1 : Int32) (Q : Int32 → St → Prop) (S : St) : Prop :=
  (∃ a1, S.2.2 v0 4 = some a1 ∧ (vp_in (32 + (5 * v1)) (G.2.1 a1) ∧ Q (S.1 a1 (32 + (5 * v1)).toNatClampNeg) S))
def f_X11_swapNow (G : Gm) (v0 : Nat) (v1 : Int32) (v2 : Int32) (Q : Int32 → St → Prop) (S : St) : Prop :=
  (if v1 = v2 then Q (-1) S else f_X11_isPerson G v0 v1 (fun r3 S2 => (if r3 = 0 then Q (-2) S2 else f_X11_isPerson G v0 v2 (fun r6 S5 => (if r6 = 0 then Q (-2) S5 else f_X11_remember G v0 2 (fun S8 => f_X11_exchange G v0 v1 v2 (fun S9 => f_X11_lensesOf G v0 v1 (fun r11 S10 => f_X11_lensesOf G v0 v2 (fun r13 S12 => Q (r11 + r13) S12) S10) S9) S8) S5)) S2)) S)
def f_X11_through_5_n (G : Gm) (v0 : Nat) (v1 : Int32) (Q : Int32 → St → Prop) : Nat → Int32 → Int32 → St → Prop
  | 0, _, _, _ => False
  | n + 1, v3, v4, S => f_X11_lensesOf G v0 v1 (fun r2 S1 => (if r2 ≤ v4 then Q v3 S1 else (∃ a4, S1.2.2 v0 3 = some a4 ∧ (∃ a5, S1.2.2 v0 4 = some a5 ∧ (vp_in (((32 + (5 * v1)) + 1) + v4) (G.2.1 a5) ∧ (vp_in ((256 * (S1.1 a5 (((32 + (5 * v1)) + 1) + v4).toNatClampNeg)) + v3) (G.2.1 a4) ∧ (∀ x8 : Int32, x8 = S1.1 a4 ((256 * (S1.1 a5 (((32 + (5 * v1)) + 1) + v4).toNatClampNeg)) + v3).toNatClampNeg → (f_X11_through_5_n G v0 v1 Q n) x8 (v4 + 1) S1))))))) S
def f_X11_through_5 (G : Gm) (v0 : Nat) (v1 : Int32) (Q : Int32 → St → Prop) (v3 : Int32) (v4 : Int32) (S : St) : Prop := ∃ n, f_X11_through_5_n G v0 v1 Q n v3 v4 S
def f_X11_through (G : Gm) (v0 : Nat) (v1 : Int32) (v2 : Int32) (Q : Int32 → St → Prop) (S : St) : Prop :=
  f_X11_through_5 G v0 v1 Q v2 0 S
def f_X11_sightOf (G : Gm) (v0 : Nat) (v1 : Int32) (Q : Int32 → St → Prop) (S : St) : Prop :=
  (∃ a1, S.2.2 v0 4 = some a1 ∧ (vp_in 7 (G.2.1 a1) ∧ f_X11_through G v0 v1 (S.1 a1 (7 : Int32).toNatClampNeg) (fun r4 S3 => Q r4 S3) S))
def f_X11_sinsOf_4_n (G : Gm) (v0 : Nat) (v1 : Int32) (Q : Int32 → St → Prop) : Nat → Int32 → Int32 → St → Prop
  | 0, _, _, _ => False
  | n + 1, v2, v3, S => (if 4 ≤ v3 then Q v2 S else (∃ a2, S.2.2 v0 4 = some a2 ∧ (vp_in ((8 + (4 * v1)) + v3) (G.2.1 a2) ∧ (∀ x4 : Int32, x4 = v2 + (S.1 a2 ((8 + (4 * v1)) + v3).toNatClampNeg) → (f_X11_sinsOf_4_n G v0 v1 Q n) x4 (v3 + 1) S))))
def f_X11_sinsOf_4 (G : Gm) (v0 : Nat) (v1 : Int32) (Q : Int32 → St → Prop) (v2 : Int32) (v3 : Int32) (S : St) : Prop := ∃ n, f_X11_sinsOf_4_n G v0 v1 Q n v2 v3 S
def f_X11_sinsOf (G : Gm) (v0 : Nat) (v1 : Int32) (Q : Int32 → St → Prop) (S : St) : Prop :=
  f_X11_sinsOf_4 G v0 v1 Q 0 0 S
def f_X11_litOf_4_n (G : Gm) (v0 : Int32) (Q : Int32 → St → Prop) : Nat → Int32 → Int32 → St → Prop
  | 0, _, _, _ => False
  | n + 1, v1, v2, S => (if 8 ≤ v2 then Q v1 S else (∀ x2 : Int32, x2 = v1 + ((v0 >>> ((v2 : Int32) &&& 31)) &&& 1) → (f_X11_litOf_4_n G v0 Q n) x2 (v2 + 1) S))
def f_X11_litOf_4 (G : Gm) (v0 : Int32) (Q : Int32 → St → Prop) (v1 : Int32) (v2 : Int32) (S : St) : Prop := ∃ n, f_X11_litOf_4_n G v0 Q n v1 v2 S
def f_X11_litOf (G : Gm) (v0 : Int32) (Q : Int32 → St → Prop) (S : St) : Prop :=
  f_X11_litOf_4 G v0 Q 0 0 S
def f_X11_is (G : Gm) (v0 : Int32) (v1 : Int32) (Q : Int32 → St → Prop) (S : St) : Prop :=
  (if ((v0 >>> ((v1 : Int32) &&& 31)) &&& 1) = 1 then Q 1 S else Q 0 S)
def f_X11_firstOf_2_n (G : Gm) (v0 : Int32) (Q : Int32 → St → Prop) : Nat → Int32 → St → Prop
  | 0, _, _ => False
  | n + 1, v1, S => (if 8 ≤ v1 then Q v1 S else f_X11_is G v0 v1 (fun r3 S2 => (if r3 = 0 then (f_X11_firstOf_2_n G v0 Q n) (v1 + 1) S2 else Q v1 S2)) S)
def f_X11_firstOf_2 (G : Gm) (v0 : Int32) (Q : Int32 → St → Prop) (v1 : Int32) (S : St) : Prop := ∃ n, f_X11_firstOf_2_n G v0 Q n v1 S
def f_X11_firstOf (G : Gm) (v0 : Int32) (Q : Int32 → St → Prop) (S : St) : Prop :=
  f_X11_firstOf_2 G v0 Q 0 S
def f_X11_reckon_104 (G : Gm) (v0 : Nat) (v2 : Int64) (v4 : Int64) (u0 : Int32) (u1 : Nat) (Q : Int64 → St → Prop) (S : St) : Prop :=
  ((u0 = 0 ∨ u0 = 1) ∧ ∀ S1, S1 = uI S u1 40 u0 → (if (S1.1 v0 40) = 0 then (¬ v4 = 0 ∧ Q (v2 - v2 / v4 * v4) S1) else Q 0 S1))
def f_X11_reckon_72 (G : Gm) (v0 : Nat) (v2 : Int64) (v4 : Int64) (u0 : Int32) (u1 : Nat) (Q : Int64 → St → Prop) (S : St) : Prop :=
  ((u0 = 0 ∨ u0 = 1) ∧ ∀ S1, S1 = uI S u1 40 u0 → (if (S1.1 v0 40) = 0 then (¬ v4 = 0 ∧ Q (v2 / v4) S1) else Q 0 S1))
def f_X11_reckon (G : Gm) (v0 : Nat) (v1 : Int32) (v2 : Int64) (v4 : Int64) (Q : Int64 → St → Prop) (S : St) : Prop :=
  (if v1 = 20 then Q (v2 + v4) S else (if v1 = 21 then Q (v2 - v4) S else (if v1 = 22 then Q (v2 * v4) S else (if v1 = 23 then (if (lg_cmp v4 0) = 0 then f_X11_reckon_72 G v0 v2 v4 1 v0 Q S else f_X11_reckon_72 G v0 v2 v4 0 v0 Q S) else (if v1 = 24 then (if (lg_cmp v4 0) = 0 then f_X11_reckon_104 G v0 v2 v4 1 v0 Q S else f_X11_reckon_104 G v0 v2 v4 0 v0 Q S) else (if v1 = 25 then (if 0 ≤ (lg_cmp v2 v4) then Q 0 S else Q 1 S) else (if v1 = 26 then (if (lg_cmp v2 v4) ≤ 0 then Q 0 S else Q 1 S) else (if (lg_cmp v2 v4) = 0 then Q 1 S else Q 0 S))))))))
def f_X11_reckonAll_376 (G : Gm) (u0 : Int64) (u1 : Nat) (Q : St → Prop) (S : St) : Prop :=
  (∀ S1, S1 = uJ S u1 41 u0 → Q S1)
def f_X11_reckonAll_361 (G : Gm) (v0 : Nat) (v3 : Int32) (Q : St → Prop) (S : St) : Prop :=
  (if v3 ≤ 0 then f_X11_reckonAll_376 G 0 v0 Q S else (∃ a2, S.2.2 v0 39 = some a2 ∧ (vp_in 0 (G.2.1 a2) ∧ f_X11_reckonAll_376 G (S.2.1 a2 (0 : Int32).toNatClampNeg) v0 Q S)))
def f_X11_reckonAll_344 (G : Gm) (k10 : Int32 → Int32 → St → Prop) (v0 : Nat) (v2 : Int32) (v3 : Int32) (v4 : Int32) (v6 : Int32) (u0 : Int64) (u1 : Int64) (Q : St → Prop) (S : St) : Prop :=
  (if (lg_cmp u1 u0) = 0 then k10 v3 v6 S else k10 (v3 + (-1)) v4 S)
def f_X11_reckonAll_290 (G : Gm) (k10 : Int32 → Int32 → St → Prop) (v0 : Nat) (v2 : Int32) (v3 : Int32) (v4 : Int32) (u0 : Int32) (u1 : Nat) (Q : St → Prop) (S : St) : Prop :=
  ((u0 = 0 ∨ u0 = 1) ∧ ∀ S1, S1 = uI S u1 40 u0 → k10 v3 v4 S1)
def f_X11_reckonAll_285 (G : Gm) (k10 : Int32 → Int32 → St → Prop) (v0 : Nat) (v2 : Int32) (v3 : Int32) (v4 : Int32) (u0 : Nat) (Q : St → Prop) (S : St) : Prop :=
  f_X11_reckonAll_290 G k10 v0 v2 v3 v4 1 u0 Q S
def f_X11_reckonAll_212 (G : Gm) (k10 : Int32 → Int32 → St → Prop) (v0 : Nat) (v2 : Int32) (v3 : Int32) (v4 : Int32) (u0 : Int64) (u1 : Int32) (u2 : Nat) (Q : St → Prop) (S : St) : Prop :=
  (vp_in u1 (G.2.1 u2) ∧ ∀ S2, S2 = uJ S u2 u1.toNatClampNeg u0 → k10 (v3 + 1) v4 S2)
def f_X11_reckonAll_95 (G : Gm) (k10 : Int32 → Int32 → St → Prop) (v0 : Nat) (v2 : Int32) (v3 : Int32) (v4 : Int32) (v5 : Int32) (u0 : Int32) (Q : St → Prop) (S : St) : Prop :=
  (if 20 ≤ v5 then (if 28 ≤ v5 then (if v5 = 28 then (∃ a7, S.2.2 v0 39 = some a7 ∧ (∃ a8, S.2.2 v0 39 = some a8 ∧ (vp_in (v3 - 1) (G.2.1 a8) ∧ (vp_in (v3 - 1) (G.2.1 a7) ∧ ∀ S11, S11 = uJ S a7 (v3 - 1).toNatClampNeg (1 - (S.2.1 a8 (v3 - 1).toNatClampNeg)) → k10 v3 (v4 + 1) S11)))) else (∃ a4, S.2.2 v0 39 = some a4 ∧ (vp_in (v3 - 1) (G.2.1 a4) ∧ (if v5 = 29 then f_X11_reckonAll_344 G k10 v0 v2 v3 (v4 + 1) u0 0 (S.2.1 a4 (v3 - 1).toNatClampNeg) Q S else f_X11_reckonAll_344 G k10 v0 v2 v3 (v4 + 1) u0 1 (S.2.1 a4 (v3 - 1).toNatClampNeg) Q S)))) else (∃ a12, S.2.2 v0 39 = some a12 ∧ (∃ a13, S.2.2 v0 39 = some a13 ∧ (vp_in ((v3 + (-1)) - 1) (G.2.1 a13) ∧ (∃ a15, S.2.2 v0 39 = some a15 ∧ (vp_in (v3 + (-1)) (G.2.1 a15) ∧ f_X11_reckon G v0 v5 (S.2.1 a13 ((v3 + (-1)) - 1).toNatClampNeg) (S.2.1 a15 (v3 + (-1)).toNatClampNeg) (fun r18 S17 => (vp_in ((v3 + (-1)) - 1) (G.2.1 a12) ∧ ∀ S20, S20 = uJ S17 a12 ((v3 + (-1)) - 1).toNatClampNeg r18 → (if (S20.1 v0 40) = 0 then (∃ a22, S20.2.2 v0 39 = some a22 ∧ (vp_in ((v3 + (-1)) - 1) (G.2.1 a22) ∧ f_X11_in G (S20.2.1 a22 ((v3 + (-1)) - 1).toNatClampNeg) (-1000000000) 1000000000 (fun r25 S24 => (if r25 = 0 then f_X11_reckonAll_285 G k10 v0 v2 (v3 + (-1)) (v4 + 1) v0 Q S24 else f_X11_reckonAll_290 G k10 v0 v2 (v3 + (-1)) (v4 + 1) 0 v0 Q S24)) S20)) else f_X11_reckonAll_285 G k10 v0 v2 (v3 + (-1)) (v4 + 1) v0 Q S20))) S)))))) else (∃ a27, S.2.2 v0 39 = some a27 ∧ (if v5 = 0 then f_X11_reckonAll_212 G k10 v0 v2 v3 (v4 + 1) u0.toInt64 v3 a27 Q S else (if (S.1 v0 21) = 0 then (∃ a44, S.2.2 v0 36 = some a44 ∧ (vp_in v5 (G.2.1 a44) ∧ f_X11_reckonAll_212 G k10 v0 v2 v3 (v4 + 1) (S.2.1 a44 v5.toNatClampNeg) v3 a27 Q S)) else (if 5 ≤ v5 then f_X11_isPerson G v0 u0 (fun r32 S31 => (if r32 = 0 then f_X11_reckonAll_212 G k10 v0 v2 v3 (v4 + 1) (-1) v3 a27 Q S31 else (if v5 = 5 then f_X11_sinsOf G v0 u0 (fun r41 S40 => f_X11_reckonAll_212 G k10 v0 v2 v3 (v4 + 1) r41.toInt64 v3 a27 Q S40) S31 else (if v5 = 6 then f_X11_sightOf G v0 u0 (fun r39 S38 => f_X11_reckonAll_212 G k10 v0 v2 v3 (v4 + 1) r39.toInt64 v3 a27 Q S38) S31 else (∃ a36, S31.2.2 v0 38 = some a36 ∧ (vp_in u0 (G.2.1 a36) ∧ f_X11_reckonAll_212 G k10 v0 v2 v3 (v4 + 1) ((S31.1 a36 u0.toNatClampNeg).toInt64) v3 a27 Q S31)))))) S else (∃ a42, S.2.2 v0 37 = some a42 ∧ (vp_in v5 (G.2.1 a42) ∧ f_X11_reckonAll_212 G k10 v0 v2 v3 (v4 + 1) (S.2.1 a42 v5.toNatClampNeg) v3 a27 Q S)))))))
def f_X11_reckonAll_57 (G : Gm) (k10 : Int32 → Int32 → St → Prop) (v0 : Nat) (v2 : Int32) (v3 : Int32) (v4 : Int32) (u0 : Int32) (Q : St → Prop) (S : St) : Prop :=
  (if (S.1 v0 21) = 0 then (∃ a2, S.2.2 v0 4 = some a2 ∧ (vp_in ((((S.1 v0 35) + 98) + (2 * v4)) + 1) (G.2.1 a2) ∧ f_X11_reckonAll_95 G k10 v0 v2 v3 v4 u0 (S.1 a2 ((((S.1 v0 35) + 98) + (2 * v4)) + 1).toNatClampNeg) Q S)) else (∃ a4, S.2.2 v0 26 = some a4 ∧ (vp_in v4 (G.2.1 a4) ∧ f_X11_reckonAll_95 G k10 v0 v2 v3 v4 u0 (S.1 a4 v4.toNatClampNeg) Q S)))
def f_X11_reckonAll_10_n (G : Gm) (v0 : Nat) (v2 : Int32) (Q : St → Prop) : Nat → Int32 → Int32 → St → Prop
  | 0, _, _, _ => False
  | n + 1, v3, v4, S => (if v2 ≤ v4 then f_X11_reckonAll_361 G v0 v3 Q S else (if (S.1 v0 40) = 0 then (if (S.1 v0 21) = 0 then (∃ a4, S.2.2 v0 4 = some a4 ∧ (vp_in (((S.1 v0 35) + 98) + (2 * v4)) (G.2.1 a4) ∧ f_X11_reckonAll_57 G (f_X11_reckonAll_10_n G v0 v2 Q n) v0 v2 v3 v4 (S.1 a4 (((S.1 v0 35) + 98) + (2 * v4)).toNatClampNeg) Q S)) else (∃ a6, S.2.2 v0 25 = some a6 ∧ (vp_in v4 (G.2.1 a6) ∧ f_X11_reckonAll_57 G (f_X11_reckonAll_10_n G v0 v2 Q n) v0 v2 v3 v4 (S.1 a6 v4.toNatClampNeg) Q S))) else f_X11_reckonAll_361 G v0 v3 Q S))
def f_X11_reckonAll_10 (G : Gm) (v0 : Nat) (v2 : Int32) (Q : St → Prop) (v3 : Int32) (v4 : Int32) (S : St) : Prop := ∃ n, f_X11_reckonAll_10_n G v0 v2 Q n v3 v4 S
def f_X11_reckonAll (G : Gm) (v0 : Nat) (v1 : Int32) (v2 : Int32) (Q : St → Prop) (S : St) : Prop :=
  (∀ S1, S1 = uI S v0 40 0 → f_X11_reckonAll_10 G v0 v2 Q 0 v1 S1)
def f_X11_isSo_59 (G : Gm) (v0 : Nat) (v1 : Int32) (Q : Int32 → St → Prop) (S : St) : Prop :=
  (∃ a1, S.2.2 v0 4 = some a1 ∧ (vp_in v1 (G.2.1 a1) ∧ (if (S.1 a1 v1.toNatClampNeg) = 3 then Q 1 S else (∃ a4, S.2.2 v0 4 = some a4 ∧ (vp_in (v1 + 3) (G.2.1 a4) ∧ (∃ a6, S.2.2 v0 4 = some a6 ∧ (vp_in (v1 + 4) (G.2.1 a6) ∧ f_X11_reckonAll G v0 (S.1 a4 (v1 + 3).toNatClampNeg) (S.1 a6 (v1 + 4).toNatClampNeg) (fun S8 => (∀ S9, S9 = uJ S8 v0 42 (S8.2.1 v0 41) → (if (S9.1 v0 40) = 0 then Q 1 S9 else Q 0 S9))) S)))))))
def f_X11_isSo (G : Gm) (v0 : Nat) (v1 : Int32) (Q : Int32 → St → Prop) (S : St) : Prop :=
  (∃ a1, S.2.2 v0 4 = some a1 ∧ (vp_in (v1 + 5) (G.2.1 a1) ∧ (∃ a3, S.2.2 v0 4 = some a3 ∧ (vp_in (v1 + 6) (G.2.1 a3) ∧ (if (S.1 a3 (v1 + 6).toNatClampNeg) ≤ (S.1 a1 (v1 + 5).toNatClampNeg) then f_X11_isSo_59 G v0 v1 Q S else (∃ a6, S.2.2 v0 4 = some a6 ∧ (vp_in (v1 + 5) (G.2.1 a6) ∧ (∃ a8, S.2.2 v0 4 = some a8 ∧ (vp_in (v1 + 6) (G.2.1 a8) ∧ f_X11_reckonAll G v0 (S.1 a6 (v1 + 5).toNatClampNeg) (S.1 a8 (v1 + 6).toNatClampNeg) (fun S10 => (if (S10.1 v0 40) = 0 then (if (lg_cmp (S10.2.1 v0 41) 0) = 0 then Q 0 S10 else f_X11_isSo_59 G v0 v1 Q S10) else Q 0 S10)) S)))))))))
