def f_X11_nextLens_2_n (G : Gm) (v0 : Nat) (v1 : Int32) (Q : Int32 → St → Prop) : Nat → Int32 → St → Prop
  | 0, _, _ => False
  | n + 1, v2, S => (∃ a1, S.2.2 v0 45 = some a1 ∧ (∃ a2, S.2.2 v0 3 = some a2 ∧ (vp_in ((256 * v2) + v1) (G.2.1 a2) ∧ (vp_in (S.1 a2 ((256 * v2) + v1).toNatClampNeg) (G.2.1 a1) ∧ (∃ a5, S.2.2 v0 45 = some a5 ∧ (vp_in v1 (G.2.1 a5) ∧ (if ((S.1 a1 (S.1 a2 ((256 * v2) + v1).toNatClampNeg).toNatClampNeg) + 1) = (S.1 a5 v1.toNatClampNeg) then Q v2 S else (f_X11_nextLens_2_n G v0 v1 Q n) (v2 + 1) S)))))))
def f_X11_nextLens_2 (G : Gm) (v0 : Nat) (v1 : Int32) (Q : Int32 → St → Prop) (v2 : Int32) (S : St) : Prop := ∃ n, f_X11_nextLens_2_n G v0 v1 Q n v2 S
def f_X11_nextLens (G : Gm) (v0 : Nat) (v1 : Int32) (Q : Int32 → St → Prop) (S : St) : Prop :=
  f_X11_nextLens_2 G v0 v1 Q 0 S
def f_X11_cure_65_n (G : Gm) (v0 : Nat) (v2 : Int32) (Q : Int32 → St → Prop) : Nat → Int32 → Int32 → St → Prop
  | 0, _, _, _ => False
  | n + 1, v3, v5, S => (if v2 ≤ v5 then f_X11_nextLens G v0 v3 (fun r3 S2 => Q r3 S2) S else (∃ a4, S.2.2 v0 3 = some a4 ∧ f_X11_nextLens G v0 v3 (fun r6 S5 => (vp_in ((256 * r6) + v3) (G.2.1 a4) ∧ (∀ x8 : Int32, x8 = S5.1 a4 ((256 * r6) + v3).toNatClampNeg → (f_X11_cure_65_n G v0 v2 Q n) x8 (v5 + 1) S5))) S))
def f_X11_cure_65 (G : Gm) (v0 : Nat) (v2 : Int32) (Q : Int32 → St → Prop) (v3 : Int32) (v5 : Int32) (S : St) : Prop := ∃ n, f_X11_cure_65_n G v0 v2 Q n v3 v5 S
def f_X11_cure (G : Gm) (v0 : Nat) (v1 : Int32) (v2 : Int32) (Q : Int32 → St → Prop) (S : St) : Prop :=
  (∀ S1, S1 = uI S v0 0 0 → f_X11_isPerson G v0 v1 (fun r3 S2 => (if r3 = 0 then Q (-1) S2 else (if (-1) ≤ v2 then f_X11_layCures G v0 (fun S6 => f_X11_sightOf G v0 v1 (fun r8 S7 => (∃ a9, S7.2.2 v0 45 = some a9 ∧ (vp_in r8 (G.2.1 a9) ∧ (∀ x11 : Int32, x11 = S7.1 a9 r8.toNatClampNeg → (if 100000000 ≤ x11 then Q (-1) S7 else (if v2 < x11 then (if v2 = (-1) then Q x11 S7 else f_X11_cure_65 G v0 v2 Q r8 0 S7) else Q (-1) S7)))))) S6) S2 else Q (-1) S2))) S1)
def f_X11_doesOf (G : Gm) (v0 : Nat) (v1 : Int32) (v2 : Int32) (Q : Int32 → St → Prop) (S : St) : Prop :=
  f_X11_litOf G v2 (fun r2 S1 => f_X11_tells G v0 2 v1 (-1) v2 ((r2 - r2 / 4 * 4).toInt64) (fun r4 S3 => f_X11_within G r4 0 3 (fun r6 S5 => Q r6 S5) S3) S1) S
def f_X11_draw (G : Gm) (v0 : Nat) (v1 : Int32) (Q : Int32 → St → Prop) (S : St) : Prop :=
  (∀ S1, S1 = uJ S v0 57 ((((S.2.1 v0 57) * 1103) + 12345) - (((S.2.1 v0 57) * 1103) + 12345) / 1000003 * 1000003) → (¬ v1.toInt64 = 0 ∧ Q (((S1.2.1 v0 57) - (S1.2.1 v0 57) / v1.toInt64 * v1.toInt64).toInt32) S1))
def f_X11_drawn_61 (G : Gm) (u0 : Int32) (u1 : Nat) (Q : Int32 → St → Prop) (S : St) : Prop :=
  (vp_in (u0 - 4) (G.2.1 u1) ∧ Q (S.1 u1 (u0 - 4).toNatClampNeg) S)
def f_X11_drawn (G : Gm) (v0 : Nat) (v1 : Int32) (v2 : Int32) (Q : Int32 → St → Prop) (S : St) : Prop :=
  (∀ S1, S1 = uI S v0 0 0 → f_X11_in G v1.toInt64 0 (((S1.1 v0 59).toInt64) - 1) (fun r3 S2 => (if r3 = 0 then Q (-1) S2 else f_X11_in G v2.toInt64 0 4 (fun r6 S5 => (if r6 = 0 then Q (-1) S5 else (∃ a8, S5.2.2 v0 58 = some a8 ∧ (if 4 ≤ v2 then f_X11_drawn_61 G (32 + (5 * v1)) a8 Q S5 else f_X11_drawn_61 G ((8 + (4 * v1)) + v2) a8 Q S5)))) S2)) S1)
def f_X11_end (G : Gm) (v0 : Nat) (v1 : Int32) (Q : Int32 → St → Prop) (S : St) : Prop :=
  (∀ S1, S1 = uI S v0 0 0 → (if v1 < 0 then Q (-1) S1 else (if v1 ≤ (S1.1 v0 14) then (∀ S4, S4 = uI S1 v0 14 v1 → Q v1 S4) else Q (-1) S1)))
def f_X11_endText_19 (G : Gm) (v0 : Nat) (Q : St → Prop) (S : St) : Prop :=
  (∀ S1, S1 = uI S v0 21 0 → (∀ S2, S2 = uI S1 v0 14 0 → Q S2))
def f_X11_endText (G : Gm) (v0 : Nat) (Q : St → Prop) (S : St) : Prop :=
  (if (S.1 v0 20) = 0 then (if (S.1 v0 17) = 0 then f_X11_endText_19 G v0 Q S else f_X11_must G v0 0 (fun S3 => f_X11_endText_19 G v0 Q S3) S) else f_X11_endText_19 G v0 Q S)
def f_X11_fault (G : Gm) (v0 : Nat) (Q : Int32 → St → Prop) (S : St) : Prop :=
  (∀ S1, S1 = uI S v0 0 0 → Q (S1.1 v0 19) S1)
def f_X11_four_3_n (G : Gm) (v0 : Nat) (v1 : Int32) (Q : St → Prop) : Nat → Int32 → St → Prop
  | 0, _, _ => False
  | n + 1, v2, S => (if v2 < 0 then Q S else (∃ a2, S.2.2 v0 13 = some a2 ∧ (vp_in (S.1 v0 14) (G.2.1 a2) ∧ ∀ S4, S4 = uI S a2 (S.1 v0 14).toNatClampNeg ((v1 >>> ((v2 : Int32) &&& 31)) &&& 255) → (∀ S5, S5 = uI S4 v0 14 ((S4.1 v0 14) + 1) → (f_X11_four_3_n G v0 v1 Q n) (v2 + (-8)) S5))))
def f_X11_four_3 (G : Gm) (v0 : Nat) (v1 : Int32) (Q : St → Prop) (v2 : Int32) (S : St) : Prop := ∃ n, f_X11_four_3_n G v0 v1 Q n v2 S
def f_X11_four (G : Gm) (v0 : Nat) (v1 : Int32) (Q : St → Prop) (S : St) : Prop :=
  f_X11_four_3 G v0 v1 Q 24 S
def f_X11_feed (G : Gm) (v0 : Nat) (v1 : Int32) (v2 : Int32) (v3 : Int32) (v4 : Int32) (v5 : Int32) (Q : Int32 → St → Prop) (S : St) : Prop :=
  (∀ S1, S1 = uI S v0 0 0 → (if ((S1.1 v0 14) + 20) ≤ 400 then f_X11_four G v0 v1 (fun S3 => f_X11_four G v0 v2 (fun S4 => f_X11_four G v0 v3 (fun S5 => f_X11_four G v0 v4 (fun S6 => f_X11_four G v0 v5 (fun S7 => Q (S7.1 v0 14) S7) S6) S5) S4) S3) S1 else Q (-1) S1))
def f_X11_isNew_4_n (G : Gm) (v0 : Nat) (v1 : Int32) (Q : Int32 → St → Prop) : Nat → Int32 → Int32 → St → Prop
  | 0, _, _, _ => False
  | n + 1, v2, v3, S => (if v1 ≤ v3 then ((v2 = 0 ∨ v2 = 1) ∧ Q v2 S) else (if v2 = 0 then (f_X11_isNew_4_n G v0 v1 Q n) 0 (v3 + 1) S else (∃ a3, S.2.2 v0 48 = some a3 ∧ (vp_in v3 (G.2.1 a3) ∧ (∃ a5, S.2.2 v0 48 = some a5 ∧ (vp_in v1 (G.2.1 a5) ∧ (if (S.1 a3 v3.toNatClampNeg) = (S.1 a5 v1.toNatClampNeg) then (f_X11_isNew_4_n G v0 v1 Q n) 0 (v3 + 1) S else (f_X11_isNew_4_n G v0 v1 Q n) 1 (v3 + 1) S)))))))
def f_X11_isNew_4 (G : Gm) (v0 : Nat) (v1 : Int32) (Q : Int32 → St → Prop) (v2 : Int32) (v3 : Int32) (S : St) : Prop := ∃ n, f_X11_isNew_4_n G v0 v1 Q n v2 v3 S
def f_X11_isNew (G : Gm) (v0 : Nat) (v1 : Int32) (Q : Int32 → St → Prop) (S : St) : Prop :=
  f_X11_isNew_4 G v0 v1 Q 1 0 S
def f_X11_findFitted_153 (G : Gm) (k18 : Int32 → Int32 → St → Prop) (v0 : Nat) (v1 : Int32) (v2 : Int32) (v3 : Int32) (v4 : Int32) (v5 : Int32) (Q : Int32 → St → Prop) (S : St) : Prop :=
  (if v5 = 0 then k18 v2 (v3 + (-1)) S else k18 v4 (v3 + (-1)) S)
def f_X11_findFitted_122_n (G : Gm) (k18 : Int32 → Int32 → St → Prop) (v0 : Nat) (v1 : Int32) (v2 : Int32) (v3 : Int32) (v4 : Int32) (v5 : Int32) (Q : Int32 → St → Prop) : Nat → Int32 → St → Prop
  | 0, _, _ => False
  | n + 1, v6, S => (if v1 ≤ v6 then f_X11_findFitted_153 G k18 v0 v1 v2 v3 v4 v5 Q S else (if v5 = 0 then f_X11_findFitted_153 G k18 v0 v1 v2 v3 v4 v5 Q S else (∃ a3, S.2.2 v0 49 = some a3 ∧ (∃ a4, S.2.2 v0 48 = some a4 ∧ (vp_in v6 (G.2.1 a4) ∧ (vp_in v6 (G.2.1 a3) ∧ ∀ S7, S7 = uI S a3 v6.toNatClampNeg (S.1 a4 v6.toNatClampNeg) → (f_X11_findFitted_122_n G k18 v0 v1 v2 v3 v4 v5 Q n) (v6 + 1) S7))))))
def f_X11_findFitted_122 (G : Gm) (k18 : Int32 → Int32 → St → Prop) (v0 : Nat) (v1 : Int32) (v2 : Int32) (v3 : Int32) (v4 : Int32) (v5 : Int32) (Q : Int32 → St → Prop) (v6 : Int32) (S : St) : Prop := ∃ n, f_X11_findFitted_122_n G k18 v0 v1 v2 v3 v4 v5 Q n v6 S
def f_X11_findFitted_101 (G : Gm) (k18 : Int32 → Int32 → St → Prop) (v0 : Nat) (v1 : Int32) (v2 : Int32) (v3 : Int32) (v4 : Int32) (Q : Int32 → St → Prop) (S : St) : Prop :=
  (if v3 = v1 then (if v4 ≤ v2 then f_X11_findFitted_122 G k18 v0 v1 v2 v3 v4 0 Q 0 S else f_X11_findFitted_122 G k18 v0 v1 v2 v3 v4 1 Q 0 S) else f_X11_findFitted_122 G k18 v0 v1 v2 v3 v4 0 Q 0 S)
def f_X11_findFitted_53_n (G : Gm) (k18 : Int32 → Int32 → St → Prop) (v0 : Nat) (v1 : Int32) (v2 : Int32) (v3 : Int32) (Q : Int32 → St → Prop) : Nat → Int32 → Int32 → St → Prop
  | 0, _, _, _ => False
  | n + 1, v4, v5, S => (if v1 ≤ v5 then f_X11_findFitted_101 G k18 v0 v1 v2 v3 v4 Q S else (if v3 = v1 then (∃ a3, S.2.2 v0 47 = some a3 ∧ (∃ a4, S.2.2 v0 48 = some a4 ∧ (vp_in v5 (G.2.1 a4) ∧ (vp_in ((6 * v5) + (S.1 a4 v5.toNatClampNeg)) (G.2.1 a3) ∧ (if (S.1 a3 ((6 * v5) + (S.1 a4 v5.toNatClampNeg)).toNatClampNeg) = 0 then (∀ x8 : Int32, x8 = v4 + 0 → (f_X11_findFitted_53_n G k18 v0 v1 v2 v3 Q n) x8 (v5 + 1) S) else (∀ x9 : Int32, x9 = v4 + 1 → (f_X11_findFitted_53_n G k18 v0 v1 v2 v3 Q n) x9 (v5 + 1) S)))))) else f_X11_findFitted_101 G k18 v0 v1 v2 v3 v4 Q S))
def f_X11_findFitted_53 (G : Gm) (k18 : Int32 → Int32 → St → Prop) (v0 : Nat) (v1 : Int32) (v2 : Int32) (v3 : Int32) (Q : Int32 → St → Prop) (v4 : Int32) (v5 : Int32) (S : St) : Prop := ∃ n, f_X11_findFitted_53_n G k18 v0 v1 v2 v3 Q n v4 v5 S
def f_X11_findFitted_18_n (G : Gm) (v0 : Nat) (v1 : Int32) (Q : Int32 → St → Prop) : Nat → Int32 → Int32 → St → Prop
  | 0, _, _, _ => False
  | n + 1, v2, v3, S => (if v3 < 0 then Q v2 S else (∃ a2, S.2.2 v0 48 = some a2 ∧ (vp_in v3 (G.2.1 a2) ∧ (vp_in v3 (G.2.1 a2) ∧ ∀ S5, S5 = uI S a2 v3.toNatClampNeg ((S.1 a2 v3.toNatClampNeg) + 1) → (if v3 = v1 then f_X11_findFitted_53 G (f_X11_findFitted_18_n G v0 v1 Q n) v0 v1 v2 v3 Q 0 0 S5 else (∃ a7, S5.2.2 v0 48 = some a7 ∧ (vp_in v3 (G.2.1 a7) ∧ (if (S5.1 a7 v3.toNatClampNeg) < v1 then f_X11_isNew G v0 v3 (fun r11 S10 => (if r11 = 0 then (f_X11_findFitted_18_n G v0 v1 Q n) v2 v3 S10 else (∃ a13, S10.2.2 v0 48 = some a13 ∧ (vp_in (v3 + 1) (G.2.1 a13) ∧ ∀ S15, S15 = uI S10 a13 (v3 + 1).toNatClampNeg (-1) → (f_X11_findFitted_18_n G v0 v1 Q n) v2 (v3 + 1) S15)))) S5 else f_X11_findFitted_53 G (f_X11_findFitted_18_n G v0 v1 Q n) v0 v1 v2 v3 Q 0 0 S5))))))))
def f_X11_findFitted_18 (G : Gm) (v0 : Nat) (v1 : Int32) (Q : Int32 → St → Prop) (v2 : Int32) (v3 : Int32) (S : St) : Prop := ∃ n, f_X11_findFitted_18_n G v0 v1 Q n v2 v3 S
def f_X11_findFitted (G : Gm) (v0 : Nat) (Q : Int32 → St → Prop) (S : St) : Prop :=
  (∃ a1, S.2.2 v0 4 = some a1 ∧ (vp_in 0 (G.2.1 a1) ∧ (∀ x3 : Int32, x3 = S.1 a1 (0 : Int32).toNatClampNeg → (∃ a4, S.2.2 v0 48 = some a4 ∧ (vp_in 0 (G.2.1 a4) ∧ ∀ S6, S6 = uI S a4 (0 : Int32).toNatClampNeg (-1) → f_X11_findFitted_18 G v0 x3 Q (-1) 0 S6)))))
def f_X11_layFitted_61 (G : Gm) (k2 : Int32 → St → Prop) (k14 : Int32 → St → Prop) (v0 : Nat) (v1 : Int32) (v2 : Int32) (u0 : Int32) (u1 : Int32) (u2 : Nat) (Q : St → Prop) (S : St) : Prop :=
  (vp_in u1 (G.2.1 u2) ∧ (u0 = 0 ∨ u0 = 1) ∧ ∀ S2, S2 = uI S u2 u1.toNatClampNeg u0 → k14 (v2 + 1) S2)
def f_X11_layFitted_14_n (G : Gm) (k2 : Int32 → St → Prop) (v0 : Nat) (v1 : Int32) (Q : St → Prop) : Nat → Int32 → St → Prop
  | 0, _, _ => False
  | n + 1, v2, S => (∃ a1, S.2.2 v0 4 = some a1 ∧ (vp_in 0 (G.2.1 a1) ∧ (if (S.1 a1 (0 : Int32).toNatClampNeg) ≤ v2 then k2 (v1 + 1) S else (∃ a4, S.2.2 v0 47 = some a4 ∧ f_X11_sightOf G v0 v2 (fun r6 S5 => f_X11_doesOf G v0 v1 r6 (fun r8 S7 => (∃ a9, S7.2.2 v0 4 = some a9 ∧ (vp_in (62 + v1) (G.2.1 a9) ∧ (if r8 = (S7.1 a9 (62 + v1).toNatClampNeg) then f_X11_layFitted_61 G k2 (f_X11_layFitted_14_n G k2 v0 v1 Q n) v0 v1 v2 1 ((6 * v1) + v2) a4 Q S7 else f_X11_layFitted_61 G k2 (f_X11_layFitted_14_n G k2 v0 v1 Q n) v0 v1 v2 0 ((6 * v1) + v2) a4 Q S7)))) S5) S))))
def f_X11_layFitted_14 (G : Gm) (k2 : Int32 → St → Prop) (v0 : Nat) (v1 : Int32) (Q : St → Prop) (v2 : Int32) (S : St) : Prop := ∃ n, f_X11_layFitted_14_n G k2 v0 v1 Q n v2 S
def f_X11_layFitted_2_n (G : Gm) (v0 : Nat) (Q : St → Prop) : Nat → Int32 → St → Prop
  | 0, _, _ => False
  | n + 1, v1, S => (∃ a1, S.2.2 v0 4 = some a1 ∧ (vp_in 0 (G.2.1 a1) ∧ (if (S.1 a1 (0 : Int32).toNatClampNeg) ≤ v1 then Q S else f_X11_layFitted_14 G (f_X11_layFitted_2_n G v0 Q n) v0 v1 Q 0 S)))
def f_X11_layFitted_2 (G : Gm) (v0 : Nat) (Q : St → Prop) (v1 : Int32) (S : St) : Prop := ∃ n, f_X11_layFitted_2_n G v0 Q n v1 S
def f_X11_layFitted (G : Gm) (v0 : Nat) (Q : St → Prop) (S : St) : Prop :=
  f_X11_layFitted_2 G v0 Q 0 S
def f_X11_fitted (G : Gm) (v0 : Nat) (v1 : Int32) (Q : Int32 → St → Prop) (S : St) : Prop :=
  (∀ S1, S1 = uI S v0 0 0 → (∃ a2, S1.2.2 v0 4 = some a2 ∧ (vp_in 0 (G.2.1 a2) ∧ f_X11_in G v1.toInt64 0 ((S1.1 a2 (0 : Int32).toNatClampNeg).toInt64) (fun r5 S4 => (if r5 = 0 then Q (-1) S4 else f_X11_layFitted G v0 (fun S7 => f_X11_findFitted G v0 (fun r9 S8 => (if v1 = 0 then Q r9 S8 else (∃ a11, S8.2.2 v0 49 = some a11 ∧ (vp_in (v1 - 1) (G.2.1 a11) ∧ Q (S8.1 a11 (v1 - 1).toNatClampNeg) S8)))) S7) S4)) S1)))
def f_X11_isLaw (G : Gm) (v0 : Nat) (v1 : Int32) (Q : Int32 → St → Prop) (S : St) : Prop :=
  (if v1 = (-1) then Q 1 S else (∃ a2, S.2.2 v0 4 = some a2 ∧ (vp_in 2 (G.2.1 a2) ∧ f_X11_in G v1.toInt64 0 (((S.1 a2 (2 : Int32).toNatClampNeg).toInt64) - 1) (fun r5 S4 => (if r5 = 0 then Q 0 S4 else Q 1 S4)) S)))
def f_X11_force (G : Gm) (v0 : Nat) (v1 : Int32) (Q : Int32 → St → Prop) (S : St) : Prop :=
  (∀ S1, S1 = uI S v0 0 0 → f_X11_isLaw G v0 v1 (fun r3 S2 => (if r3 = 0 then f_X11_tell G v0 (-2) (fun r6 S5 => Q r6 S5) S2 else f_X11_change G v0 3 v1 (fun r8 S7 => Q r8 S7) S2)) S1)
def f_X11_forget (G : Gm) (v0 : Nat) (Q : Int32 → St → Prop) (S : St) : Prop :=
  (∀ S1, S1 = uI S v0 0 0 → (∃ a2, S1.2.2 v0 4 = some a2 ∧ (vp_in 1 (G.2.1 a2) ∧ (∀ x4 : Int32, x4 = S1.1 a2 (1 : Int32).toNatClampNeg → (∃ a5, S1.2.2 v0 4 = some a5 ∧ (vp_in 1 (G.2.1 a5) ∧ ∀ S7, S7 = uI S1 a5 (1 : Int32).toNatClampNeg 0 → Q x4 S7))))))
def f_X11_putBack_2_n (G : Gm) (v0 : Nat) (v1 : Int32) (Q : St → Prop) : Nat → Int32 → St → Prop
  | 0, _, _ => False
  | n + 1, v2, S => (if 58 ≤ v2 then Q S else (∃ a2, S.2.2 v0 4 = some a2 ∧ (∃ a3, S.2.2 v0 7 = some a3 ∧ (vp_in ((58 * v1) + v2) (G.2.1 a3) ∧ (vp_in (4 + v2) (G.2.1 a2) ∧ ∀ S6, S6 = uI S a2 (4 + v2).toNatClampNeg (S.1 a3 ((58 * v1) + v2).toNatClampNeg) → (f_X11_putBack_2_n G v0 v1 Q n) (v2 + 1) S6)))))
def f_X11_putBack_2 (G : Gm) (v0 : Nat) (v1 : Int32) (Q : St → Prop) (v2 : Int32) (S : St) : Prop := ∃ n, f_X11_putBack_2_n G v0 v1 Q n v2 S
def f_X11_putBack (G : Gm) (v0 : Nat) (v1 : Int32) (Q : St → Prop) (S : St) : Prop :=
  f_X11_putBack_2 G v0 v1 Q 0 S
def f_X11_giveBack_35_n (G : Gm) (v0 : Nat) (v1 : Int32) (Q : St → Prop) : Nat → Int32 → St → Prop
  | 0, _, _ => False
  | n + 1, v2, S => (if 16 ≤ v2 then (∀ S2, S2 = uI S v0 9 v1 → Q S2) else (∃ a3, S.2.2 v0 8 = some a3 ∧ (∃ a4, S.2.2 v0 11 = some a4 ∧ (vp_in v2 (G.2.1 a4) ∧ (vp_in v2 (G.2.1 a3) ∧ ∀ S7, S7 = uI S a3 v2.toNatClampNeg (S.1 a4 v2.toNatClampNeg) → (f_X11_giveBack_35_n G v0 v1 Q n) (v2 + 1) S7)))))
def f_X11_giveBack_35 (G : Gm) (v0 : Nat) (v1 : Int32) (Q : St → Prop) (v2 : Int32) (S : St) : Prop := ∃ n, f_X11_giveBack_35_n G v0 v1 Q n v2 S
def f_X11_giveBack_8_n (G : Gm) (v0 : Nat) (v1 : Int32) (Q : St → Prop) : Nat → Int32 → St → Prop
  | 0, _, _ => False
  | n + 1, v2, S => (if 928 ≤ v2 then f_X11_giveBack_35 G v0 v1 Q 0 S else (∃ a2, S.2.2 v0 7 = some a2 ∧ (∃ a3, S.2.2 v0 10 = some a3 ∧ (vp_in v2 (G.2.1 a3) ∧ (vp_in v2 (G.2.1 a2) ∧ ∀ S6, S6 = uI S a2 v2.toNatClampNeg (S.1 a3 v2.toNatClampNeg) → (f_X11_giveBack_8_n G v0 v1 Q n) (v2 + 1) S6)))))
def f_X11_giveBack_8 (G : Gm) (v0 : Nat) (v1 : Int32) (Q : St → Prop) (v2 : Int32) (S : St) : Prop := ∃ n, f_X11_giveBack_8_n G v0 v1 Q n v2 S
def f_X11_giveBack (G : Gm) (v0 : Nat) (v1 : Int32) (Q : St → Prop) (S : St) : Prop :=
  f_X11_putBack G v0 17 (fun S1 => f_X11_giveBack_8 G v0 v1 Q 0 S1) S
def f_X11_isGlass_48 (G : Gm) (k20 : Int32 → Int32 → St → Prop) (v2 : Int32) (u0 : Int32) (Q : Int32 → St → Prop) (S : St) : Prop :=
  (∀ x1 : Int32, x1 = v2 / 10 → k20 u0 x1 S)
def f_X11_isGlass_47 (G : Gm) (k20 : Int32 → Int32 → St → Prop) (v2 : Int32) (Q : Int32 → St → Prop) (S : St) : Prop :=
  f_X11_isGlass_48 G k20 v2 0 Q S
def f_X11_isGlass_20_n (G : Gm) (Q : Int32 → St → Prop) : Nat → Int32 → Int32 → St → Prop
  | 0, _, _, _ => False
  | n + 1, v1, v2, S => (if v2 ≤ 0 then ((v1 = 0 ∨ v1 = 1) ∧ Q v1 S) else (if v1 = 0 then f_X11_isGlass_47 G (f_X11_isGlass_20_n G Q n) v2 Q S else f_X11_in G ((v2 - v2 / 10 * 10).toInt64) 1 8 (fun r4 S3 => (if r4 = 0 then f_X11_isGlass_47 G (f_X11_isGlass_20_n G Q n) v2 Q S3 else f_X11_isGlass_48 G (f_X11_isGlass_20_n G Q n) v2 1 Q S3)) S))
def f_X11_isGlass_20 (G : Gm) (Q : Int32 → St → Prop) (v1 : Int32) (v2 : Int32) (S : St) : Prop := ∃ n, f_X11_isGlass_20_n G Q n v1 v2 S
def f_X11_isGlass (G : Gm) (v0 : Int32) (Q : Int32 → St → Prop) (S : St) : Prop :=
  f_X11_in G v0.toInt64 0 8888 (fun r2 S1 => (if r2 = 0 then f_X11_isGlass_20 G Q r2 0 S1 else f_X11_isGlass_20 G Q r2 v0 S1)) S
