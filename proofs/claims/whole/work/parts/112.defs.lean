def f_X11_must_24 (G : Gm) (v0 : Nat) (Q : St → Prop) (S : St) : Prop :=
  (if (S.1 v0 20) = 0 then f_X11_next G v0 (fun S2 => Q S2) S else Q S)
def f_X11_must (G : Gm) (v0 : Nat) (v1 : Int32) (Q : St → Prop) (S : St) : Prop :=
  (if (S.1 v0 20) = 0 then (if v1 = 0 then (∀ S3, S3 = uI S v0 20 1 → (∀ S4, S4 = uI S3 v0 19 (S3.1 v0 15) → f_X11_must_24 G v0 Q S4)) else f_X11_must_24 G v0 Q S) else f_X11_must_24 G v0 Q S)
def f_X11_isCompared_36 (G : Gm) (v0 : Nat) (v1 : Int32) (Q : Int32 → St → Prop) (S : St) : Prop :=
  (if v1 < 0 then Q 0 S else (∃ a2, S.2.2 v0 28 = some a2 ∧ (vp_in v1 (G.2.1 a2) ∧ f_X11_in G ((S.1 a2 v1.toNatClampNeg).toInt64) 25 27 (fun r5 S4 => (if r5 = 0 then Q 0 S4 else Q 1 S4)) S)))
def f_X11_isCompared_7_n (G : Gm) (v0 : Nat) (Q : Int32 → St → Prop) : Nat → Int32 → St → Prop
  | 0, _, _ => False
  | n + 1, v1, S => (if v1 < 0 then f_X11_isCompared_36 G v0 v1 Q S else (∃ a2, S.2.2 v0 28 = some a2 ∧ (vp_in v1 (G.2.1 a2) ∧ f_X11_in G ((S.1 a2 v1.toNatClampNeg).toInt64) 20 24 (fun r5 S4 => (if r5 = 0 then f_X11_isCompared_36 G v0 v1 Q S4 else (f_X11_isCompared_7_n G v0 Q n) (v1 + (-1)) S4)) S)))
def f_X11_isCompared_7 (G : Gm) (v0 : Nat) (Q : Int32 → St → Prop) (v1 : Int32) (S : St) : Prop := ∃ n, f_X11_isCompared_7_n G v0 Q n v1 S
def f_X11_isCompared (G : Gm) (v0 : Nat) (Q : Int32 → St → Prop) (S : St) : Prop :=
  (∀ x1 : Int32, x1 = (S.1 v0 30) - 1 → f_X11_isCompared_7 G v0 Q x1 S)
def f_X11_behindSum_224 (G : Gm) (v0 : Nat) (v2 : Int32) (u0 : Int32) (u1 : Nat) (Q : Int32 → St → Prop) (S : St) : Prop :=
  f_X11_must G u1 u0 (fun S1 => (if (S1.1 v0 20) = 0 then f_X11_settle G v0 5 (fun S3 => f_X11_push G v0 v2 0 (fun S4 => Q 1 S4) S3) S1 else Q 1 S1)) S
def f_X11_behindSum_219 (G : Gm) (v0 : Nat) (v2 : Int32) (u0 : Nat) (Q : Int32 → St → Prop) (S : St) : Prop :=
  f_X11_behindSum_224 G v0 v2 1 u0 Q S
def f_X11_behindSum_202 (G : Gm) (v0 : Nat) (u0 : Int32) (Q : Int32 → St → Prop) (S : St) : Prop :=
  (if u0 = 27 then f_X11_isSign G v0 61 (fun r3 S2 => (if r3 = 0 then f_X11_behindSum_224 G v0 u0 0 v0 Q S2 else f_X11_behindSum_219 G v0 u0 v0 Q S2)) S else f_X11_behindSum_219 G v0 u0 v0 Q S)
def f_X11_behindSum_163 (G : Gm) (v0 : Nat) (Q : Int32 → St → Prop) (S : St) : Prop :=
  f_X11_isCompared G v0 (fun r2 S1 => (if r2 = 0 then f_X11_isSign G v0 60 (fun r5 S4 => (if r5 = 0 then f_X11_isSign G v0 62 (fun r8 S7 => (if r8 = 0 then f_X11_behindSum_202 G v0 27 Q S7 else f_X11_behindSum_202 G v0 26 Q S7)) S4 else f_X11_behindSum_202 G v0 25 Q S4)) S1 else Q 2 S1)) S
def f_X11_behindSum_71 (G : Gm) (v0 : Nat) (v1 : Int32) (u0 : Int32) (Q : Int32 → St → Prop) (S : St) : Prop :=
  (if u0 = (-1) then f_X11_inner G v0 (fun r3 S2 => (if r3 = 32 then f_X11_isSign G v0 93 (fun r8 S7 => f_X11_must G v0 r8 (fun S9 => (if (S9.1 v0 20) = 0 then f_X11_settle G v0 5 (fun S11 => (∀ S12, S12 = uI S11 v0 30 ((S11.1 v0 30) - 1) → (∀ S13, S13 = uI S12 v0 31 ((S12.1 v0 31) - 1) → Q 3 S13))) S9 else Q 3 S9)) S7) S2 else (if r3 = (-1) then (if v1 = 0 then Q 4 S2 else f_X11_behindSum_163 G v0 Q S2) else f_X11_behindSum_163 G v0 Q S2))) S else f_X11_binds G u0 (fun r15 S14 => f_X11_settle G v0 r15 (fun S16 => f_X11_push G v0 u0 0 (fun S17 => f_X11_next G v0 (fun S18 => Q 1 S18) S17) S16) S14) S)
def f_X11_behindSum (G : Gm) (v0 : Nat) (v1 : Int32) (Q : Int32 → St → Prop) (S : St) : Prop :=
  f_X11_isSign G v0 43 (fun r2 S1 => (if r2 = 0 then f_X11_isSign G v0 45 (fun r5 S4 => (if r5 = 0 then f_X11_isSign G v0 42 (fun r8 S7 => (if r8 = 0 then f_X11_isSign G v0 47 (fun r11 S10 => (if r11 = 0 then f_X11_isSign G v0 37 (fun r14 S13 => (if r14 = 0 then f_X11_behindSum_71 G v0 v1 (-1) Q S13 else f_X11_behindSum_71 G v0 v1 24 Q S13)) S10 else f_X11_behindSum_71 G v0 v1 23 Q S10)) S7 else f_X11_behindSum_71 G v0 v1 22 Q S7)) S4 else f_X11_behindSum_71 G v0 v1 21 Q S4)) S1 else f_X11_behindSum_71 G v0 v1 20 Q S1)) S
def f_X11_isWord (G : Gm) (v0 : Nat) (v1 : Int64) (Q : Int32 → St → Prop) (S : St) : Prop :=
  (if (S.1 v0 17) = 1 then (if (lg_cmp (S.2.1 v0 18) v1) = 0 then Q 1 S else Q 0 S) else Q 0 S)
def f_X11_behindTest_66 (G : Gm) (v0 : Nat) (u0 : Int32) (u1 : Nat) (Q : Int32 → St → Prop) (S : St) : Prop :=
  f_X11_emit G u1 u0 0 (fun S1 => f_X11_next G v0 (fun S2 => Q 0 S2) S1) S
def f_X11_behindTest_47 (G : Gm) (v0 : Nat) (v1 : Int32) (u0 : Int32) (u1 : Nat) (Q : Int32 → St → Prop) (S : St) : Prop :=
  f_X11_push G u1 u0 (S.1 v0 24) (fun S1 => (if v1 = 0 then f_X11_behindTest_66 G v0 30 v0 Q S1 else f_X11_behindTest_66 G v0 29 v0 Q S1)) S
def f_X11_behindTest_32 (G : Gm) (v0 : Nat) (v1 : Int32) (u0 : Int32) (u1 : Nat) (Q : Int32 → St → Prop) (S : St) : Prop :=
  f_X11_settle G u1 u0 (fun S1 => (if v1 = 0 then f_X11_behindTest_47 G v0 v1 30 v0 Q S1 else f_X11_behindTest_47 G v0 v1 29 v0 Q S1)) S
def f_X11_behindTest_22 (G : Gm) (v0 : Nat) (v1 : Int32) (Q : Int32 → St → Prop) (S : St) : Prop :=
  (if v1 = 0 then f_X11_behindTest_32 G v0 v1 1 v0 Q S else f_X11_behindTest_32 G v0 v1 2 v0 Q S)
def f_X11_behindTest (G : Gm) (v0 : Nat) (Q : Int32 → St → Prop) (S : St) : Prop :=
  f_X11_isWord G v0 1476 (fun r2 S1 => (if r2 = 0 then f_X11_isWord G v0 498 (fun r5 S4 => (if r5 = 0 then f_X11_inner G v0 (fun r8 S7 => (if r8 = (-1) then Q 4 S7 else f_X11_isSign G v0 41 (fun r11 S10 => f_X11_must G v0 r11 (fun S12 => (if (S12.1 v0 20) = 0 then f_X11_settle G v0 1 (fun S14 => (∀ S15, S15 = uI S14 v0 30 ((S14.1 v0 30) - 1) → (∀ S16, S16 = uI S15 v0 31 ((S15.1 v0 31) - 1) → Q 2 S16))) S12 else Q 2 S12)) S10) S7)) S4 else f_X11_behindTest_22 G v0 r2 Q S4)) S1 else f_X11_behindTest_22 G v0 r2 Q S1)) S
def f_X11_change (G : Gm) (v0 : Nat) (v1 : Int32) (v2 : Int32) (Q : Int32 → St → Prop) (S : St) : Prop :=
  (∃ a1, S.2.2 v0 4 = some a1 ∧ (vp_in v1 (G.2.1 a1) ∧ (∀ x3 : Int32, x3 = S.1 a1 v1.toNatClampNeg → (∃ a4, S.2.2 v0 4 = some a4 ∧ (vp_in v1 (G.2.1 a4) ∧ ∀ S6, S6 = uI S a4 v1.toNatClampNeg v2 → (∀ S7, S7 = uI S6 v0 1 0 → Q x3 S7))))))
def f_X11_cloth (G : Gm) (v0 : Nat) (v1 : Int32) (Q : Int32 → St → Prop) (S : St) : Prop :=
  (∀ S1, S1 = uI S v0 0 0 → f_X11_clothNow G v0 v1 (fun r3 S2 => f_X11_tell G v0 r3 (fun r5 S4 => Q r5 S4) S2) S1)
def f_X11_come_59_n (G : Gm) (v0 : Nat) (v1 : Int32) (v2 : Int32) (v3 : Int32) (v4 : Int32) (v5 : Int32) (Q : Int32 → St → Prop) : Nat → Int32 → Int32 → St → Prop
  | 0, _, _, _ => False
  | n + 1, v6, v7, S => (if 8 < v7 then (∃ a2, S.2.2 v0 4 = some a2 ∧ (vp_in v4 (G.2.1 a2) ∧ ∀ S4, S4 = uI S a2 v4.toNatClampNeg v5 → Q v6 S4)) else (∃ a5, S.2.2 v0 4 = some a5 ∧ (vp_in v4 (G.2.1 a5) ∧ ∀ S7, S7 = uI S a5 v4.toNatClampNeg v7 → f_X11_grindsOf G v0 v1 v2 (fun r9 S8 => (if r9 = v3 then (∀ x12 : Int32, x12 = v6 ||| (1 <<< ((v7 : Int32) &&& 31)) → (f_X11_come_59_n G v0 v1 v2 v3 v4 v5 Q n) x12 (v7 + 1) S8) else (∀ x11 : Int32, x11 = v6 ||| 0 → (f_X11_come_59_n G v0 v1 v2 v3 v4 v5 Q n) x11 (v7 + 1) S8))) S7)))
def f_X11_come_59 (G : Gm) (v0 : Nat) (v1 : Int32) (v2 : Int32) (v3 : Int32) (v4 : Int32) (v5 : Int32) (Q : Int32 → St → Prop) (v6 : Int32) (v7 : Int32) (S : St) : Prop := ∃ n, f_X11_come_59_n G v0 v1 v2 v3 v4 v5 Q n v6 v7 S
def f_X11_come (G : Gm) (v0 : Nat) (v1 : Int32) (v2 : Int32) (v3 : Int32) (Q : Int32 → St → Prop) (S : St) : Prop :=
  (∀ S1, S1 = uI S v0 0 0 → f_X11_isPerson G v0 v1 (fun r3 S2 => (if r3 = 0 then Q (-1) S2 else f_X11_isKind G v2 (fun r6 S5 => (if r6 = 0 then Q (-1) S5 else f_X11_in G v3.toInt64 0 7 (fun r9 S8 => (if r9 = 0 then Q (-1) S8 else (∀ x11 : Int32, x11 = (8 + (4 * v1)) + v2 → (∃ a12, S8.2.2 v0 4 = some a12 ∧ (vp_in x11 (G.2.1 a12) ∧ (∀ x14 : Int32, x14 = S8.1 a12 x11.toNatClampNeg → f_X11_come_59 G v0 v1 v2 v3 x11 x14 Q 0 0 S8)))))) S5)) S2)) S1)
def f_X11_come1_131_n (G : Gm) (v0 : Nat) (v5 : Int32) (Q : Int32 → St → Prop) : Nat → Int32 → St → Prop
  | 0, _, _ => False
  | n + 1, v6, S => (if 5 ≤ v6 then (∃ a2, S.2.2 v0 4 = some a2 ∧ (vp_in (62 + v5) (G.2.1 a2) ∧ ∀ S4, S4 = uI S a2 (62 + v5).toNatClampNeg 0 → (∃ a5, S4.2.2 v0 4 = some a5 ∧ (vp_in 0 (G.2.1 a5) ∧ (vp_in 0 (G.2.1 a5) ∧ ∀ S8, S8 = uI S4 a5 (0 : Int32).toNatClampNeg ((S4.1 a5 (0 : Int32).toNatClampNeg) + 1) → Q v5 S8))))) else (∃ a9, S.2.2 v0 4 = some a9 ∧ (vp_in ((32 + (5 * v5)) + v6) (G.2.1 a9) ∧ ∀ S11, S11 = uI S a9 ((32 + (5 * v5)) + v6).toNatClampNeg 0 → (f_X11_come1_131_n G v0 v5 Q n) (v6 + 1) S11)))
def f_X11_come1_131 (G : Gm) (v0 : Nat) (v5 : Int32) (Q : Int32 → St → Prop) (v6 : Int32) (S : St) : Prop := ∃ n, f_X11_come1_131_n G v0 v5 Q n v6 S
def f_X11_come1 (G : Gm) (v0 : Nat) (v1 : Int32) (v2 : Int32) (v3 : Int32) (v4 : Int32) (Q : Int32 → St → Prop) (S : St) : Prop :=
  f_X11_in G v1.toInt64 0 8 (fun r2 S1 => (if r2 = 0 then Q (-1) S1 else f_X11_in G v2.toInt64 0 8 (fun r5 S4 => (if r5 = 0 then Q (-1) S4 else f_X11_in G v3.toInt64 0 8 (fun r8 S7 => (if r8 = 0 then Q (-1) S7 else f_X11_in G v4.toInt64 0 8 (fun r11 S10 => (if r11 = 0 then Q (-1) S10 else (∃ a13, S10.2.2 v0 4 = some a13 ∧ (vp_in 0 (G.2.1 a13) ∧ (∀ x15 : Int32, x15 = S10.1 a13 (0 : Int32).toNatClampNeg → (if x15 = 6 then Q (-5) S10 else (∃ a17, S10.2.2 v0 4 = some a17 ∧ (vp_in (8 + (4 * x15)) (G.2.1 a17) ∧ ∀ S19, S19 = uI S10 a17 (8 + (4 * x15)).toNatClampNeg v1 → (∃ a20, S19.2.2 v0 4 = some a20 ∧ (vp_in ((8 + (4 * x15)) + 1) (G.2.1 a20) ∧ ∀ S22, S22 = uI S19 a20 ((8 + (4 * x15)) + 1).toNatClampNeg v2 → (∃ a23, S22.2.2 v0 4 = some a23 ∧ (vp_in ((8 + (4 * x15)) + 2) (G.2.1 a23) ∧ ∀ S25, S25 = uI S22 a23 ((8 + (4 * x15)) + 2).toNatClampNeg v3 → (∃ a26, S25.2.2 v0 4 = some a26 ∧ (vp_in ((8 + (4 * x15)) + 3) (G.2.1 a26) ∧ ∀ S28, S28 = uI S25 a26 ((8 + (4 * x15)) + 3).toNatClampNeg v4 → f_X11_come1_131 G v0 x15 Q 0 S28)))))))))))))) S7)) S4)) S1)) S
def f_X11_count (G : Gm) (v0 : Nat) (v1 : Int32) (Q : Int32 → St → Prop) (S : St) : Prop :=
  (∀ S1, S1 = uI S v0 0 0 → (if v1 = 0 then (∃ a2, S1.2.2 v0 4 = some a2 ∧ (vp_in 0 (G.2.1 a2) ∧ Q (S1.1 a2 (0 : Int32).toNatClampNeg) S1)) else (if v1 = 1 then f_X11_allSins G v0 (fun r5 S4 => Q r5 S4) S1 else (if v1 = 2 then (∃ a6, S1.2.2 v0 4 = some a6 ∧ (vp_in 1 (G.2.1 a6) ∧ Q (S1.1 a6 (1 : Int32).toNatClampNeg) S1)) else (if v1 = 3 then (∃ a8, S1.2.2 v0 4 = some a8 ∧ (vp_in 2 (G.2.1 a8) ∧ Q (S1.1 a8 (2 : Int32).toNatClampNeg) S1)) else (if v1 = 4 then Q (S1.1 v0 9) S1 else (if v1 = 5 then Q (S1.1 v0 14) S1 else (if v1 = 6 then (∃ a10, S1.2.2 v0 2 = some a10 ∧ (vp_in 1 (G.2.1 a10) ∧ Q (S1.1 a10 (1 : Int32).toNatClampNeg) S1)) else (if v1 = 7 then (∃ a12, S1.2.2 v0 2 = some a12 ∧ (vp_in 2 (G.2.1 a12) ∧ Q (S1.1 a12 (2 : Int32).toNatClampNeg) S1)) else (if v1 = 8 then (∃ a14, S1.2.2 v0 2 = some a14 ∧ (vp_in 3 (G.2.1 a14) ∧ Q (S1.1 a14 (3 : Int32).toNatClampNeg) S1)) else (if v1 = 9 then (∃ a16, S1.2.2 v0 2 = some a16 ∧ (vp_in 5 (G.2.1 a16) ∧ Q (S1.1 a16 (5 : Int32).toNatClampNeg) S1)) else (if v1 = 10 then (∃ a18, S1.2.2 v0 2 = some a18 ∧ (vp_in 6 (G.2.1 a18) ∧ Q (S1.1 a18 (6 : Int32).toNatClampNeg) S1)) else (if v1 = 11 then (∃ a20, S1.2.2 v0 4 = some a20 ∧ (vp_in 3 (G.2.1 a20) ∧ Q (S1.1 a20 (3 : Int32).toNatClampNeg) S1)) else f_X11_in G v1.toInt64 12 15 (fun r23 S22 => (if r23 = 0 then Q (-1) S22 else (∃ a25, S22.2.2 v0 4 = some a25 ∧ (vp_in ((4 + v1) - 12) (G.2.1 a25) ∧ Q (S22.1 a25 ((4 + v1) - 12).toNatClampNeg) S22)))) S1)))))))))))))
def f_X11_layCures_133 (G : Gm) (k41 : Int32 → St → Prop) (k49 : Int32 → Int32 → St → Prop) (k58 : Int32 → Int32 → St → Prop) (v0 : Nat) (v1 : Int32) (v2 : Int32) (v3 : Int32) (u0 : Int32) (u1 : Int32) (u2 : Nat) (Q : St → Prop) (S : St) : Prop :=
  (vp_in u1 (G.2.1 u2) ∧ ∀ S2, S2 = uI S u2 u1.toNatClampNeg u0 → k58 v1 (v3 + 1) S2)
def f_X11_layCures_105 (G : Gm) (k41 : Int32 → St → Prop) (k49 : Int32 → Int32 → St → Prop) (k58 : Int32 → Int32 → St → Prop) (v0 : Nat) (v2 : Int32) (v3 : Int32) (v4 : Int32) (u0 : Int32) (Q : St → Prop) (S : St) : Prop :=
  (∃ a1, S.2.2 v0 45 = some a1 ∧ (∃ a2, S.2.2 v0 45 = some a2 ∧ (vp_in v2 (G.2.1 a2) ∧ (if (S.1 a2 v2.toNatClampNeg) ≤ v4 then (∃ a5, S.2.2 v0 45 = some a5 ∧ (vp_in v2 (G.2.1 a5) ∧ f_X11_layCures_133 G k41 k49 k58 v0 u0 v2 v3 (S.1 a5 v2.toNatClampNeg) v2 a1 Q S)) else f_X11_layCures_133 G k41 k49 k58 v0 u0 v2 v3 v4 v2 a1 Q S))))
def f_X11_layCures_100 (G : Gm) (k41 : Int32 → St → Prop) (k49 : Int32 → Int32 → St → Prop) (k58 : Int32 → Int32 → St → Prop) (v0 : Nat) (v2 : Int32) (v3 : Int32) (v4 : Int32) (Q : St → Prop) (S : St) : Prop :=
  f_X11_layCures_105 G k41 k49 k58 v0 v2 v3 v4 1 Q S
def f_X11_layCures_58_n (G : Gm) (k41 : Int32 → St → Prop) (k49 : Int32 → Int32 → St → Prop) (v0 : Nat) (v2 : Int32) (Q : St → Prop) : Nat → Int32 → Int32 → St → Prop
  | 0, _, _, _ => False
  | n + 1, v1, v3, S => (if 8 ≤ v3 then k49 v1 (v2 + 1) S else (∃ a2, S.2.2 v0 45 = some a2 ∧ (∃ a3, S.2.2 v0 3 = some a3 ∧ (vp_in ((256 * v3) + v2) (G.2.1 a3) ∧ (vp_in (S.1 a3 ((256 * v3) + v2).toNatClampNeg) (G.2.1 a2) ∧ (∀ x6 : Int32, x6 = (S.1 a2 (S.1 a3 ((256 * v3) + v2).toNatClampNeg).toNatClampNeg) + 1 → (if v1 = 0 then (∃ a8, S.2.2 v0 45 = some a8 ∧ (vp_in v2 (G.2.1 a8) ∧ (if (S.1 a8 v2.toNatClampNeg) ≤ x6 then f_X11_layCures_105 G k41 k49 (f_X11_layCures_58_n G k41 k49 v0 v2 Q n) v0 v2 v3 x6 0 Q S else f_X11_layCures_100 G k41 k49 (f_X11_layCures_58_n G k41 k49 v0 v2 Q n) v0 v2 v3 x6 Q S))) else f_X11_layCures_100 G k41 k49 (f_X11_layCures_58_n G k41 k49 v0 v2 Q n) v0 v2 v3 x6 Q S)))))))
def f_X11_layCures_58 (G : Gm) (k41 : Int32 → St → Prop) (k49 : Int32 → Int32 → St → Prop) (v0 : Nat) (v2 : Int32) (Q : St → Prop) (v1 : Int32) (v3 : Int32) (S : St) : Prop := ∃ n, f_X11_layCures_58_n G k41 k49 v0 v2 Q n v1 v3 S
def f_X11_layCures_49_n (G : Gm) (k41 : Int32 → St → Prop) (v0 : Nat) (Q : St → Prop) : Nat → Int32 → Int32 → St → Prop
  | 0, _, _, _ => False
  | n + 1, v1, v2, S => (if 256 ≤ v2 then k41 v1 S else f_X11_layCures_58 G k41 (f_X11_layCures_49_n G k41 v0 Q n) v0 v2 Q v1 0 S)
def f_X11_layCures_49 (G : Gm) (k41 : Int32 → St → Prop) (v0 : Nat) (Q : St → Prop) (v1 : Int32) (v2 : Int32) (S : St) : Prop := ∃ n, f_X11_layCures_49_n G k41 v0 Q n v1 v2 S
def f_X11_layCures_41_n (G : Gm) (v0 : Nat) (Q : St → Prop) : Nat → Int32 → St → Prop
  | 0, _, _ => False
  | n + 1, v1, S => (if v1 = 0 then Q S else f_X11_layCures_49 G (f_X11_layCures_41_n G v0 Q n) v0 Q 0 0 S)
def f_X11_layCures_41 (G : Gm) (v0 : Nat) (Q : St → Prop) (v1 : Int32) (S : St) : Prop := ∃ n, f_X11_layCures_41_n G v0 Q n v1 S
def f_X11_layCures_32 (G : Gm) (k2 : Int32 → St → Prop) (v0 : Nat) (v1 : Int32) (u0 : Int32) (u1 : Int32) (u2 : Nat) (Q : St → Prop) (S : St) : Prop :=
  (vp_in u1 (G.2.1 u2) ∧ ∀ S2, S2 = uI S u2 u1.toNatClampNeg u0 → k2 (v1 + 1) S2)
def f_X11_layCures_2_n (G : Gm) (v0 : Nat) (Q : St → Prop) : Nat → Int32 → St → Prop
  | 0, _, _ => False
  | n + 1, v1, S => (if 256 ≤ v1 then f_X11_layCures_41 G v0 Q 1 S else (∃ a2, S.2.2 v0 45 = some a2 ∧ (∃ a3, S.2.2 v0 4 = some a3 ∧ (vp_in 7 (G.2.1 a3) ∧ (if v1 = (S.1 a3 (7 : Int32).toNatClampNeg) then f_X11_layCures_32 G (f_X11_layCures_2_n G v0 Q n) v0 v1 0 v1 a2 Q S else f_X11_layCures_32 G (f_X11_layCures_2_n G v0 Q n) v0 v1 100000000 v1 a2 Q S)))))
def f_X11_layCures_2 (G : Gm) (v0 : Nat) (Q : St → Prop) (v1 : Int32) (S : St) : Prop := ∃ n, f_X11_layCures_2_n G v0 Q n v1 S
def f_X11_layCures (G : Gm) (v0 : Nat) (Q : St → Prop) (S : St) : Prop :=
  f_X11_layCures_2 G v0 Q 0 S
