def f_X11_isSight (G : Gm) (v0 : Int32) (Q : Int32 → St → Prop) (S : St) : Prop :=
  f_X11_in G v0.toInt64 0 255 (fun r2 S1 => ((r2 = 0 ∨ r2 = 1) ∧ Q r2 S1)) S
def f_X11_isTerm (G : Gm) (v0 : Int32) (v1 : Int32) (Q : Int32 → St → Prop) (S : St) : Prop :=
  (if v0 = 0 then f_X11_in G v1.toInt64 0 999 (fun r2 S1 => ((r2 = 0 ∨ r2 = 1) ∧ Q r2 S1)) S else (if v0 = 1 then f_X11_in G v1.toInt64 0 10 (fun r4 S3 => ((r4 = 0 ∨ r4 = 1) ∧ Q r4 S3)) S else (if v0 = 2 then f_X11_in G v1.toInt64 0 9 (fun r6 S5 => ((r6 = 0 ∨ r6 = 1) ∧ Q r6 S5)) S else (if v0 = 3 then f_X11_isSight G v1 (fun r8 S7 => ((r8 = 0 ∨ r8 = 1) ∧ Q r8 S7)) S else Q 0 S))))
def f_X11_openBracket_15 (G : Gm) (v0 : Nat) (v1 : Int32) (u0 : Int32) (u1 : Nat) (Q : St → Prop) (S : St) : Prop :=
  f_X11_must G u1 u0 (fun S1 => (if (S1.1 v0 20) = 0 then (∀ S3, S3 = uI S1 v0 31 ((S1.1 v0 31) + 1) → f_X11_push G v0 v1 0 (fun S4 => Q S4) S3) else Q S1)) S
def f_X11_openBracket (G : Gm) (v0 : Nat) (v1 : Int32) (Q : St → Prop) (S : St) : Prop :=
  (if 8 ≤ (S.1 v0 31) then f_X11_openBracket_15 G v0 v1 0 v0 Q S else f_X11_openBracket_15 G v0 v1 1 v0 Q S)
def f_X11_orderPartAt_4_n (G : Gm) (v0 : Nat) (Q : Int32 → St → Prop) : Nat → Int32 → Int32 → St → Prop
  | 0, _, _, _ => False
  | n + 1, v1, v2, S => (if 7 ≤ v2 then Q v1 S else (∃ a2, S.2.2 v0 33 = some a2 ∧ (vp_in v2 (G.2.1 a2) ∧ f_X11_isWord G v0 (S.2.1 a2 v2.toNatClampNeg) (fun r5 S4 => (if r5 = 0 then (f_X11_orderPartAt_4_n G v0 Q n) v1 (v2 + 1) S4 else (∀ x7 : Int32, x7 = v2 + 1 → (f_X11_orderPartAt_4_n G v0 Q n) x7 (v2 + 1) S4))) S)))
def f_X11_orderPartAt_4 (G : Gm) (v0 : Nat) (Q : Int32 → St → Prop) (v1 : Int32) (v2 : Int32) (S : St) : Prop := ∃ n, f_X11_orderPartAt_4_n G v0 Q n v1 v2 S
def f_X11_orderPartAt (G : Gm) (v0 : Nat) (Q : Int32 → St → Prop) (S : St) : Prop :=
  f_X11_orderPartAt_4 G v0 Q (-1) 0 S
def f_X11_partAt_4_n (G : Gm) (v0 : Nat) (Q : Int32 → St → Prop) : Nat → Int32 → Int32 → St → Prop
  | 0, _, _, _ => False
  | n + 1, v1, v2, S => (if 9 ≤ v2 then Q v1 S else (∃ a2, S.2.2 v0 32 = some a2 ∧ (vp_in v2 (G.2.1 a2) ∧ f_X11_isWord G v0 (S.2.1 a2 v2.toNatClampNeg) (fun r5 S4 => (if r5 = 0 then (f_X11_partAt_4_n G v0 Q n) v1 (v2 + 1) S4 else (∀ x7 : Int32, x7 = v2 + 1 → (f_X11_partAt_4_n G v0 Q n) x7 (v2 + 1) S4))) S)))
def f_X11_partAt_4 (G : Gm) (v0 : Nat) (Q : Int32 → St → Prop) (v1 : Int32) (v2 : Int32) (S : St) : Prop := ∃ n, f_X11_partAt_4_n G v0 Q n v1 v2 S
def f_X11_partAt (G : Gm) (v0 : Nat) (Q : Int32 → St → Prop) (S : St) : Prop :=
  f_X11_partAt_4 G v0 Q (-1) 0 S
def f_X11_leaf_19 (G : Gm) (v0 : Nat) (v2 : Int32) (v3 : Int32) (u0 : Int32) (u1 : Nat) (Q : St → Prop) (S : St) : Prop :=
  f_X11_must G u1 u0 (fun S1 => (if (S1.1 v0 20) = 0 then f_X11_emit G v0 v2 v3 (fun S3 => (∀ S4, S4 = uI S3 v0 27 ((S3.1 v0 27) + 1) → Q S4)) S1 else Q S1)) S
def f_X11_leaf_18 (G : Gm) (v0 : Nat) (v2 : Int32) (v3 : Int32) (u0 : Nat) (Q : St → Prop) (S : St) : Prop :=
  f_X11_leaf_19 G v0 v2 v3 0 u0 Q S
def f_X11_leaf (G : Gm) (v0 : Nat) (v1 : Int32) (v2 : Int32) (v3 : Int32) (Q : St → Prop) (S : St) : Prop :=
  (if v1 = 0 then f_X11_leaf_18 G v0 v2 v3 v0 Q S else (if 50 ≤ (S.1 v0 27) then f_X11_leaf_18 G v0 v2 v3 v0 Q S else f_X11_leaf_19 G v0 v2 v3 1 v0 Q S))
def f_X11_number_33 (G : Gm) (v5 : Int32) (u0 : Int32) (u1 : Nat) (Q : Int32 → St → Prop) (S : St) : Prop :=
  f_X11_must G u1 u0 (fun S1 => Q v5 S1) S
def f_X11_number_32 (G : Gm) (v5 : Int32) (u0 : Nat) (Q : Int32 → St → Prop) (S : St) : Prop :=
  f_X11_number_33 G v5 0 u0 Q S
def f_X11_number (G : Gm) (v0 : Nat) (v1 : Int64) (v3 : Int64) (Q : Int32 → St → Prop) (S : St) : Prop :=
  (∀ x1 : Int32, x1 = (S.2.1 v0 18).toInt32 → (if (S.1 v0 17) = 2 then f_X11_in G (S.2.1 v0 18) v1 v3 (fun r4 S3 => (if r4 = 0 then f_X11_number_32 G x1 v0 Q S3 else f_X11_number_33 G x1 1 v0 Q S3)) S else f_X11_number_32 G x1 v0 Q S))
def f_X11_readPart_99 (G : Gm) (v0 : Nat) (v1 : Int32) (u0 : Int32) (u1 : Int32) (u2 : Int32) (u3 : Nat) (Q : Int32 → St → Prop) (S : St) : Prop :=
  f_X11_leaf G u3 u2 u1 u0 (fun S1 => (if (S1.1 v0 21) = 0 then Q 3 S1 else (if v1 < 5 then Q 3 S1 else (if (S1.1 v0 20) = 0 then (∀ x5 : Int32, x5 = (S1.1 v0 24) - 1 → (∃ a6, S1.2.2 v0 26 = some a6 ∧ f_X11_number G v0 0 5 (fun r8 S7 => (vp_in x5 (G.2.1 a6) ∧ ∀ S10, S10 = uI S7 a6 x5.toNatClampNeg r8 → Q 3 S10)) S1)) else Q 3 S1)))) S
def f_X11_readPart_86 (G : Gm) (v0 : Nat) (v1 : Int32) (v2 : Int32) (u0 : Int32) (u1 : Int32) (u2 : Nat) (Q : Int32 → St → Prop) (S : St) : Prop :=
  (if v2 = 0 then f_X11_readPart_99 G v0 v1 0 u0 u1 u2 Q S else f_X11_readPart_99 G v0 v1 ((S.2.1 v0 18).toInt32) u0 u1 u2 Q S)
def f_X11_readPart_76 (G : Gm) (v0 : Nat) (v1 : Int32) (v2 : Int32) (u0 : Int32) (u1 : Nat) (Q : Int32 → St → Prop) (S : St) : Prop :=
  (if v1 = (-1) then f_X11_readPart_86 G v0 v1 v2 0 u0 u1 Q S else f_X11_readPart_86 G v0 v1 v2 v1 u0 u1 Q S)
def f_X11_readPart_71 (G : Gm) (v0 : Nat) (v1 : Int32) (v2 : Int32) (u0 : Nat) (Q : Int32 → St → Prop) (S : St) : Prop :=
  f_X11_readPart_76 G v0 v1 v2 1 u0 Q S
def f_X11_readPart_60 (G : Gm) (v0 : Nat) (v1 : Int32) (u0 : Int32) (Q : Int32 → St → Prop) (S : St) : Prop :=
  (if v1 = (-1) then (if u0 = 0 then f_X11_readPart_76 G v0 v1 u0 0 v0 Q S else f_X11_readPart_71 G v0 v1 u0 v0 Q S) else f_X11_readPart_71 G v0 v1 u0 v0 Q S)
def f_X11_readPart_59 (G : Gm) (v0 : Nat) (v1 : Int32) (Q : Int32 → St → Prop) (S : St) : Prop :=
  f_X11_readPart_60 G v0 v1 0 Q S
def f_X11_readPart_35 (G : Gm) (v0 : Nat) (u0 : Int32) (Q : Int32 → St → Prop) (S : St) : Prop :=
  (if (S.1 v0 17) = 2 then (if 0 < (lg_cmp (S.2.1 v0 18) 1000) then f_X11_readPart_59 G v0 u0 Q S else f_X11_readPart_60 G v0 u0 1 Q S) else f_X11_readPart_59 G v0 u0 Q S)
def f_X11_readPart (G : Gm) (v0 : Nat) (Q : Int32 → St → Prop) (S : St) : Prop :=
  f_X11_isSign G v0 91 (fun r2 S1 => (if r2 = 0 then (if (S1.1 v0 21) = 0 then f_X11_partAt G v0 (fun r6 S5 => f_X11_readPart_35 G v0 r6 Q S5) S1 else f_X11_orderPartAt G v0 (fun r8 S7 => f_X11_readPart_35 G v0 r8 Q S7) S1) else f_X11_openBracket G v0 32 (fun S9 => Q 1 S9) S1)) S
def f_X11_readPlain (G : Gm) (v0 : Nat) (Q : Int32 → St → Prop) (S : St) : Prop :=
  f_X11_isWord G v0 14836 (fun r2 S1 => (if r2 = 0 then f_X11_isSign G v0 40 (fun r5 S4 => (if r5 = 0 then f_X11_readPart G v0 (fun r8 S7 => Q r8 S7) S4 else f_X11_openBracket G v0 31 (fun S9 => Q 0 S9) S4)) S1 else f_X11_push G v0 28 0 (fun S10 => f_X11_next G v0 (fun S11 => Q 0 S11) S10) S1)) S
def f_X11_readExpression_76 (G : Gm) (v0 : Nat) (Q : St → Prop) (S : St) : Prop :=
  f_X11_settle G v0 1 (fun S1 => Q S1) S
def f_X11_readExpression_20_n (G : Gm) (v0 : Nat) (v1 : Int32) (Q : St → Prop) : Nat → Int32 → St → Prop
  | 0, _, _ => False
  | n + 1, v2, S => (if (S.1 v0 20) = 0 then (if v2 = 4 then f_X11_readExpression_76 G v0 Q S else (if v2 = 0 then f_X11_readPlain G v0 (fun r13 S12 => (f_X11_readExpression_20_n G v0 v1 Q n) r13 S12) S else (if v2 = 1 then f_X11_readPart G v0 (fun r11 S10 => (f_X11_readExpression_20_n G v0 v1 Q n) r11 S10) S else (if v2 = 3 then f_X11_behindSum G v0 v1 (fun r9 S8 => (f_X11_readExpression_20_n G v0 v1 Q n) r9 S8) S else f_X11_behindTest G v0 (fun r7 S6 => (f_X11_readExpression_20_n G v0 v1 Q n) r7 S6) S)))) else f_X11_readExpression_76 G v0 Q S)
def f_X11_readExpression_20 (G : Gm) (v0 : Nat) (v1 : Int32) (Q : St → Prop) (v2 : Int32) (S : St) : Prop := ∃ n, f_X11_readExpression_20_n G v0 v1 Q n v2 S
def f_X11_readExpression (G : Gm) (v0 : Nat) (v1 : Int32) (Q : St → Prop) (S : St) : Prop :=
  (∀ S1, S1 = uI S v0 30 0 → (∀ S2, S2 = uI S1 v0 31 0 → (if v1 = 0 then f_X11_readExpression_20 G v0 v1 Q 1 S2 else f_X11_readExpression_20 G v0 v1 Q 0 S2)))
def f_X11_readLaw_185 (G : Gm) (v0 : Nat) (v2 : Int32) (Q : St → Prop) (S : St) : Prop :=
  (∃ a1, S.2.2 v0 23 = some a1 ∧ (vp_in (v2 + 6) (G.2.1 a1) ∧ ∀ S3, S3 = uI S a1 (v2 + 6).toNatClampNeg (S.1 v0 24) → Q S3))
def f_X11_readLaw_135 (G : Gm) (v0 : Nat) (v2 : Int32) (Q : St → Prop) (S : St) : Prop :=
  (∃ a1, S.2.2 v0 23 = some a1 ∧ (vp_in (v2 + 4) (G.2.1 a1) ∧ ∀ S3, S3 = uI S a1 (v2 + 4).toNatClampNeg (S.1 v0 24) → (∃ a4, S3.2.2 v0 23 = some a4 ∧ (vp_in (v2 + 5) (G.2.1 a4) ∧ ∀ S6, S6 = uI S3 a4 (v2 + 5).toNatClampNeg (S3.1 v0 24) → (if (S6.1 v0 20) = 0 then f_X11_isWord G v0 294 (fun r9 S8 => (if r9 = 0 then f_X11_readLaw_185 G v0 v2 Q S8 else f_X11_next G v0 (fun S11 => f_X11_readExpression G v0 1 (fun S12 => f_X11_readLaw_185 G v0 v2 Q S12) S11) S8)) S6 else f_X11_readLaw_185 G v0 v2 Q S6)))))
def f_X11_readLaw_75_n (G : Gm) (v0 : Nat) (v1 : Int32) (v2 : Int32) (Q : St → Prop) : Nat → Int32 → St → Prop
  | 0, _, _ => False
  | n + 1, v3, S => (if 8 ≤ v3 then (∃ a2, S.2.2 v0 23 = some a2 ∧ (vp_in v2 (G.2.1 a2) ∧ ∀ S4, S4 = uI S a2 v2.toNatClampNeg v1 → (∀ S5, S5 = uI S4 v0 22 ((S4.1 v0 22) + 1) → (∃ a6, S5.2.2 v0 23 = some a6 ∧ (vp_in (v2 + 3) (G.2.1 a6) ∧ ∀ S8, S8 = uI S5 a6 (v2 + 3).toNatClampNeg (S5.1 v0 24) → (if v1 = 3 then f_X11_readLaw_135 G v0 v2 Q S8 else f_X11_readExpression G v0 0 (fun S10 => f_X11_readLaw_135 G v0 v2 Q S10) S8)))))) else (∃ a11, S.2.2 v0 23 = some a11 ∧ (vp_in (v2 + v3) (G.2.1 a11) ∧ ∀ S13, S13 = uI S a11 (v2 + v3).toNatClampNeg 0 → (f_X11_readLaw_75_n G v0 v1 v2 Q n) (v3 + 1) S13)))
def f_X11_readLaw_75 (G : Gm) (v0 : Nat) (v1 : Int32) (v2 : Int32) (Q : St → Prop) (v3 : Int32) (S : St) : Prop := ∃ n, f_X11_readLaw_75_n G v0 v1 v2 Q n v3 S
def f_X11_readLaw_54 (G : Gm) (v0 : Nat) (v1 : Int32) (u0 : Int32) (u1 : Nat) (Q : St → Prop) (S : St) : Prop :=
  f_X11_must G u1 u0 (fun S1 => (if (S1.1 v0 20) = 0 then (∀ x3 : Int32, x3 = 8 * (S1.1 v0 22) → f_X11_readLaw_75 G v0 v1 x3 Q 0 S1) else Q S1)) S
def f_X11_readLaw_53 (G : Gm) (v0 : Nat) (v1 : Int32) (u0 : Nat) (Q : St → Prop) (S : St) : Prop :=
  f_X11_readLaw_54 G v0 v1 0 u0 Q S
def f_X11_readLaw_4_n (G : Gm) (v0 : Nat) (Q : St → Prop) : Nat → Int32 → Int32 → St → Prop
  | 0, _, _, _ => False
  | n + 1, v1, v2, S => (if 4 ≤ v2 then (if v1 = (-1) then f_X11_readLaw_53 G v0 v1 v0 Q S else (if 12 ≤ (S.1 v0 22) then f_X11_readLaw_53 G v0 v1 v0 Q S else f_X11_readLaw_54 G v0 v1 1 v0 Q S)) else (∃ a4, S.2.2 v0 34 = some a4 ∧ (vp_in v2 (G.2.1 a4) ∧ f_X11_isWord G v0 (S.2.1 a4 v2.toNatClampNeg) (fun r7 S6 => (if r7 = 0 then (f_X11_readLaw_4_n G v0 Q n) v1 (v2 + 1) S6 else (f_X11_readLaw_4_n G v0 Q n) v2 (v2 + 1) S6)) S)))
def f_X11_readLaw_4 (G : Gm) (v0 : Nat) (Q : St → Prop) (v1 : Int32) (v2 : Int32) (S : St) : Prop := ∃ n, f_X11_readLaw_4_n G v0 Q n v1 v2 S
def f_X11_readLaw (G : Gm) (v0 : Nat) (Q : St → Prop) (S : St) : Prop :=
  f_X11_readLaw_4 G v0 Q (-1) 0 S
def f_X11_law_145_n (G : Gm) (v0 : Nat) (v1 : Int32) (Q : Int32 → St → Prop) : Nat → Int32 → St → Prop
  | 0, _, _ => False
  | n + 1, v2, S => (if (S.1 v0 24) ≤ v2 then (∃ a2, S.2.2 v0 4 = some a2 ∧ (vp_in 2 (G.2.1 a2) ∧ (vp_in 2 (G.2.1 a2) ∧ ∀ S5, S5 = uI S a2 (2 : Int32).toNatClampNeg ((S.1 a2 (2 : Int32).toNatClampNeg) + 1) → (∃ a6, S5.2.2 v0 4 = some a6 ∧ (vp_in 2 (G.2.1 a6) ∧ f_X11_tell G v0 ((S5.1 a6 (2 : Int32).toNatClampNeg) - 1) (fun r9 S8 => Q r9 S8) S5))))) else (∃ a10, S.2.2 v0 4 = some a10 ∧ (∃ a11, S.2.2 v0 25 = some a11 ∧ (vp_in v2 (G.2.1 a11) ∧ (vp_in ((v1 + 98) + (2 * v2)) (G.2.1 a10) ∧ ∀ S14, S14 = uI S a10 ((v1 + 98) + (2 * v2)).toNatClampNeg (S.1 a11 v2.toNatClampNeg) → (∃ a15, S14.2.2 v0 4 = some a15 ∧ (∃ a16, S14.2.2 v0 26 = some a16 ∧ (vp_in v2 (G.2.1 a16) ∧ (vp_in (((v1 + 98) + (2 * v2)) + 1) (G.2.1 a15) ∧ ∀ S19, S19 = uI S14 a15 (((v1 + 98) + (2 * v2)) + 1).toNatClampNeg (S14.1 a16 v2.toNatClampNeg) → (f_X11_law_145_n G v0 v1 Q n) (v2 + 1) S19)))))))))
def f_X11_law_145 (G : Gm) (v0 : Nat) (v1 : Int32) (Q : Int32 → St → Prop) (v2 : Int32) (S : St) : Prop := ∃ n, f_X11_law_145_n G v0 v1 Q n v2 S
def f_X11_law_110_n (G : Gm) (v0 : Nat) (v1 : Int32) (Q : Int32 → St → Prop) : Nat → Int32 → St → Prop
  | 0, _, _ => False
  | n + 1, v2, S => (if (8 * (S.1 v0 22)) ≤ v2 then f_X11_law_145 G v0 v1 Q 0 S else (∃ a2, S.2.2 v0 4 = some a2 ∧ (∃ a3, S.2.2 v0 23 = some a3 ∧ (vp_in v2 (G.2.1 a3) ∧ (vp_in ((v1 + 2) + v2) (G.2.1 a2) ∧ ∀ S6, S6 = uI S a2 ((v1 + 2) + v2).toNatClampNeg (S.1 a3 v2.toNatClampNeg) → (f_X11_law_110_n G v0 v1 Q n) (v2 + 1) S6)))))
def f_X11_law_110 (G : Gm) (v0 : Nat) (v1 : Int32) (Q : Int32 → St → Prop) (v2 : Int32) (S : St) : Prop := ∃ n, f_X11_law_110_n G v0 v1 Q n v2 S
def f_X11_law_64 (G : Gm) (v0 : Nat) (Q : Int32 → St → Prop) (S : St) : Prop :=
  f_X11_endText G v0 (fun S1 => (if (S1.1 v0 20) = 0 then (∃ a3, S1.2.2 v0 4 = some a3 ∧ (vp_in 2 (G.2.1 a3) ∧ (∀ x5 : Int32, x5 = 85 + (900 * (S1.1 a3 (2 : Int32).toNatClampNeg)) → (∃ a6, S1.2.2 v0 4 = some a6 ∧ (vp_in (x5 + 1) (G.2.1 a6) ∧ ∀ S8, S8 = uI S1 a6 (x5 + 1).toNatClampNeg (S1.1 v0 22) → f_X11_law_110 G v0 x5 Q 0 S8))))) else f_X11_tell G v0 (-6) (fun r10 S9 => Q r10 S9) S1)) S
def f_X11_law_37_n (G : Gm) (v0 : Nat) (Q : Int32 → St → Prop) : Nat → St → Prop
  | 0, _ => False
  | n + 1, S => (if (S.1 v0 20) = 0 then f_X11_isSign G v0 59 (fun r3 S2 => (if r3 = 0 then f_X11_law_64 G v0 Q S2 else f_X11_next G v0 (fun S5 => f_X11_readLaw G v0 (fun S6 => (f_X11_law_37_n G v0 Q n)  S6) S5) S2)) S else f_X11_law_64 G v0 Q S)
def f_X11_law_37 (G : Gm) (v0 : Nat) (Q : Int32 → St → Prop) (S : St) : Prop := ∃ n, f_X11_law_37_n G v0 Q n S
def f_X11_law (G : Gm) (v0 : Nat) (Q : Int32 → St → Prop) (S : St) : Prop :=
  (∀ S1, S1 = uI S v0 0 0 → (∃ a2, S1.2.2 v0 4 = some a2 ∧ (vp_in 2 (G.2.1 a2) ∧ (if (S1.1 a2 (2 : Int32).toNatClampNeg) = 6 then (∀ S7, S7 = uI S1 v0 14 0 → f_X11_tell G v0 (-5) (fun r9 S8 => Q r9 S8) S7) else f_X11_beginText G v0 0 (fun S5 => f_X11_readLaw G v0 (fun S6 => f_X11_law_37 G v0 Q S6) S5) S1))))
def f_X11_lens (G : Gm) (v0 : Nat) (v1 : Int32) (v2 : Int32) (Q : Int32 → St → Prop) (S : St) : Prop :=
  (∀ S1, S1 = uI S v0 0 0 → f_X11_in G v1.toInt64 0 7 (fun r3 S2 => (if r3 = 0 then Q (-1) S2 else f_X11_isSight G v2 (fun r6 S5 => (if r6 = 0 then Q (-1) S5 else (∃ a8, S5.2.2 v0 3 = some a8 ∧ (vp_in ((256 * v1) + v2) (G.2.1 a8) ∧ Q (S5.1 a8 ((256 * v1) + v2).toNatClampNeg) S5)))) S2)) S1)
def f_X11_mildest_134_n (G : Gm) (v0 : Nat) (v1 : Int32) (v2 : Int32) (v3 : Int32) (Q : Int32 → St → Prop) : Nat → Int32 → Int32 → St → Prop
  | 0, _, _, _ => False
  | n + 1, v4, v5, S => (if v5 < 0 then Q v4 S else (∃ a2, S.2.2 v0 3 = some a2 ∧ (vp_in ((256 * v5) + v2) (G.2.1 a2) ∧ f_X11_doesOf G v0 v1 (S.1 a2 ((256 * v5) + v2).toNatClampNeg) (fun r5 S4 => (if r5 = v3 then (∀ x7 : Int32, x7 = v5 + 1 → (f_X11_mildest_134_n G v0 v1 v2 v3 Q n) x7 (v5 + (-1)) S4) else (f_X11_mildest_134_n G v0 v1 v2 v3 Q n) v4 (v5 + (-1)) S4)) S)))
def f_X11_mildest_134 (G : Gm) (v0 : Nat) (v1 : Int32) (v2 : Int32) (v3 : Int32) (Q : Int32 → St → Prop) (v4 : Int32) (v5 : Int32) (S : St) : Prop := ∃ n, f_X11_mildest_134_n G v0 v1 v2 v3 Q n v4 v5 S
def f_X11_mildest_61_n (G : Gm) (k52 : Int32 → Int32 → St → Prop) (v0 : Nat) (v1 : Int32) (v2 : Int32) (v3 : Int32) (v5 : Int32) (Q : Int32 → St → Prop) : Nat → Int32 → Int32 → St → Prop
  | 0, _, _, _ => False
  | n + 1, v4, v6, S => (if v6 < 0 then k52 v4 (v5 + (-1)) S else (∃ a2, S.2.2 v0 3 = some a2 ∧ (∃ a3, S.2.2 v0 3 = some a3 ∧ (vp_in ((256 * v5) + v2) (G.2.1 a3) ∧ (vp_in ((256 * v6) + (S.1 a3 ((256 * v5) + v2).toNatClampNeg)) (G.2.1 a2) ∧ f_X11_doesOf G v0 v1 (S.1 a2 ((256 * v6) + (S.1 a3 ((256 * v5) + v2).toNatClampNeg)).toNatClampNeg) (fun r7 S6 => (if r7 = v3 then (∀ x9 : Int32, x9 = ((10 * v5) + v6) + 11 → (f_X11_mildest_61_n G k52 v0 v1 v2 v3 v5 Q n) x9 (v6 + (-1)) S6) else (f_X11_mildest_61_n G k52 v0 v1 v2 v3 v5 Q n) v4 (v6 + (-1)) S6)) S)))))
def f_X11_mildest_61 (G : Gm) (k52 : Int32 → Int32 → St → Prop) (v0 : Nat) (v1 : Int32) (v2 : Int32) (v3 : Int32) (v5 : Int32) (Q : Int32 → St → Prop) (v4 : Int32) (v6 : Int32) (S : St) : Prop := ∃ n, f_X11_mildest_61_n G k52 v0 v1 v2 v3 v5 Q n v4 v6 S
def f_X11_mildest_52_n (G : Gm) (v0 : Nat) (v1 : Int32) (v2 : Int32) (v3 : Int32) (Q : Int32 → St → Prop) : Nat → Int32 → Int32 → St → Prop
  | 0, _, _, _ => False
  | n + 1, v4, v5, S => (if v5 < 0 then f_X11_mildest_134 G v0 v1 v2 v3 Q v4 7 S else f_X11_mildest_61 G (f_X11_mildest_52_n G v0 v1 v2 v3 Q n) v0 v1 v2 v3 v5 Q v4 7 S)
def f_X11_mildest_52 (G : Gm) (v0 : Nat) (v1 : Int32) (v2 : Int32) (v3 : Int32) (Q : Int32 → St → Prop) (v4 : Int32) (v5 : Int32) (S : St) : Prop := ∃ n, f_X11_mildest_52_n G v0 v1 v2 v3 Q n v4 v5 S
def f_X11_mildest (G : Gm) (v0 : Nat) (v1 : Int32) (Q : Int32 → St → Prop) (S : St) : Prop :=
  (∀ S1, S1 = uI S v0 0 0 → f_X11_isPerson G v0 v1 (fun r3 S2 => (if r3 = 0 then Q (-1) S2 else (∃ a5, S2.2.2 v0 4 = some a5 ∧ (vp_in 7 (G.2.1 a5) ∧ (∀ x7 : Int32, x7 = S2.1 a5 (7 : Int32).toNatClampNeg → (∃ a8, S2.2.2 v0 4 = some a8 ∧ (vp_in (62 + v1) (G.2.1 a8) ∧ (∀ x10 : Int32, x10 = S2.1 a8 (62 + v1).toNatClampNeg → f_X11_doesOf G v0 v1 x7 (fun r12 S11 => (if r12 = x10 then Q 0 S11 else f_X11_mildest_52 G v0 v1 x7 x10 Q (-1) 7 S11)) S2)))))))) S1)
