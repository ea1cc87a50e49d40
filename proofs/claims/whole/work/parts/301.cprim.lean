/-! The class's reader: its state, its smallest steps. -/
theorem ite_q {c : Prop} {_ : Decidable c} {x y : Int32} {Q : Int32 → St → Prop} {S : St} {B : Prop} (h : B = Q y S) : (if c then Q x S else B) = Q (if c then x else y) S := by
  by_cases hc : c
  · rw [if_pos hc, if_pos hc]
  · rw [if_neg hc, if_neg hc]; exact h
def tI (t : Nat) : Int32 := if t = 99 then -1 else nI t
def stepV (v0 : Int32) : Int32 :=
  (if (v0 - 100) = 37 then 6 else (if (v0 - 100) = 38 then (-1) else (if (v0 - 100) = 39 then (-1) else (if (v0 - 100) = 40 then (-1) else (if (v0 - 100) = 41 then (-1) else (if (v0 - 100) = 42 then 4 else (if (v0 - 100) = 43 then 2 else (if (v0 - 100) = 44 then (-1) else (if (v0 - 100) = 45 then 3 else (if (v0 - 100) = 46 then (-1) else (if (v0 - 100) = 47 then 5 else (if (v0 - 100) = 48 then (-1) else (if (v0 - 100) = 49 then (-1) else (if (v0 - 100) = 50 then (-1) else (if (v0 - 100) = 51 then (-1) else (if (v0 - 100) = 52 then (-1) else (if (v0 - 100) = 53 then (-1) else (if (v0 - 100) = 54 then (-1) else (if (v0 - 100) = 55 then (-1) else (if (v0 - 100) = 56 then (-1) else (if (v0 - 100) = 57 then (-1) else (if (v0 - 100) = 58 then (-1) else (if (v0 - 100) = 59 then (-1) else (if (v0 - 100) = 60 then 7 else (if (v0 - 100) = 61 then 9 else (if (v0 - 100) = 62 then 8 else (-1)))))))))))))))))))))))))))
theorem stepV_e {G : Gm} {S : St} {v : Int32} {Q : Int32 → St → Prop} (h : Q (stepV v) S) : f_X6_stepOf G v Q S := by
  have e : f_X6_stepOf G v Q S = Q (stepV v) S := ite_q (ite_q (ite_q (ite_q (ite_q (ite_q (ite_q (ite_q (ite_q (ite_q (ite_q (ite_q (ite_q (ite_q (ite_q (ite_q (ite_q (ite_q (ite_q (ite_q (ite_q (ite_q (ite_q (ite_q (ite_q (ite_q (rfl))))))))))))))))))))))))))
  rw [e]; exact h
def lawV (v0 : Int32) : Int32 :=
  (if v0 = 4 then 2 else (if v0 = 5 then (-1) else (if v0 = 6 then (-1) else (if v0 = 7 then (-1) else (if v0 = 8 then (-1) else (if v0 = 9 then (-1) else (if v0 = 10 then (-1) else (if v0 = 11 then (-1) else (if v0 = 12 then (-1) else (if v0 = 13 then (-1) else (if v0 = 14 then (-1) else (if v0 = 15 then (-1) else (if v0 = 16 then 0 else (if v0 = 17 then 1 else (if v0 = 18 then 3 else (if v0 = 19 then 4 else (if v0 = 20 then 5 else (if v0 = 21 then 6 else (if v0 = 22 then 7 else (if v0 = 23 then 8 else (-1)))))))))))))))))))))
theorem lawV_e {G : Gm} {S : St} {v : Int32} {Q : Int32 → St → Prop} (h : Q (lawV v) S) : f_X6_lawWord G v Q S := by
  have e : f_X6_lawWord G v Q S = Q (lawV v) S := ite_q (ite_q (ite_q (ite_q (ite_q (ite_q (ite_q (ite_q (ite_q (ite_q (ite_q (ite_q (ite_q (ite_q (ite_q (ite_q (ite_q (ite_q (ite_q (ite_q (rfl))))))))))))))))))))
  rw [e]; exact h
def ordV (v0 : Int32) : Int32 :=
  (if v0 = 2 then 16 else (if v0 = 3 then (-1) else (if v0 = 4 then (-1) else (if v0 = 5 then (-1) else (if v0 = 6 then (-1) else (if v0 = 7 then (-1) else (if v0 = 8 then (-1) else (if v0 = 9 then (-1) else (if v0 = 10 then (-1) else (if v0 = 11 then (-1) else (if v0 = 12 then (-1) else (if v0 = 13 then (-1) else (if v0 = 14 then (-1) else (if v0 = 15 then (-1) else (if v0 = 16 then (-1) else (if v0 = 17 then (-1) else (if v0 = 18 then 4 else (if v0 = 19 then 10 else (if v0 = 20 then (-1) else (if v0 = 21 then (-1) else (if v0 = 22 then 0 else (if v0 = 23 then (-1) else (if v0 = 24 then 1 else (if v0 = 25 then 2 else (if v0 = 26 then 3 else (-1))))))))))))))))))))))))))
theorem ordV_e {G : Gm} {S : St} {v : Int32} {Q : Int32 → St → Prop} (h : Q (ordV v) S) : f_X6_orderWord G v Q S := by
  have e : f_X6_orderWord G v Q S = Q (ordV v) S := ite_q (ite_q (ite_q (ite_q (ite_q (ite_q (ite_q (ite_q (ite_q (ite_q (ite_q (ite_q (ite_q (ite_q (ite_q (ite_q (ite_q (ite_q (ite_q (ite_q (ite_q (ite_q (ite_q (ite_q (ite_q (rfl)))))))))))))))))))))))))
  rw [e]; exact h
set_option maxRecDepth 100000 in
theorem stepV_t {t : Nat} (ht : t < 400) : stepV (tI t) = (if stp t = 0 then -1 else nI (stp t)) := all_dec (P := fun t => stepV (tI t) = (if stp t = 0 then -1 else nI (stp t))) (by decide +kernel) ht
set_option maxRecDepth 100000 in
theorem lawV_t {t : Nat} (ht : t < 400) : lawV (tI t) = (if lwW t = 0 then -1 else nI (lwW t - 1)) := all_dec (P := fun t => lawV (tI t) = (if lwW t = 0 then -1 else nI (lwW t - 1))) (by decide +kernel) ht
set_option maxRecDepth 100000 in
theorem ordV_t {t : Nat} (ht : t < 400) : ordV (tI t) = (if orW t = 0 then -1 else nI (orW t - 1)) := all_dec (P := fun t => ordV (tI t) = (if orW t = 0 then -1 else nI (orW t - 1))) (by decide +kernel) ht
theorem stp_le (t : Nat) : stp t ≤ 9 := by unfold stp; repeat' split
                                           all_goals omega
theorem lwW_le (t : Nat) : lwW t ≤ 9 := by unfold lwW; repeat' split
                                           all_goals omega
theorem orW_le (t : Nat) : orW t ≤ 17 ∧ (5 ≤ orW t → orW t = 5 ∨ orW t = 11 ∨ orW t = 17) := by
  unfold orW; repeat' split
  all_goals omega
theorem nI_n1 {n : Nat} (h : n < 2147483648) : ¬ nI n = -1 := by
  intro e
  have h' := congrArg Int32.toInt e
  rw [nI_toInt (by omega)] at h'
  have : (-1 : Int32).toInt = -1 := rfl
  omega
theorem nI_nn {n : Nat} (h : n < 2147483648) : ¬ nI n < 0 := nI_pos (by omega)
theorem tI_e {t m : Nat} (ht : t < 400) (hm : m < 400) (h9 : m ≠ 99) : tI t = nI m ↔ t = m := by
  unfold tI
  by_cases h : t = 99
  · rw [if_pos h]
    exact ⟨fun e => absurd e.symm (nI_n1 (by omega)), fun e => absurd (e.symm.trans h) h9⟩
  · rw [if_neg h, eqI (by omega) (by omega)]
/-- the word's bit is set -/
def ub (u : Int32) (w : Nat) : Prop := (u >>> (nI w &&& 31)) &&& 1 = 1
def updC (c : Cd) (N : Nat) (v : Nat × Nat) : Cd := fun i => if i = N then v else c i
theorem updC_s {c : Cd} {N : Nat} {v : Nat × Nat} : updC c N v N = v := if_pos rfl
theorem updC_n {c : Cd} {N i : Nat} {v : Nat × Nat} (h : i ≠ N) : updC c N v i = c i := if_neg h
/-- what the reader changes in a clause -/
def FrP (B : St) (q : Nat) (S : St) : Prop := S.2 = B.2 ∧ (∀ i, i ≠ 75 → i ≠ 80 → i ≠ 83 → i ≠ 85 → S.1 i = B.1 i) ∧ (∀ j, j ≠ 6 → j ≠ 7 → j ≠ 9 → S.1 75 j = B.1 75 j) ∧ (∀ j, j ≠ 6 → S.1 80 j = B.1 80 j) ∧ (∀ j, j ≠ q → S.1 83 j = B.1 83 j)
theorem FrP.u75 {B S : St} {q j : Nat} {v : Int32} (h : FrP B q S) (hj : j = 6 ∨ j = 7 ∨ j = 9) : FrP B q (uI S 75 j v) :=
  ⟨h.1, fun i h1 h2 h3 h4 => (uI_n _ _ _ _ h1).trans (h.2.1 i h1 h2 h3 h4), fun i h1 h2 h3 => (uI_p _ _ _ _ (by omega)).trans (h.2.2.1 i h1 h2 h3), fun i h1 => by rw [uI_n _ _ _ _ (by omega)]; exact h.2.2.2.1 i h1, fun i h1 => by rw [uI_n _ _ _ _ (by omega)]; exact h.2.2.2.2 i h1⟩
theorem FrP.u80 {B S : St} {q : Nat} {v : Int32} (h : FrP B q S) : FrP B q (uI S 80 6 v) :=
  ⟨h.1, fun i h1 h2 h3 h4 => (uI_n _ _ _ _ h2).trans (h.2.1 i h1 h2 h3 h4), fun i h1 h2 h3 => by rw [uI_n _ _ _ _ (by omega)]; exact h.2.2.1 i h1 h2 h3, fun i h1 => (uI_p _ _ _ _ h1).trans (h.2.2.2.1 i h1), fun i h1 => by rw [uI_n _ _ _ _ (by omega)]; exact h.2.2.2.2 i h1⟩
theorem FrP.u85 {B S : St} {q j : Nat} {v : Int32} (h : FrP B q S) : FrP B q (uI S 85 j v) :=
  ⟨h.1, fun i h1 h2 h3 h4 => (uI_n _ _ _ _ h4).trans (h.2.1 i h1 h2 h3 h4), fun i h1 h2 h3 => by rw [uI_n _ _ _ _ (by omega)]; exact h.2.2.1 i h1 h2 h3, fun i h1 => by rw [uI_n _ _ _ _ (by omega)]; exact h.2.2.2.1 i h1, fun i h1 => by rw [uI_n _ _ _ _ (by omega)]; exact h.2.2.2.2 i h1⟩
theorem FrP.u83 {B S : St} {q : Nat} {v : Int32} (h : FrP B q S) : FrP B q (uI S 83 q v) :=
  ⟨h.1, fun i h1 h2 h3 h4 => (uI_n _ _ _ _ h3).trans (h.2.1 i h1 h2 h3 h4), fun i h1 h2 h3 => by rw [uI_n _ _ _ _ (by omega)]; exact h.2.2.1 i h1 h2 h3, fun i h1 => by rw [uI_n _ _ _ _ (by omega)]; exact h.2.2.2.1 i h1, fun i h1 => by rw [uI_s, if_neg h1]; exact h.2.2.2.2 i h1⟩
def EnvC (G : Gm) (B : St) (tk ts tv : Nat → Nat) (tc : Nat) (od : Bool) (q : Nat) : Prop :=
  ShC G B.2.2 ∧ TkA tk ts tv tc ∧ B.1 75 5 = nI tc ∧ (∀ i, i < tc → B.1 77 i = tI (tk i) ∧ B.1 79 i = nI (tv i)) ∧ (∀ i, i ≤ tc → B.1 78 i = nI (ts i)) ∧ B.1 75 8 = (if od = true then 0 else 1) ∧ B.1 80 5 = nI (q + 1) ∧ q < 12
def CSt (B : St) (od : Bool) (q k p N : Nat) (c : Cd) (us : Nat → Prop) (S : St) : Prop :=
  FrP B q S ∧ S.1 75 6 = nI k ∧ S.1 75 7 = nI p ∧ S.1 75 9 = -1 ∧ S.1 80 6 = nI (2 * N) ∧ (∀ i, i < N → S.1 85 (2 * i) = nI (c i).1 ∧ S.1 85 (2 * i + 1) = nI (agC (c i))) ∧ (∀ w, us w → w < 22 ∧ (od = false → w < 9) ∧ ub (S.1 83 q) w)
def CBd (B : St) (tc q x : Nat) (S : St) : Prop := FrP B q S ∧ S.1 75 6 = nI tc ∧ S.1 75 9 = nI x ∧ x ≤ 400 ∧ ∃ z, z ≤ 800 ∧ S.1 80 6 = nI z
section
variable {G : Gm} {B S : St} {tk ts tv : Nat → Nat} {tc q : Nat} {od : Bool} {Q : Int32 → St → Prop} {K : St → Prop} {k p N : Nat} {c : Cd} {us : Nat → Prop}
theorem FrP.R (h : FrP B q S) : S.2.2 = B.2.2 := by rw [h.1]
theorem c_here (hE : EnvC G B tk ts tv tc od q) (hF : FrP B q S) (h6 : S.1 75 6 = nI k) (hk : k ≤ tc) (z : Q (tI (tk k)) S) : f_X6_here G 75 Q S := by
  obtain ⟨hS, hA, h5, ha, hb, h8, h85, hq⟩ := hE
  have e5 : S.1 75 5 = nI tc := (hF.2.2.1 5 (by omega) (by omega) (by omega)).trans h5
  have t4 := hA.1
  unfold f_X6_here
  rw [h6, e5]
  refine ite_n (nI_nn (by omega)) (ite_c (fun d => ?_) (fun d => ?_))
  · rw [leI (by omega) (by omega)] at d
    rw [hA.2.1 k d] at z
    exact z
  · rw [leI (by omega) (by omega)] at d
    refine ex_y (by rw [hF.R]; exact hS.r75_2) ⟨?_, ?_⟩
    · rw [hS.l77, in_iff (by omega)]; omega
    · rw [clI (by omega), hF.2.1 77 (by omega) (by omega) (by omega) (by omega), (ha k (by omega)).1]; exact z
theorem c_numHere (hE : EnvC G B tk ts tv tc od q) (hF : FrP B q S) (h6 : S.1 75 6 = nI k) (hk : k ≤ tc) (z : Q (if tk k = 50 then nI (tv k) else -1) S) : f_X6_numberHere G 75 Q S := by
  obtain ⟨hS, hA, h5, ha, hb, h8, h85, hq⟩ := hE
  have e5 : S.1 75 5 = nI tc := (hF.2.2.1 5 (by omega) (by omega) (by omega)).trans h5
  have t4 := hA.1
  unfold f_X6_numberHere
  rw [h6, e5]
  refine ite_n (nI_nn (by omega)) (ite_c (fun d => ?_) (fun d => ?_))
  · rw [leI (by omega) (by omega)] at d
    rw [hA.2.1 k d] at z
    exact z
  · rw [leI (by omega) (by omega)] at d
    refine ex_y (by rw [hF.R]; exact hS.r75_2) ⟨?_, ?_⟩
    · rw [hS.l77, in_iff (by omega)]; omega
    · rw [clI (by omega), hF.2.1 77 (by omega) (by omega) (by omega) (by omega), (ha k (by omega)).1]
      have e : tI (tk k) = 50 ↔ tk k = 50 := tI_e (hA.2.2 k).1 (m := 50) (by omega) (by omega)
      refine ite_c (fun d2 => ?_) (fun d2 => ?_)
      · rw [e] at d2
        rw [if_pos d2] at z
        refine ex_y (by rw [hF.R]; exact hS.r75_4) ⟨?_, ?_⟩
        · rw [hS.l79, in_iff (by omega)]; omega
        · rw [hF.2.1 79 (by omega) (by omega) (by omega) (by omega), (ha k (by omega)).2]; exact z
      · rw [e] at d2
        rw [if_neg d2] at z
        exact z
theorem c_fail (hE : EnvC G B tk ts tv tc od q) (hF : FrP B q S) (h6 : S.1 75 6 = nI k) (h9 : S.1 75 9 = -1) (hz : ∃ z, z ≤ 800 ∧ S.1 80 6 = nI z) (hk : k ≤ tc) (z : ∀ S', CBd B tc q (ts k) S' → K S') : f_X6_fail G 75 K S := by
  obtain ⟨hS, hA, h5, ha, hb, h8, h85, hq⟩ := hE
  have e5 : S.1 75 5 = nI tc := (hF.2.2.1 5 (by omega) (by omega) (by omega)).trans h5
  have t4 := hA.1
  unfold f_X6_fail
  rw [h6]
  refine ite_y h9 (ite_n (nI_nn (by omega)) (ite_n (by simp (disch := omega) only [lit, nI_add, pk_mul, leI, ltI, eqI]; omega) (ex_y (by rw [hF.R]; exact hS.r75_3) ⟨?_, ?_⟩)))
  · rw [hS.l78, in_iff (by omega)]; omega
  · rw [clI (by omega), hF.2.1 78 (by omega) (by omega) (by omega) (by omega), hb k hk]
    refine nm_e (nm_e (z _ ⟨(hF.u75 (by omega)).u75 (by omega), ?_, ?_, (hA.2.2 k).2.2, ?_⟩))
    · rw [uI_s, if_pos rfl, uI_s, if_neg (by omega)]; exact e5
    · rw [uI_s, if_neg (by omega), uI_s, if_pos rfl]
    · obtain ⟨zz, h1, h2⟩ := hz
      exact ⟨zz, h1, by rw [uI_n _ _ _ _ (by omega), uI_n _ _ _ _ (by omega)]; exact h2⟩
theorem CSt.fail (hE : EnvC G B tk ts tv tc od q) (h : CSt B od q k p N c us S) (hk : k ≤ tc) (hN : N ≤ 400) (z : ∀ S', CBd B tc q (ts k) S' → K S') : f_X6_fail G 75 K S :=
  c_fail hE h.1 h.2.1 h.2.2.2.1 ⟨2 * N, by omega, h.2.2.2.2.1⟩ hk z
theorem c_failB {x : Nat} (hE : EnvC G B tk ts tv tc od q) (h : CBd B tc q x S) (z : ∀ S', CBd B tc q x S' → K S') : f_X6_fail G 75 K S := by
  obtain ⟨hF, h6, h9, hx, zz, hz1, hz2⟩ := h
  have e5 : S.1 75 5 = nI tc := (hF.2.2.1 5 (by omega) (by omega) (by omega)).trans hE.2.2.1
  unfold f_X6_fail
  rw [h9]
  refine ite_n (nI_n1 (by omega)) (nm_e (z _ ⟨hF.u75 (by omega), ?_, ?_, hx, zz, hz1, ?_⟩))
  · rw [uI_s, if_pos rfl]; exact e5
  · rw [uI_s, if_neg (by omega)]; exact h9
  · rw [uI_n _ _ _ _ (by omega)]; exact hz2
theorem c_hereB {x : Nat} (hE : EnvC G B tk ts tv tc od q) (h : CBd B tc q x S) (z : Q 51 S) : f_X6_here G 75 Q S :=
  c_here hE h.1 h.2.1 (Nat.le_refl _) (by rw [hE.2.1.2.1 tc (Nat.le_refl _)]; exact z)
theorem c_numB {x : Nat} (hE : EnvC G B tk ts tv tc od q) (h : CBd B tc q x S) (z : Q (-1) S) : f_X6_numberHere G 75 Q S :=
  c_numHere hE h.1 h.2.1 (Nat.le_refl _) (by rw [hE.2.1.2.1 tc (Nat.le_refl _)]; exact z)
/-- at goes on by one -/
theorem CSt.next (h : CSt B od q k p N c us S) : CSt B od q (k + 1) p N c us (uI S 75 6 (S.1 75 6 + 1)) := by
  obtain ⟨hF, h6, h7, h9, h80, hc, hu⟩ := h
  refine ⟨hF.u75 (by omega), ?_, ?_, ?_, ?_, fun i hi => ?_, fun w hw => ?_⟩
  · rw [uI_s, if_pos rfl, h6, nI_1]
  · rw [uI_s, if_neg (by omega)]; exact h7
  · rw [uI_s, if_neg (by omega)]; exact h9
  · rw [uI_n _ _ _ _ (by omega)]; exact h80
  · rw [uI_n _ _ _ _ (by omega)]; exact hc i hi
  · rw [uI_n _ _ _ _ (by omega)]; exact hu w hw
theorem CSt.part (h : CSt B od q k p N c us S) : CSt B od q k (p + 1) N c us (uI S 75 7 (S.1 75 7 + 1)) := by
  obtain ⟨hF, h6, h7, h9, h80, hc, hu⟩ := h
  refine ⟨hF.u75 (by omega), ?_, ?_, ?_, ?_, fun i hi => ?_, fun w hw => ?_⟩
  · rw [uI_s, if_neg (by omega)]; exact h6
  · rw [uI_s, if_pos rfl, h7, nI_1]
  · rw [uI_s, if_neg (by omega)]; exact h9
  · rw [uI_n _ _ _ _ (by omega)]; exact h80
  · rw [uI_n _ _ _ _ (by omega)]; exact hc i hi
  · rw [uI_n _ _ _ _ (by omega)]; exact hu w hw
/-- a step is put -/
theorem CSt.put3 {o x : Nat} (h : CSt B od q k p N c us S) : CSt B od q k p (N + 1) (updC c N (o, x)) us (uI (uI (uI S 85 (2 * N) (nI o)) 85 (2 * N + 1) (nI (agC (o, x)))) 80 6 (nI (2 * N) + 2)) := by
  obtain ⟨hF, h6, h7, h9, h80, hc, hu⟩ := h
  refine ⟨hF.u85.u85.u80, ?_, ?_, ?_, ?_, fun i hi => ?_, fun w hw => ?_⟩
  · rw [uI_n _ _ _ _ (by omega), uI_n _ _ _ _ (by omega), uI_n _ _ _ _ (by omega)]; exact h6
  · rw [uI_n _ _ _ _ (by omega), uI_n _ _ _ _ (by omega), uI_n _ _ _ _ (by omega)]; exact h7
  · rw [uI_n _ _ _ _ (by omega), uI_n _ _ _ _ (by omega), uI_n _ _ _ _ (by omega)]; exact h9
  · rw [uI_s, if_pos rfl, lit, nI_add]; rfl
  · rw [uI_n _ _ _ _ (by omega), uI_s, if_neg (by omega), uI_s, uI_s, uI_s]
    by_cases e : i = N
    · subst e
      rw [if_pos rfl, if_pos rfl, updC_s]
      exact ⟨rfl, rfl⟩
    · rw [if_neg (by omega), if_neg (by omega), if_neg (by omega), updC_n e]
      exact hc i (by omega)
  · rw [uI_n _ _ _ _ (by omega), uI_n _ _ _ _ (by omega), uI_n _ _ _ _ (by omega)]; exact hu w hw
theorem c_put {o x : Nat} (hE : EnvC G B tk ts tv tc od q) (h : CSt B od q k p N c us S) (hN : N < 400) (ho : o ≠ 1) (ho2 : o ≤ 12) (z : ∀ S', CSt B od q k p (N + 1) (updC c N (o, x)) us S' → Q (nI (2 * N)) S') : f_X8_put G 80 (nI o) (nI (agC (o, x))) Q S := by
  have hS := hE.1
  have hR := h.1.R
  have h80 := h.2.2.2.2.1
  unfold f_X8_put
  refine nm_p h80 (ite_n (nI_nn (by omega)) (ex_y (by rw [hR]; exact hS.r80_4) (ite_n ?_ (ex_y (by rw [hR]; exact hS.r80_4) ⟨?_, nm_e (ex_y (by show S.2.2 80 4 = _; rw [hR]; exact hS.r80_4) ⟨?_, nm_e (nm_e ?_)⟩)⟩))))
  · rw [hS.l85, nI_1, leI (by omega) (by omega)]; omega
  · rw [hS.l85, in_iff (by omega)]; omega
  · rw [hS.l85, nI_1, in_iff (by omega)]; omega
  · rw [nI_1, clI (by omega), clI (by omega)]
    refine nm_e (ite_n ?_ (z _ h.put3))
    rw [lit, eqI (by omega) (by omega)]; exact ho
theorem and1_or {a b : Int32} (h : a &&& 1 = 1) : (a ||| b) &&& 1 = 1 := by
  apply Int32.toBitVec_inj.mp
  have h' := congrArg Int32.toBitVec h
  rw [Int32.toBitVec_and] at h'
  rw [Int32.toBitVec_and, Int32.toBitVec_or]
  apply BitVec.eq_of_getLsbD_eq
  intro i hi
  have e := congrArg (fun v => v.getLsbD i) h'
  simp only [BitVec.getLsbD_and, BitVec.getLsbD_or] at e ⊢
  revert e
  cases a.toBitVec.getLsbD i <;> cases b.toBitVec.getLsbD i <;> cases (1 : Int32).toBitVec.getLsbD i <;> simp
theorem ub_or {u v : Int32} {w : Nat} (h : ub u w) : ub (u ||| v) w := by
  unfold ub at h ⊢
  rw [Int32.shiftRight_or]; exact and1_or h
theorem ub_set {u : Int32} {w : Nat} (hw : w < 22) : ub (u ||| ((1 : Int32) <<< (nI w &&& 31))) w := by
  unfold ub
  rw [Int32.shiftRight_or, Int32.or_comm]
  exact and1_or (all_dec (N := 22) (P := fun w => (((1 : Int32) <<< (nI w &&& 31)) >>> (nI w &&& 31)) &&& 1 = 1) (by decide +kernel) hw)
theorem c_putW {w : Nat} (hE : EnvC G B tk ts tv tc od q) (h : CSt B od q k p N c us S) (hN : N < 400) (hw : w < 22) (hw9 : od = false → w < 9) (z : ∀ S', CSt B od q k p (N + 1) (updC c N (1, w)) (fun x => us x ∨ x = w) S' → Q (nI (2 * N)) S') : f_X8_put G 80 1 (nI w) Q S := by
  have hS := hE.1
  have hR := h.1.R
  have h80 := h.2.2.2.2.1
  have q12 := hE.2.2.2.2.2.2.2
  have hq5 := hE.2.2.2.2.2.2.1
  unfold f_X8_put
  refine nm_p h80 (ite_n (nI_nn (by omega)) (ex_y (by rw [hR]; exact hS.r80_4) (ite_n ?_ (ex_y (by rw [hR]; exact hS.r80_4) ⟨?_, nm_e (ex_y (by show S.2.2 80 4 = _; rw [hR]; exact hS.r80_4) ⟨?_, nm_e (nm_e ?_)⟩)⟩))))
  · rw [hS.l85, nI_1, leI (by omega) (by omega)]; omega
  · rw [hS.l85, in_iff (by omega)]; omega
  · rw [hS.l85, nI_1, in_iff (by omega)]; omega
  · rw [nI_1, clI (by omega), clI (by omega)]
    have h3 : CSt B od q k p (N + 1) (updC c N (1, w)) us (uI (uI (uI S 85 (2 * N) 1) 85 (2 * N + 1) (nI w)) 80 6 (nI (2 * N) + 2)) := h.put3 (o := 1) (x := w)
    generalize uI (uI (uI S 85 (2 * N) 1) 85 (2 * N + 1) (nI w)) 80 6 (nI (2 * N) + 2) = S3 at h3 ⊢
    have r3 := h3.1.R
    have e5 : S3.1 80 5 = nI (q + 1) := (h3.1.2.2.2.1 5 (by omega)).trans hq5
    refine nm_p (by rw [e5, nI_pred]) (ite_y rfl (ite_n (nI_nn (by omega)) (ex_y (by rw [r3]; exact hS.r80_2) (ite_n ?_ (ex_y (by rw [r3]; exact hS.r80_2) ?_)))))
    · rw [hS.l83, leI (by omega) (by omega)]; omega
    · rw [hS.l83, in_iff (by omega), clI (by omega)]
      refine ⟨q12, q12, nm_e (z _ ?_)⟩
      obtain ⟨hF, g6, g7, g9, g80, gc, gu⟩ := h3
      refine ⟨hF.u83, ?_, ?_, ?_, ?_, fun i hi => ?_, fun x hx => ?_⟩
      · rw [uI_n _ _ _ _ (by omega)]; exact g6
      · rw [uI_n _ _ _ _ (by omega)]; exact g7
      · rw [uI_n _ _ _ _ (by omega)]; exact g9
      · rw [uI_n _ _ _ _ (by omega)]; exact g80
      · rw [uI_n _ _ _ _ (by omega)]; exact gc i hi
      · rw [uI_s, if_pos rfl]
        rcases hx with hx | hx
        · obtain ⟨g1, g2, g3⟩ := gu x hx
          exact ⟨g1, g2, ub_or g3⟩
        · subst hx
          exact ⟨hw, hw9, ub_set hw⟩
/-- a leap is aimed -/
theorem c_aim {o N0 x : Nat} (hE : EnvC G B tk ts tv tc od q) (h : CSt B od q k p N c us S) (h0 : N0 < N) (hN : N ≤ 400) (ho : o = 11 ∨ o = 12) (hc : c N0 = (o, x)) (z : ∀ S', CSt B od q k p N (updC c N0 (o, N)) us S' → K S') : f_X8_aim G 80 (nI (2 * N0)) K S := by
  have hS := hE.1
  have hR := h.1.R
  unfold f_X8_aim
  refine ite_n (nI_nn (by omega)) (ex_y (by rw [hR]; exact hS.r80_4) (ite_n ?_ (ex_y (by rw [hR]; exact hS.r80_4) ?_)))
  · rw [hS.l85, nI_1, leI (by omega) (by omega)]; omega
  · rw [hS.l85, nI_1, in_iff (by omega), clI (by omega)]
    refine ⟨by omega, nm_e (z _ ?_)⟩
    obtain ⟨hF, h6, h7, h9, h80, hcd, hu⟩ := h
    refine ⟨hF.u85, ?_, ?_, ?_, ?_, fun i hi => ?_, fun w hw => ?_⟩
    · rw [uI_n _ _ _ _ (by omega)]; exact h6
    · rw [uI_n _ _ _ _ (by omega)]; exact h7
    · rw [uI_n _ _ _ _ (by omega)]; exact h9
    · rw [uI_n _ _ _ _ (by omega)]; exact h80
    · rw [uI_s, uI_s, if_neg (by omega)]
      by_cases e : i = N0
      · subst e
        rw [if_pos rfl, updC_s, h80]
        refine ⟨?_, ?_⟩
        · rw [(hcd i hi).1, hc]
        · have : agC (o, N) = 2 * N := by unfold agC; rw [if_pos (by show 11 ≤ o; omega)]
          rw [this]
      · rw [if_neg (by omega), updC_n e]
        exact hcd i hi
    · rw [uI_n _ _ _ _ (by omega)]; exact hu w hw
/-- behind a fault steps may still be put and aimed -/
theorem c_putB {o x : Nat} {v : Int32} (hE : EnvC G B tk ts tv tc od q) (h : CBd B tc q x S) (ho : o ≠ 1) (ho2 : o ≤ 12) (z : ∀ S' r, r ≤ 800 → CBd B tc q x S' → Q (nI r) S') : f_X8_put G 80 (nI o) v Q S := by
  have hS := hE.1
  obtain ⟨hF, h6, h9, hx, zz, hz1, hz2⟩ := h
  have hR := hF.R
  have fin : ∀ S', CBd B tc q x S' → f_X8_put_43 G 80 (nI o) v (nI zz) Q S' := by
    intro S' h'
    refine nm_e (ite_n ?_ (z S' zz hz1 h'))
    rw [lit, eqI (by omega) (by omega)]; exact ho
  unfold f_X8_put
  refine nm_p hz2 (ite_n (nI_nn (by omega)) (ex_y (by rw [hR]; exact hS.r80_4) (ite_c (fun _ => fin S ⟨hF, h6, h9, hx, zz, hz1, hz2⟩) (fun d => ?_))))
  rw [hS.l85, nI_1, leI (by omega) (by omega)] at d
  refine ex_y (by rw [hR]; exact hS.r80_4) ⟨?_, nm_e (ex_y (by show S.2.2 80 4 = _; rw [hR]; exact hS.r80_4) ⟨?_, nm_e (nm_e (fin _ ⟨hF.u85.u85.u80, ?_, ?_, hx, zz + 2, by omega, ?_⟩))⟩)⟩
  · rw [hS.l85, in_iff (by omega)]; omega
  · rw [hS.l85, nI_1, in_iff (by omega)]; omega
  · rw [uI_n _ _ _ _ (by omega), uI_n _ _ _ _ (by omega), uI_n _ _ _ _ (by omega)]; exact h6
  · rw [uI_n _ _ _ _ (by omega), uI_n _ _ _ _ (by omega), uI_n _ _ _ _ (by omega)]; exact h9
  · rw [uI_s, if_pos rfl, lit, nI_add]
theorem c_aimB {x r : Nat} (hE : EnvC G B tk ts tv tc od q) (h : CBd B tc q x S) (hr : r ≤ 800) (z : ∀ S', CBd B tc q x S' → K S') : f_X8_aim G 80 (nI r) K S := by
  have hS := hE.1
  have hR := h.1.R
  unfold f_X8_aim
  refine ite_n (nI_nn (by omega)) (ex_y (by rw [hR]; exact hS.r80_4) (ite_c (fun _ => z S h) (fun d => ?_)))
  rw [hS.l85, nI_1, leI (by omega) (by omega)] at d
  refine ex_y (by rw [hR]; exact hS.r80_4) ?_
  rw [hS.l85, nI_1, in_iff (by omega), clI (by omega)]
  obtain ⟨hF, h6, h9, hx, zz, hz1, hz2⟩ := h
  refine ⟨by omega, nm_e (z _ ⟨hF.u85, ?_, ?_, hx, zz, hz1, ?_⟩)⟩
  · rw [uI_n _ _ _ _ (by omega)]; exact h6
  · rw [uI_n _ _ _ _ (by omega)]; exact h9
  · rw [uI_n _ _ _ _ (by omega)]; exact hz2
end
