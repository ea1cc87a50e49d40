def f_X1_takeOff (G : Gm) (v0 : Nat) (v1 : Int32) (Q : Int32 → St → Prop) (S : St) : Prop :=
  f_X5_glassOf G v0 v1 (fun r2 S1 => f_X3_lensesIn G r2 (fun r4 S3 => f_X5_setGlass G v0 v1 0 (fun S5 => Q r4 S5) S3) S1) S
abbrev rm_X1_takeOff : Room := { frames := 2, cells := 0, slots := 0, locals := 43 }
set_option maxHeartbeats 4000000 in
set_option maxRecDepth 100000 in
theorem j_X1_takeOff {p : Program} {l : Launch} {e : Env} {s : State} {m : MethodId} {args : Array Value} {below : List Frame} {meth : Method} {c : Code} {b : Nat} {D : va_G} {cy : Nat → ClassId} {G : Gm} {v0 : Nat} {v1 : Int32} {S : St} {Q : Int32 → St → Prop} (C : CX p s m args meth c b D cy cX1_takeOff RX1 3 (some .int)) (hE : s.heap.size + 0 ≤ b + G.2.2) (t_v0 : ok G 4 v0) (h : f_X1_takeOff G v0 v1 Q S) : J p l e rm_X1_takeOff s m args below meth c b D cy 3 (zI b D cy below args s G Q) 0 0 G S 0 [(0, .ref (b + v0)), (1, .int v1)] [] := by
  unfold f_X1_takeOff at h
  refine jB C [(.aload_n 0, 1, 0), (.iload_n 1, 1, 0)] 2 [(0, .ref (b + v0)), (1, .int v1)] [.int v1, .ref (b + v0)] (by decide +kernel) rfl rfl ?_
  refine jcVN_I C 5 (rest := []) (ok_X5_glassOf t_v0 h) (by decide +kernel : decode cX1_takeOff 2 = .ok (.invokevirtual 54, 3)) rfl wn_830 wd_402 wp_9 wd_2 wd_403 ⟨rfl, rfl⟩ hd_X5_glassOf ⟨Nat.le_of_ble_eq_true rfl, Nat.le_of_ble_eq_true rfl⟩ t_v0 kX5 (by decide) rfl rfl rfl (Nat.le_of_ble_eq_true rfl) ⟨Nat.zero_le _, Nat.zero_le _⟩ (fun r2 S1 h => ?_)
  refine jcSN_I C 8 (rest := []) (ok_X3_lensesIn h) (by decide +kernel : decode cX1_takeOff 5 = .ok (.invokestatic 58, 3)) rfl wn_849 wd_408 wd_13 wd_409 ⟨rfl, rfl⟩ hd_X3_lensesIn ⟨Nat.le_of_ble_eq_true rfl, Nat.le_of_ble_eq_true rfl⟩ rfl rfl (Nat.le_of_ble_eq_true rfl) ⟨Nat.zero_le _, Nat.zero_le _⟩ (fun r4 S3 h => ?_)
  refine jB C [(.istore_n 2, 1, 0), (.aload_n 0, 1, 0), (.iload_n 1, 1, 0), (.iconst 0, 1, 0)] 12 [(2, .int r4), (0, .ref (b + v0)), (1, .int v1)] [.int 0, .int v1, .ref (b + v0)] (by decide +kernel) rfl rfl ?_
  refine jcVN_V C 15 (rest := []) (ok_X5_setGlass t_v0 h) (by decide +kernel : decode cX1_takeOff 12 = .ok (.invokevirtual 50, 3)) rfl wn_848 wd_381 wp_5 wd_2 wd_382 ⟨rfl, rfl⟩ hd_X5_setGlass ⟨Nat.le_of_ble_eq_true rfl, Nat.le_of_ble_eq_true rfl⟩ t_v0 kX5 (by decide) rfl rfl rfl (Nat.le_of_ble_eq_true rfl) ⟨Nat.zero_le _, Nat.zero_le _⟩ (fun S5 h => ?_)
  refine jB C [(.iload_n 2, 1, 0)] 16 [(2, .int r4), (0, .ref (b + v0)), (1, .int v1)] [.int r4] (by decide +kernel) rfl rfl ?_
  exact jRetI C (by decide +kernel : decode cX1_takeOff 16 = .ok (.ireturn, 1)) (Nat.le_refl _) (Nat.le_refl _) ⟨rfl, h⟩
theorem ok_X1_takeOff {G : Gm} {v0 : Nat} {v1 : Int32} {S : St} {Q : Int32 → St → Prop} (t_v0 : ok G 4 v0) (h : f_X1_takeOff G v0 v1 Q S) : MT yX1_takeOff cX1_takeOff 3 (some .int) rm_X1_takeOff 0 0 (fun b => [.ref (b + v0), .int v1]) G S (QI (fun r G1 S1 => G1 = G ∧ Q r S1)) := MT.ofJ (by decide) (fun b => [(0, .ref (b + v0)), (1, .int v1)]) (fun b => rfl) (fun b => Nat.le_of_ble_eq_true rfl) (fun l b D cy p e s m below meth c C hE hn => j_X1_takeOff C hE t_v0 h)
theorem hd_X1_takeOff : yX1_takeOff.cls ≠ "java/lang/invoke/MethodHandle" ∧ yX1_takeOff.cls ≠ "java/lang/invoke/VarHandle" ∧ (parseMethodDescriptor yX1_takeOff.desc).map (fun d => d.parameters.length) = some 2 := by decide +kernel
def f_X2_growth (G : Gm) (v0 : Nat) (v1 : Nat) (v2 : Int32) (v3 : Int32) (Q : Int32 → St → Prop) (S : St) : Prop :=
  f_X2_aboutSin G v0 v1 v2 v3 (fun S1 => f_X5_lawInForce G v1 (fun r3 S2 => (∀ z, r3 = some z → ok G 7 z) ∧ f_X2_lastTold G v0 r3 1 (fun r6 S5 => (if r6 = (-2147483648) then Q 0 S5 else f_X10_nearest G r6 (-8) 8 (fun r9 S8 => Q r9 S8) S5)) S2) S1) S
abbrev rm_X2_growth : Room := { frames := 3, cells := 0, slots := 0, locals := 82 }
set_option maxHeartbeats 4000000 in
set_option maxRecDepth 100000 in
theorem j_X2_growth {p : Program} {l : Launch} {e : Env} {s : State} {m : MethodId} {args : Array Value} {below : List Frame} {meth : Method} {c : Code} {b : Nat} {D : va_G} {cy : Nat → ClassId} {G : Gm} {v0 : Nat} {v1 : Nat} {v2 : Int32} {v3 : Int32} {S : St} {Q : Int32 → St → Prop} (C : CX p s m args meth c b D cy cX2_growth RX2 5 (some .int)) (hE : s.heap.size + 0 ≤ b + G.2.2) (t_v0 : ok G 2 v0) (t_v1 : ok G 4 v1) (h : f_X2_growth G v0 v1 v2 v3 Q S) : J p l e rm_X2_growth s m args below meth c b D cy 5 (zI b D cy below args s G Q) 0 0 G S 0 [(0, .ref (b + v0)), (1, .ref (b + v1)), (2, .int v2), (3, .int v3)] [] := by
  unfold f_X2_growth at h
  refine jB C [(.aload_n 0, 1, 0), (.aload_n 1, 1, 0), (.iload_n 2, 1, 0), (.iload_n 3, 1, 0)] 4 [(0, .ref (b + v0)), (1, .ref (b + v1)), (2, .int v2), (3, .int v3)] [.int v3, .int v2, .ref (b + v1), .ref (b + v0)] (by decide +kernel) rfl rfl ?_
  refine jcV_V C 7 (rest := []) (ok_X2_aboutSin t_v0 t_v1 h) (by decide +kernel : decode cX2_growth 4 = .ok (.invokevirtual 22, 3)) rfl wd_504 wd_506 wp_25 wd_4 wd_507 ⟨rfl, rfl⟩ hd_X2_aboutSin ⟨Nat.le_of_ble_eq_true rfl, Nat.le_of_ble_eq_true rfl⟩ t_v0 kX2 (by decide) rfl rfl rfl (Nat.le_of_ble_eq_true rfl) ⟨Nat.zero_le _, Nat.zero_le _⟩ (fun S1 h => ?_)
  refine jB C [(.aload_n 0, 1, 0), (.aload_n 1, 1, 0)] 9 [(0, .ref (b + v0)), (1, .ref (b + v1)), (2, .int v2), (3, .int v3)] [.ref (b + v1), .ref (b + v0)] (by decide +kernel) rfl rfl ?_
  refine jcVN_O C 12 (rest := [.ref (b + v0)]) (ok_X5_lawInForce t_v1 h) (by decide +kernel : decode cX2_growth 9 = .ok (.invokevirtual 41, 3)) rfl wn_445 wd_447 wp_15 wd_2 wd_448 ⟨rfl, rfl⟩ hd_X5_lawInForce ⟨Nat.le_of_ble_eq_true rfl, Nat.le_of_ble_eq_true rfl⟩ t_v1 kX5 (by decide) rfl rfl rfl (Nat.le_of_ble_eq_true rfl) ⟨Nat.zero_le _, Nat.zero_le _⟩ (fun r3 S2 h => ?_)
  obtain ⟨t4, h⟩ := h
  refine jB C [(.iconst 1, 1, 1)] 13 [(0, .ref (b + v0)), (1, .ref (b + v1)), (2, .int v2), (3, .int v3)] [.int 1, rv b r3, .ref (b + v0)] (by decide +kernel) rfl rfl ?_
  refine jcV_I C 16 (rest := []) (ok_X2_lastTold t_v0 t4 h) (by decide +kernel : decode cX2_growth 13 = .ok (.invokevirtual 26, 3)) rfl wd_457 wd_459 wp_18 wd_4 wd_460 ⟨rfl, rfl⟩ hd_X2_lastTold ⟨Nat.le_of_ble_eq_true rfl, Nat.le_of_ble_eq_true rfl⟩ t_v0 kX2 (by decide) rfl rfl rfl (Nat.le_of_ble_eq_true rfl) ⟨Nat.zero_le _, Nat.zero_le _⟩ (fun r6 S5 h => ?_)
  refine jB C [(.istore 4, 2, 0), (.iload 4, 2, 0)] 20 [(4, .int r6), (0, .ref (b + v0)), (1, .ref (b + v1)), (2, .int v2), (3, .int v3)] [.int r6] (by decide +kernel) rfl rfl ?_
  refine jLdc C 22 (by decide +kernel : decode cX2_growth 20 = .ok (.ldc 30, 2)) rfl wd_461 ?_
  refine jIcmp_ne C 25 29 (by decide +kernel : decode cX2_growth 22 = .ok (.if_icmp .ne 7, 3)) rfl rfl (fun c7 => ?_) (fun c7 => ?_)
  · have h := it2 h c7
    refine jB C [(.iload 4, 2, 0), (.bipush (-8), 2, (-8)), (.bipush 8, 2, 8)] 35 [(4, .int r6), (0, .ref (b + v0)), (1, .ref (b + v1)), (2, .int v2), (3, .int v3)] [.int 8, .int (-8), .int r6] (by decide +kernel) rfl rfl ?_
    refine jcSN_I C 38 (rest := []) (ok_X10_nearest h) (by decide +kernel : decode cX2_growth 35 = .ok (.invokestatic 31, 3)) rfl wn_484 wd_241 wd_1 wd_242 ⟨rfl, rfl⟩ hd_X10_nearest ⟨Nat.le_of_ble_eq_true rfl, Nat.le_of_ble_eq_true rfl⟩ rfl rfl (Nat.le_of_ble_eq_true rfl) ⟨Nat.zero_le _, Nat.zero_le _⟩ (fun r9 S8 h => ?_)
    exact jRetI C (by decide +kernel : decode cX2_growth 38 = .ok (.ireturn, 1)) (Nat.le_refl _) (Nat.le_refl _) ⟨rfl, h⟩
  · have h := it1 h c7
    refine jB C [(.iconst 0, 1, 0)] 26 [(4, .int r6), (0, .ref (b + v0)), (1, .ref (b + v1)), (2, .int v2), (3, .int v3)] [.int 0] (by decide +kernel) rfl rfl ?_
    refine jGoto C 38 (by decide +kernel : decode cX2_growth 26 = .ok (.goto 12, 3)) rfl ?_
    exact jRetI C (by decide +kernel : decode cX2_growth 38 = .ok (.ireturn, 1)) (Nat.le_refl _) (Nat.le_refl _) ⟨rfl, h⟩
theorem ok_X2_growth {G : Gm} {v0 : Nat} {v1 : Nat} {v2 : Int32} {v3 : Int32} {S : St} {Q : Int32 → St → Prop} (t_v0 : ok G 2 v0) (t_v1 : ok G 4 v1) (h : f_X2_growth G v0 v1 v2 v3 Q S) : MT yX2_growth cX2_growth 5 (some .int) rm_X2_growth 0 0 (fun b => [.ref (b + v0), .ref (b + v1), .int v2, .int v3]) G S (QI (fun r G1 S1 => G1 = G ∧ Q r S1)) := MT.ofJ (by decide) (fun b => [(0, .ref (b + v0)), (1, .ref (b + v1)), (2, .int v2), (3, .int v3)]) (fun b => rfl) (fun b => Nat.le_of_ble_eq_true rfl) (fun l b D cy p e s m below meth c C hE hn => j_X2_growth C hE t_v0 t_v1 h)
theorem hd_X2_growth : yX2_growth.cls ≠ "java/lang/invoke/MethodHandle" ∧ yX2_growth.cls ≠ "java/lang/invoke/VarHandle" ∧ (parseMethodDescriptor yX2_growth.desc).map (fun d => d.parameters.length) = some 3 := by decide +kernel
def f_X5_setTerm (G : Gm) (v0 : Nat) (v1 : Int32) (v2 : Int32) (Q : St → Prop) (S : St) : Prop :=
  (if v1 < 0 then Q S else (if 4 ≤ v1 then Q S else (∃ a3, S.2.2 v0 4 = some a3 ∧ (vp_in v1 (G.2.1 a3) ∧ ∀ S5, S5 = uI S a3 v1.toNatClampNeg v2 → Q S5))))
abbrev rm_X5_setTerm : Room := { frames := 0, cells := 0, slots := 0, locals := 0 }
set_option maxHeartbeats 4000000 in
set_option maxRecDepth 100000 in
theorem j_X5_setTerm {p : Program} {l : Launch} {e : Env} {s : State} {m : MethodId} {args : Array Value} {below : List Frame} {meth : Method} {c : Code} {b : Nat} {D : va_G} {cy : Nat → ClassId} {G : Gm} {v0 : Nat} {v1 : Int32} {v2 : Int32} {S : St} {Q : St → Prop} (C : CX p s m args meth c b D cy cX5_setTerm RX5 3 none) (hE : s.heap.size + 0 ≤ b + G.2.2) (t_v0 : ok G 4 v0) (h : f_X5_setTerm G v0 v1 v2 Q S) : J p l e rm_X5_setTerm s m args below meth c b D cy 3 (zV b D cy below args s G Q) 0 0 G S 0 [(0, .ref (b + v0)), (1, .int v1), (2, .int v2)] [] := by
  unfold f_X5_setTerm at h
  refine jB C [(.iload_n 1, 1, 0)] 1 [(0, .ref (b + v0)), (1, .int v1), (2, .int v2)] [.int v1] (by decide +kernel) rfl rfl ?_
  refine jIf_lt C 4 16 (by decide +kernel : decode cX5_setTerm 1 = .ok (.ifCond .lt 15, 3)) rfl rfl (fun c1 => ?_) (fun c1 => ?_)
  · have h := it1 h c1
    exact jRetV C (by decide +kernel : decode cX5_setTerm 16 = .ok (.return_, 1)) (Nat.le_refl _) (Nat.le_refl _) ⟨rfl, h⟩
  · have h := it2 h c1
    refine jB C [(.iload_n 1, 1, 0), (.iconst 4, 1, 4)] 6 [(0, .ref (b + v0)), (1, .int v1), (2, .int v2)] [.int 4, .int v1] (by decide +kernel) rfl rfl ?_
    refine jIcmp_ge C 9 16 (by decide +kernel : decode cX5_setTerm 6 = .ok (.if_icmp .ge 10, 3)) rfl rfl (fun c2 => ?_) (fun c2 => ?_)
    · have h := it1 h c2
      exact jRetV C (by decide +kernel : decode cX5_setTerm 16 = .ok (.return_, 1)) (Nat.le_refl _) (Nat.le_refl _) ⟨rfl, h⟩
    · have h := it2 h c2
      refine jB C [(.aload_n 0, 1, 0)] 10 [(0, .ref (b + v0)), (1, .int v1), (2, .int v2)] [.ref (b + v0)] (by decide +kernel) rfl rfl ?_
      obtain ⟨a3, e_a3, h⟩ := h
      refine jGetR C 13 (by decide +kernel : decode cX5_setTerm 10 = .ok (.getfield 21, 3)) rfl t_v0 kX5 4 (by decide) rfl rfl (by decide) wd_45 e_a3 rfl (fun t_a3 => ?_)
      refine jB C [(.iload_n 1, 1, 0), (.iload_n 2, 1, 0)] 15 [(0, .ref (b + v0)), (1, .int v1), (2, .int v2)] [.int v2, .int v1, .ref (b + a3)] (by decide +kernel) rfl rfl ?_
      obtain ⟨y4, h⟩ := h
      refine jIast C 16 (by decide +kernel : decode cX5_setTerm 15 = .ok (.iastore, 1)) rfl hE t_a3 y4 ?_
      refine jTopS (fun S5 e_S5 => ?_)
      have h := h S5 e_S5
      exact jRetV C (by decide +kernel : decode cX5_setTerm 16 = .ok (.return_, 1)) (Nat.le_refl _) (Nat.le_refl _) ⟨rfl, h⟩
theorem ok_X5_setTerm {G : Gm} {v0 : Nat} {v1 : Int32} {v2 : Int32} {S : St} {Q : St → Prop} (t_v0 : ok G 4 v0) (h : f_X5_setTerm G v0 v1 v2 Q S) : MT yX5_setTerm cX5_setTerm 3 none rm_X5_setTerm 0 0 (fun b => [.ref (b + v0), .int v1, .int v2]) G S (QV (fun G1 S1 => G1 = G ∧ Q S1)) := MT.ofJ (by decide) (fun b => [(0, .ref (b + v0)), (1, .int v1), (2, .int v2)]) (fun b => rfl) (fun b => Nat.le_of_ble_eq_true rfl) (fun l b D cy p e s m below meth c C hE hn => j_X5_setTerm C hE t_v0 h)
theorem hd_X5_setTerm : yX5_setTerm.cls ≠ "java/lang/invoke/MethodHandle" ∧ yX5_setTerm.cls ≠ "java/lang/invoke/VarHandle" ∧ (parseMethodDescriptor yX5_setTerm.desc).map (fun d => d.parameters.length) = some 2 := by decide +kernel
def f_X1_nextDay_103 (G : Gm) (v1 : Nat) (Q : Int32 → St → Prop) (S : St) : Prop :=
  f_X5_termOf G v1 0 (fun r2 S1 => f_X5_setTerm G v1 0 (r2 + 1) (fun S3 => f_X5_termOf G v1 0 (fun r5 S4 => Q r5 S4) S3) S1) S
def f_X1_nextDay_49_n (G : Gm) (v0 : Nat) (v1 : Nat) (Q : Int32 → St → Prop) : Nat → Int32 → St → Prop
  | 0, _, _ => False
  | n + 1, v2, S => (if ((S.1 v1 0) * 4) ≤ v2 then f_X1_nextDay_103 G v1 Q S else (∃ a2, S.2.2 v0 1 = some a2 ∧ (if (nI (G.2.1 a2)) ≤ v2 then f_X1_nextDay_103 G v1 Q S else f_X5_sinOf G v1 (v2 / 4) (v2 - v2 / 4 * 4) (fun r5 S4 => (∃ a6, S4.2.2 v0 1 = some a6 ∧ (vp_in v2 (G.2.1 a6) ∧ f_X5_setSin G v1 (v2 / 4) (v2 - v2 / 4 * 4) (r5 + (S4.1 a6 v2.toNatClampNeg)) (fun S8 => (f_X1_nextDay_49_n G v0 v1 Q n) (v2 + 1) S8) S4))) S)))
def f_X1_nextDay_49 (G : Gm) (v0 : Nat) (v1 : Nat) (Q : Int32 → St → Prop) (v2 : Int32) (S : St) : Prop := ∃ n, f_X1_nextDay_49_n G v0 v1 Q n v2 S
def f_X1_nextDay_2_n (G : Gm) (v0 : Nat) (v1 : Nat) (Q : Int32 → St → Prop) : Nat → Int32 → St → Prop
  | 0, _, _ => False
  | n + 1, v2, S => (if ((S.1 v1 0) * 4) ≤ v2 then f_X1_nextDay_49 G v0 v1 Q 0 S else (∃ a2, S.2.2 v0 1 = some a2 ∧ (if (nI (G.2.1 a2)) ≤ v2 then f_X1_nextDay_49 G v0 v1 Q 0 S else (∃ a4, S.2.2 v0 1 = some a4 ∧ (∃ a5, S.2.2 v0 0 = some a5 ∧ f_X2_growth G a5 v1 (v2 / 4) (v2 - v2 / 4 * 4) (fun r7 S6 => (vp_in v2 (G.2.1 a4) ∧ ∀ S9, S9 = uI S6 a4 v2.toNatClampNeg r7 → (f_X1_nextDay_2_n G v0 v1 Q n) (v2 + 1) S9)) S)))))
def f_X1_nextDay_2 (G : Gm) (v0 : Nat) (v1 : Nat) (Q : Int32 → St → Prop) (v2 : Int32) (S : St) : Prop := ∃ n, f_X1_nextDay_2_n G v0 v1 Q n v2 S
def f_X1_nextDay (G : Gm) (v0 : Nat) (v1 : Nat) (Q : Int32 → St → Prop) (S : St) : Prop :=
  f_X1_nextDay_2 G v0 v1 Q 0 S
abbrev rm_X1_nextDay : Room := { frames := 4, cells := 0, slots := 0, locals := 106 }
set_option maxHeartbeats 4000000 in
set_option maxRecDepth 100000 in
theorem j_X1_nextDay_103 {p : Program} {l : Launch} {e : Env} {s : State} {m : MethodId} {args : Array Value} {below : List Frame} {meth : Method} {c : Code} {b : Nat} {D : va_G} {cy : Nat → ClassId} {G : Gm} {v1 : Nat} {S : St} {Q : Int32 → St → Prop} (C : CX p s m args meth c b D cy cX1_nextDay RX1 4 (some .int)) (hE : s.heap.size + 0 ≤ b + G.2.2) (t_v1 : ok G 4 v1) (h : f_X1_nextDay_103 G v1 Q S) : J p l e rm_X1_nextDay s m args below meth c b D cy 4 (zI b D cy below args s G Q) 0 0 G S 103 [(1, .ref (b + v1))] [] := by
  unfold f_X1_nextDay_103 at h
  refine jB C [(.aload_n 1, 1, 0), (.iconst 0, 1, 0), (.aload_n 1, 1, 0), (.iconst 0, 1, 0)] 107 [(1, .ref (b + v1))] [.int 0, .ref (b + v1), .int 0, .ref (b + v1)] (by decide +kernel) rfl rfl ?_
  refine jcVN_I C 110 (rest := [.int 0, .ref (b + v1)]) (ok_X5_termOf t_v1 h) (by decide +kernel : decode cX1_nextDay 107 = .ok (.invokevirtual 87, 3)) rfl wn_831 wd_418 wp_11 wd_2 wd_419 ⟨rfl, rfl⟩ hd_X5_termOf ⟨Nat.le_of_ble_eq_true rfl, Nat.le_of_ble_eq_true rfl⟩ t_v1 kX5 (by decide) rfl rfl rfl (Nat.le_of_ble_eq_true rfl) ⟨Nat.zero_le _, Nat.zero_le _⟩ (fun r2 S1 h => ?_)
  refine jB C [(.iconst 1, 1, 1), (.iadd, 1, 0)] 112 [(1, .ref (b + v1))] [.int (r2 + 1), .int 0, .ref (b + v1)] (by decide +kernel) rfl rfl ?_
  refine jcVN_V C 115 (rest := []) (ok_X5_setTerm t_v1 h) (by decide +kernel : decode cX1_nextDay 112 = .ok (.invokevirtual 100, 3)) rfl wn_861 wd_543 wp_27 wd_2 wd_544 ⟨rfl, rfl⟩ hd_X5_setTerm ⟨Nat.le_of_ble_eq_true rfl, Nat.le_of_ble_eq_true rfl⟩ t_v1 kX5 (by decide) rfl rfl rfl (Nat.le_of_ble_eq_true rfl) ⟨Nat.zero_le _, Nat.zero_le _⟩ (fun S3 h => ?_)
  refine jB C [(.aload_n 1, 1, 0), (.iconst 0, 1, 0)] 117 [(1, .ref (b + v1))] [.int 0, .ref (b + v1)] (by decide +kernel) rfl rfl ?_
  refine jcVN_I C 120 (rest := []) (ok_X5_termOf t_v1 h) (by decide +kernel : decode cX1_nextDay 117 = .ok (.invokevirtual 87, 3)) rfl wn_831 wd_418 wp_11 wd_2 wd_419 ⟨rfl, rfl⟩ hd_X5_termOf ⟨Nat.le_of_ble_eq_true rfl, Nat.le_of_ble_eq_true rfl⟩ t_v1 kX5 (by decide) rfl rfl rfl (Nat.le_of_ble_eq_true rfl) ⟨Nat.zero_le _, Nat.zero_le _⟩ (fun r5 S4 h => ?_)
  exact jRetI C (by decide +kernel : decode cX1_nextDay 120 = .ok (.ireturn, 1)) (Nat.le_refl _) (Nat.le_refl _) ⟨rfl, h⟩
set_option maxHeartbeats 4000000 in
set_option maxRecDepth 100000 in
theorem j_X1_nextDay_49_n {p : Program} {l : Launch} {e : Env} {s : State} {m : MethodId} {args : Array Value} {below : List Frame} {meth : Method} {c : Code} {b : Nat} {D : va_G} {cy : Nat → ClassId} {G : Gm} {v0 : Nat} {v1 : Nat} {Q : Int32 → St → Prop} (C : CX p s m args meth c b D cy cX1_nextDay RX1 4 (some .int)) (hE : s.heap.size + 0 ≤ b + G.2.2) (t_v0 : ok G 1 v0) (t_v1 : ok G 4 v1) : ∀ n (v2 : Int32) S, f_X1_nextDay_49_n G v0 v1 Q n v2 S → J p l e rm_X1_nextDay s m args below meth c b D cy 4 (zI b D cy below args s G Q) 0 0 G S 49 [(0, .ref (b + v0)), (1, .ref (b + v1)), (2, .int v2)] [] := by
  intro n
  induction n with
  | zero => intro v2 S h; exact h.elim
  | succ n ih =>
    intro v2 S h
    unfold f_X1_nextDay_49_n at h
    refine jB C [(.iload_n 2, 1, 0), (.aload_n 1, 1, 0)] 51 [(0, .ref (b + v0)), (1, .ref (b + v1)), (2, .int v2)] [.ref (b + v1), .int v2] (by decide +kernel) rfl rfl ?_
    refine jGetIN C 54 (by decide +kernel : decode cX1_nextDay 51 = .ok (.getfield 93, 3)) rfl t_v1 kX5 0 (by decide) rfl rfl (by decide) wn_38 ?_
    refine jB C [(.iconst 4, 1, 4), (.imul, 1, 0)] 56 [(0, .ref (b + v0)), (1, .ref (b + v1)), (2, .int v2)] [.int ((S.1 v1 0) * 4), .int v2] (by decide +kernel) rfl rfl ?_
    refine jIcmp_ge C 59 103 (by decide +kernel : decode cX1_nextDay 56 = .ok (.if_icmp .ge 47, 3)) rfl rfl (fun c1 => ?_) (fun c1 => ?_)
    · have h := it1 h c1
      refine jSub [1] rfl ?_
      exact j_X1_nextDay_103 C hE t_v1 h
    · have h := it2 h c1
      refine jB C [(.iload_n 2, 1, 0), (.aload_n 0, 1, 0)] 61 [(0, .ref (b + v0)), (1, .ref (b + v1)), (2, .int v2)] [.ref (b + v0), .int v2] (by decide +kernel) rfl rfl ?_
      obtain ⟨a2, e_a2, h⟩ := h
      refine jGetR C 64 (by decide +kernel : decode cX1_nextDay 61 = .ok (.getfield 18, 3)) rfl t_v0 kX1 1 (by decide) rfl rfl (by decide) wd_133 e_a2 rfl (fun t_a2 => ?_)
      refine jAlen11 C 65 (by decide +kernel : decode cX1_nextDay 64 = .ok (.arraylength, 1)) rfl t_a2 ?_
      refine jIcmp_ge C 68 103 (by decide +kernel : decode cX1_nextDay 65 = .ok (.if_icmp .ge 38, 3)) rfl rfl (fun c3 => ?_) (fun c3 => ?_)
      · have h := it1 h c3
        refine jSub [1] rfl ?_
        exact j_X1_nextDay_103 C hE t_v1 h
      · have h := it2 h c3
        refine jB C [(.aload_n 1, 1, 0), (.iload_n 2, 1, 0), (.iconst 4, 1, 4)] 71 [(0, .ref (b + v0)), (1, .ref (b + v1)), (2, .int v2)] [.int 4, .int v2, .ref (b + v1)] (by decide +kernel) rfl rfl ?_
        refine jIdiv C 72 (by decide +kernel : decode cX1_nextDay 71 = .ok (.idiv, 1)) rfl (by decide) ?_
        refine jB C [(.iload_n 2, 1, 0), (.iconst 4, 1, 4)] 74 [(0, .ref (b + v0)), (1, .ref (b + v1)), (2, .int v2)] [.int 4, .int v2, .int (v2 / 4), .ref (b + v1)] (by decide +kernel) rfl rfl ?_
        refine jIrem C 75 (by decide +kernel : decode cX1_nextDay 74 = .ok (.irem, 1)) rfl (by decide) ?_
        refine jcVN_I C 78 (rest := []) (ok_X5_sinOf t_v1 h) (by decide +kernel : decode cX1_nextDay 75 = .ok (.invokevirtual 32, 3)) rfl wn_828 wd_398 wp_8 wd_2 wd_399 ⟨rfl, rfl⟩ hd_X5_sinOf ⟨Nat.le_of_ble_eq_true rfl, Nat.le_of_ble_eq_true rfl⟩ t_v1 kX5 (by decide) rfl rfl rfl (Nat.le_of_ble_eq_true rfl) ⟨Nat.zero_le _, Nat.zero_le _⟩ (fun r5 S4 h => ?_)
        refine jB C [(.istore_n 3, 1, 0), (.aload_n 1, 1, 0), (.iload_n 2, 1, 0), (.iconst 4, 1, 4)] 82 [(3, .int r5), (0, .ref (b + v0)), (1, .ref (b + v1)), (2, .int v2)] [.int 4, .int v2, .ref (b + v1)] (by decide +kernel) rfl rfl ?_
        refine jIdiv C 83 (by decide +kernel : decode cX1_nextDay 82 = .ok (.idiv, 1)) rfl (by decide) ?_
        refine jB C [(.iload_n 2, 1, 0), (.iconst 4, 1, 4)] 85 [(3, .int r5), (0, .ref (b + v0)), (1, .ref (b + v1)), (2, .int v2)] [.int 4, .int v2, .int (v2 / 4), .ref (b + v1)] (by decide +kernel) rfl rfl ?_
        refine jIrem C 86 (by decide +kernel : decode cX1_nextDay 85 = .ok (.irem, 1)) rfl (by decide) ?_
        refine jB C [(.iload_n 3, 1, 0), (.aload_n 0, 1, 0)] 88 [(3, .int r5), (0, .ref (b + v0)), (1, .ref (b + v1)), (2, .int v2)] [.ref (b + v0), .int r5, .int (v2 - v2 / 4 * 4), .int (v2 / 4), .ref (b + v1)] (by decide +kernel) rfl rfl ?_
        obtain ⟨a6, e_a6, h⟩ := h
        refine jGetR C 91 (by decide +kernel : decode cX1_nextDay 88 = .ok (.getfield 18, 3)) rfl t_v0 kX1 1 (by decide) rfl rfl (by decide) wd_133 e_a6 rfl (fun t_a6 => ?_)
        refine jB C [(.iload_n 2, 1, 0)] 92 [(3, .int r5), (0, .ref (b + v0)), (1, .ref (b + v1)), (2, .int v2)] [.int v2, .ref (b + a6), .int r5, .int (v2 - v2 / 4 * 4), .int (v2 / 4), .ref (b + v1)] (by decide +kernel) rfl rfl ?_
        obtain ⟨y7, h⟩ := h
        refine jIald C 93 (by decide +kernel : decode cX1_nextDay 92 = .ok (.iaload, 1)) rfl t_a6 y7 ?_
        refine jB C [(.iadd, 1, 0)] 94 [(3, .int r5), (0, .ref (b + v0)), (1, .ref (b + v1)), (2, .int v2)] [.int (r5 + (S4.1 a6 v2.toNatClampNeg)), .int (v2 - v2 / 4 * 4), .int (v2 / 4), .ref (b + v1)] (by decide +kernel) rfl rfl ?_
        refine jcVN_V C 97 (rest := []) (ok_X5_setSin t_v1 h) (by decide +kernel : decode cX1_nextDay 94 = .ok (.invokevirtual 38, 3)) rfl wn_841 wd_369 wp_3 wd_2 wd_370 ⟨rfl, rfl⟩ hd_X5_setSin ⟨Nat.le_of_ble_eq_true rfl, Nat.le_of_ble_eq_true rfl⟩ t_v1 kX5 (by decide) rfl rfl rfl (Nat.le_of_ble_eq_true rfl) ⟨Nat.zero_le _, Nat.zero_le _⟩ (fun S8 h => ?_)
        refine jB C [(.iinc 2 1, 3, 1)] 100 [(2, .int (v2 + 1)), (3, .int r5), (0, .ref (b + v0)), (1, .ref (b + v1))] [] (by decide +kernel) rfl rfl ?_
        refine jGoto C 49 (by decide +kernel : decode cX1_nextDay 100 = .ok (.goto (-51), 3)) rfl ?_
        refine jSub [2, 3, 0] rfl ?_
        exact ih (v2 + 1) S8 h
theorem j_X1_nextDay_49 {p : Program} {l : Launch} {e : Env} {s : State} {m : MethodId} {args : Array Value} {below : List Frame} {meth : Method} {c : Code} {b : Nat} {D : va_G} {cy : Nat → ClassId} {G : Gm} {v0 : Nat} {v1 : Nat} {v2 : Int32} {S : St} {Q : Int32 → St → Prop} (C : CX p s m args meth c b D cy cX1_nextDay RX1 4 (some .int)) (hE : s.heap.size + 0 ≤ b + G.2.2) (t_v0 : ok G 1 v0) (t_v1 : ok G 4 v1) (h : f_X1_nextDay_49 G v0 v1 Q v2 S) : J p l e rm_X1_nextDay s m args below meth c b D cy 4 (zI b D cy below args s G Q) 0 0 G S 49 [(0, .ref (b + v0)), (1, .ref (b + v1)), (2, .int v2)] [] := by
  obtain ⟨n, h⟩ := h
  exact j_X1_nextDay_49_n C hE t_v0 t_v1 n v2 S h
set_option maxHeartbeats 4000000 in
set_option maxRecDepth 100000 in
theorem j_X1_nextDay_2_n {p : Program} {l : Launch} {e : Env} {s : State} {m : MethodId} {args : Array Value} {below : List Frame} {meth : Method} {c : Code} {b : Nat} {D : va_G} {cy : Nat → ClassId} {G : Gm} {v0 : Nat} {v1 : Nat} {Q : Int32 → St → Prop} (C : CX p s m args meth c b D cy cX1_nextDay RX1 4 (some .int)) (hE : s.heap.size + 0 ≤ b + G.2.2) (t_v0 : ok G 1 v0) (t_v1 : ok G 4 v1) : ∀ n (v2 : Int32) S, f_X1_nextDay_2_n G v0 v1 Q n v2 S → J p l e rm_X1_nextDay s m args below meth c b D cy 4 (zI b D cy below args s G Q) 0 0 G S 2 [(0, .ref (b + v0)), (1, .ref (b + v1)), (2, .int v2)] [] := by
  intro n
  induction n with
  | zero => intro v2 S h; exact h.elim
  | succ n ih =>
    intro v2 S h
    unfold f_X1_nextDay_2_n at h
    refine jB C [(.iload_n 2, 1, 0), (.aload_n 1, 1, 0)] 4 [(0, .ref (b + v0)), (1, .ref (b + v1)), (2, .int v2)] [.ref (b + v1), .int v2] (by decide +kernel) rfl rfl ?_
    refine jGetIN C 7 (by decide +kernel : decode cX1_nextDay 4 = .ok (.getfield 93, 3)) rfl t_v1 kX5 0 (by decide) rfl rfl (by decide) wn_38 ?_
    refine jB C [(.iconst 4, 1, 4), (.imul, 1, 0)] 9 [(0, .ref (b + v0)), (1, .ref (b + v1)), (2, .int v2)] [.int ((S.1 v1 0) * 4), .int v2] (by decide +kernel) rfl rfl ?_
    refine jIcmp_ge C 12 47 (by decide +kernel : decode cX1_nextDay 9 = .ok (.if_icmp .ge 38, 3)) rfl rfl (fun c1 => ?_) (fun c1 => ?_)
    · have h := it1 h c1
      refine jB C [(.iconst 0, 1, 0), (.istore_n 2, 1, 0)] 49 [(2, .int 0), (0, .ref (b + v0)), (1, .ref (b + v1))] [] (by decide +kernel) rfl rfl ?_
      refine jSub [1, 2, 0] rfl ?_
      exact j_X1_nextDay_49 C hE t_v0 t_v1 h
    · have h := it2 h c1
      refine jB C [(.iload_n 2, 1, 0), (.aload_n 0, 1, 0)] 14 [(0, .ref (b + v0)), (1, .ref (b + v1)), (2, .int v2)] [.ref (b + v0), .int v2] (by decide +kernel) rfl rfl ?_
      obtain ⟨a2, e_a2, h⟩ := h
      refine jGetR C 17 (by decide +kernel : decode cX1_nextDay 14 = .ok (.getfield 18, 3)) rfl t_v0 kX1 1 (by decide) rfl rfl (by decide) wd_133 e_a2 rfl (fun t_a2 => ?_)
      refine jAlen11 C 18 (by decide +kernel : decode cX1_nextDay 17 = .ok (.arraylength, 1)) rfl t_a2 ?_
      refine jIcmp_ge C 21 47 (by decide +kernel : decode cX1_nextDay 18 = .ok (.if_icmp .ge 29, 3)) rfl rfl (fun c3 => ?_) (fun c3 => ?_)
      · have h := it1 h c3
        refine jB C [(.iconst 0, 1, 0), (.istore_n 2, 1, 0)] 49 [(2, .int 0), (0, .ref (b + v0)), (1, .ref (b + v1))] [] (by decide +kernel) rfl rfl ?_
        refine jSub [1, 2, 0] rfl ?_
        exact j_X1_nextDay_49 C hE t_v0 t_v1 h
      · have h := it2 h c3
        refine jB C [(.aload_n 0, 1, 0)] 22 [(0, .ref (b + v0)), (1, .ref (b + v1)), (2, .int v2)] [.ref (b + v0)] (by decide +kernel) rfl rfl ?_
        obtain ⟨a4, e_a4, h⟩ := h
        refine jGetR C 25 (by decide +kernel : decode cX1_nextDay 22 = .ok (.getfield 18, 3)) rfl t_v0 kX1 1 (by decide) rfl rfl (by decide) wd_133 e_a4 rfl (fun t_a4 => ?_)
        refine jB C [(.iload_n 2, 1, 0), (.aload_n 0, 1, 0)] 27 [(0, .ref (b + v0)), (1, .ref (b + v1)), (2, .int v2)] [.ref (b + v0), .int v2, .ref (b + a4)] (by decide +kernel) rfl rfl ?_
        obtain ⟨a5, e_a5, h⟩ := h
        refine jGetR C 30 (by decide +kernel : decode cX1_nextDay 27 = .ok (.getfield 12, 3)) rfl t_v0 kX1 0 (by decide) rfl rfl (by decide) wd_132 e_a5 rfl (fun t_a5 => ?_)
        refine jB C [(.aload_n 1, 1, 0), (.iload_n 2, 1, 0), (.iconst 4, 1, 4)] 33 [(0, .ref (b + v0)), (1, .ref (b + v1)), (2, .int v2)] [.int 4, .int v2, .ref (b + v1), .ref (b + a5), .int v2, .ref (b + a4)] (by decide +kernel) rfl rfl ?_
        refine jIdiv C 34 (by decide +kernel : decode cX1_nextDay 33 = .ok (.idiv, 1)) rfl (by decide) ?_
        refine jB C [(.iload_n 2, 1, 0), (.iconst 4, 1, 4)] 36 [(0, .ref (b + v0)), (1, .ref (b + v1)), (2, .int v2)] [.int 4, .int v2, .int (v2 / 4), .ref (b + v1), .ref (b + a5), .int v2, .ref (b + a4)] (by decide +kernel) rfl rfl ?_
        refine jIrem C 37 (by decide +kernel : decode cX1_nextDay 36 = .ok (.irem, 1)) rfl (by decide) ?_
        refine jcVN_I C 40 (rest := [.int v2, .ref (b + a4)]) (ok_X2_growth t_a5 t_v1 h) (by decide +kernel : decode cX1_nextDay 37 = .ok (.invokevirtual 97, 3)) rfl wn_860 wd_511 wp_26 wd_4 wd_512 ⟨rfl, rfl⟩ hd_X2_growth ⟨Nat.le_of_ble_eq_true rfl, Nat.le_of_ble_eq_true rfl⟩ t_a5 kX2 (by decide) rfl rfl rfl (Nat.le_of_ble_eq_true rfl) ⟨Nat.zero_le _, Nat.zero_le _⟩ (fun r7 S6 h => ?_)
        obtain ⟨y8, h⟩ := h
        refine jIast C 41 (by decide +kernel : decode cX1_nextDay 40 = .ok (.iastore, 1)) rfl hE t_a4 y8 ?_
        refine jTopS (fun S9 e_S9 => ?_)
        have h := h S9 e_S9
        refine jB C [(.iinc 2 1, 3, 1)] 44 [(2, .int (v2 + 1)), (0, .ref (b + v0)), (1, .ref (b + v1))] [] (by decide +kernel) rfl rfl ?_
        refine jGoto C 2 (by decide +kernel : decode cX1_nextDay 44 = .ok (.goto (-42), 3)) rfl ?_
        refine jSub [1, 2, 0] rfl ?_
        exact ih (v2 + 1) S9 h
theorem j_X1_nextDay_2 {p : Program} {l : Launch} {e : Env} {s : State} {m : MethodId} {args : Array Value} {below : List Frame} {meth : Method} {c : Code} {b : Nat} {D : va_G} {cy : Nat → ClassId} {G : Gm} {v0 : Nat} {v1 : Nat} {v2 : Int32} {S : St} {Q : Int32 → St → Prop} (C : CX p s m args meth c b D cy cX1_nextDay RX1 4 (some .int)) (hE : s.heap.size + 0 ≤ b + G.2.2) (t_v0 : ok G 1 v0) (t_v1 : ok G 4 v1) (h : f_X1_nextDay_2 G v0 v1 Q v2 S) : J p l e rm_X1_nextDay s m args below meth c b D cy 4 (zI b D cy below args s G Q) 0 0 G S 2 [(0, .ref (b + v0)), (1, .ref (b + v1)), (2, .int v2)] [] := by
  obtain ⟨n, h⟩ := h
  exact j_X1_nextDay_2_n C hE t_v0 t_v1 n v2 S h
set_option maxHeartbeats 4000000 in
set_option maxRecDepth 100000 in
theorem j_X1_nextDay {p : Program} {l : Launch} {e : Env} {s : State} {m : MethodId} {args : Array Value} {below : List Frame} {meth : Method} {c : Code} {b : Nat} {D : va_G} {cy : Nat → ClassId} {G : Gm} {v0 : Nat} {v1 : Nat} {S : St} {Q : Int32 → St → Prop} (C : CX p s m args meth c b D cy cX1_nextDay RX1 4 (some .int)) (hE : s.heap.size + 0 ≤ b + G.2.2) (t_v0 : ok G 1 v0) (t_v1 : ok G 4 v1) (h : f_X1_nextDay G v0 v1 Q S) : J p l e rm_X1_nextDay s m args below meth c b D cy 4 (zI b D cy below args s G Q) 0 0 G S 0 [(0, .ref (b + v0)), (1, .ref (b + v1))] [] := by
  unfold f_X1_nextDay at h
  refine jB C [(.iconst 0, 1, 0), (.istore_n 2, 1, 0)] 2 [(2, .int 0), (0, .ref (b + v0)), (1, .ref (b + v1))] [] (by decide +kernel) rfl rfl ?_
  refine jSub [1, 2, 0] rfl ?_
  exact j_X1_nextDay_2 C hE t_v0 t_v1 h
theorem ok_X1_nextDay {G : Gm} {v0 : Nat} {v1 : Nat} {S : St} {Q : Int32 → St → Prop} (t_v0 : ok G 1 v0) (t_v1 : ok G 4 v1) (h : f_X1_nextDay G v0 v1 Q S) : MT yX1_nextDay cX1_nextDay 4 (some .int) rm_X1_nextDay 0 0 (fun b => [.ref (b + v0), .ref (b + v1)]) G S (QI (fun r G1 S1 => G1 = G ∧ Q r S1)) := MT.ofJ (by decide) (fun b => [(0, .ref (b + v0)), (1, .ref (b + v1))]) (fun b => rfl) (fun b => Nat.le_of_ble_eq_true rfl) (fun l b D cy p e s m below meth c C hE hn => j_X1_nextDay C hE t_v0 t_v1 h)
theorem hd_X1_nextDay : yX1_nextDay.cls ≠ "java/lang/invoke/MethodHandle" ∧ yX1_nextDay.cls ≠ "java/lang/invoke/VarHandle" ∧ (parseMethodDescriptor yX1_nextDay.desc).map (fun d => d.parameters.length) = some 1 := by decide +kernel
def f_X1_act (G : Gm) (v0 : Nat) (v1 : Nat) (v2 : Nat) (v3 : Int32) (v4 : Int32) (v5 : Int32) (v6 : Int32) (Q : Int32 → St → Prop) (S : St) : Prop :=
  f_X1_refusalOf G v0 v1 v3 v4 v5 v6 (fun r2 S1 => (if r2 = 0 then f_X9_remember G v2 v1 v3 (fun S4 => (if v3 = 0 then f_X5_sinOf G v1 v4 v5 (fun r6 S5 => f_X5_setSin G v1 v4 v5 (r6 + v6) (fun S7 => f_X5_sinOf G v1 v4 v5 (fun r9 S8 => Q r9 S8) S7) S5) S4 else (if v3 = 1 then (∃ a10, S4.2.2 v0 0 = some a10 ∧ f_X5_lawInForce G v1 (fun r12 S11 => (∀ z, r12 = some z → ok G 7 z) ∧ f_X2_glassBy G a10 v1 r12 v4 (fun r15 S14 => f_X5_setGlass G v1 v4 r15 (fun S16 => f_X5_glassOf G v1 v4 (fun r18 S17 => f_X3_lensesIn G r18 (fun r20 S19 => Q r20 S19) S17) S16) S14) S11) S4) else (if v3 = 2 then f_X1_exchange G v1 v4 v5 (fun r22 S21 => Q r22 S21) S4 else (if v3 = 3 then f_X1_takeOff G v1 v4 (fun r24 S23 => Q r24 S23) S4 else f_X1_nextDay G v0 v1 (fun r26 S25 => Q r26 S25) S4))))) S1 else Q r2 S1)) S
abbrev rm_X1_act : Room := { frames := 5, cells := 0, slots := 0, locals := 133 }
set_option maxHeartbeats 4000000 in
set_option maxRecDepth 100000 in
theorem j_X1_act {p : Program} {l : Launch} {e : Env} {s : State} {m : MethodId} {args : Array Value} {below : List Frame} {meth : Method} {c : Code} {b : Nat} {D : va_G} {cy : Nat → ClassId} {G : Gm} {v0 : Nat} {v1 : Nat} {v2 : Nat} {v3 : Int32} {v4 : Int32} {v5 : Int32} {v6 : Int32} {S : St} {Q : Int32 → St → Prop} (C : CX p s m args meth c b D cy cX1_act RX1 8 (some .int)) (hE : s.heap.size + 0 ≤ b + G.2.2) (t_v0 : ok G 1 v0) (t_v1 : ok G 4 v1) (t_v2 : ok G 8 v2) (h : f_X1_act G v0 v1 v2 v3 v4 v5 v6 Q S) : J p l e rm_X1_act s m args below meth c b D cy 8 (zI b D cy below args s G Q) 0 0 G S 0 [(0, .ref (b + v0)), (1, .ref (b + v1)), (2, .ref (b + v2)), (3, .int v3), (4, .int v4), (5, .int v5), (6, .int v6)] [] := by
  unfold f_X1_act at h
  refine jB C [(.aload_n 0, 1, 0), (.aload_n 1, 1, 0), (.iload_n 3, 1, 0), (.iload 4, 2, 0), (.iload 5, 2, 0), (.iload 6, 2, 0)] 9 [(0, .ref (b + v0)), (1, .ref (b + v1)), (2, .ref (b + v2)), (3, .int v3), (4, .int v4), (5, .int v5), (6, .int v6)] [.int v6, .int v5, .int v4, .int v3, .ref (b + v1), .ref (b + v0)] (by decide +kernel) rfl rfl ?_
  refine jcV_I C 12 (rest := []) (ok_X1_refusalOf t_v0 t_v1 h) (by decide +kernel : decode cX1_act 9 = .ok (.invokevirtual 22, 3)) rfl wd_819 wd_821 wp_70 wd_6 wd_822 ⟨rfl, rfl⟩ hd_X1_refusalOf ⟨Nat.le_of_ble_eq_true rfl, Nat.le_of_ble_eq_true rfl⟩ t_v0 kX1 (by decide) rfl rfl rfl (Nat.le_of_ble_eq_true rfl) ⟨Nat.zero_le _, Nat.zero_le _⟩ (fun r2 S1 h => ?_)
  refine jB C [(.istore 7, 2, 0), (.iload 7, 2, 0)] 16 [(7, .int r2), (0, .ref (b + v0)), (1, .ref (b + v1)), (2, .ref (b + v2)), (3, .int v3), (4, .int v4), (5, .int v5), (6, .int v6)] [.int r2] (by decide +kernel) rfl rfl ?_
  refine jIf_eq C 19 22 (by decide +kernel : decode cX1_act 16 = .ok (.ifCond .eq 6, 3)) rfl rfl (fun c3 => ?_) (fun c3 => ?_)
  · have h := it1 h c3
    refine jB C [(.aload_n 2, 1, 0), (.aload_n 1, 1, 0), (.iload_n 3, 1, 0)] 25 [(7, .int r2), (0, .ref (b + v0)), (1, .ref (b + v1)), (2, .ref (b + v2)), (3, .int v3), (4, .int v4), (5, .int v5), (6, .int v6)] [.int v3, .ref (b + v1), .ref (b + v2)] (by decide +kernel) rfl rfl ?_
    refine jcVN_V C 28 (rest := []) (ok_X9_remember t_v2 t_v1 h) (by decide +kernel : decode cX1_act 25 = .ok (.invokevirtual 26, 3)) rfl wn_832 wd_834 wp_71 wd_3 wd_835 ⟨rfl, rfl⟩ hd_X9_remember ⟨Nat.le_of_ble_eq_true rfl, Nat.le_of_ble_eq_true rfl⟩ t_v2 kX9 (by decide) rfl rfl rfl (Nat.le_of_ble_eq_true rfl) ⟨Nat.zero_le _, Nat.zero_le _⟩ (fun S4 h => ?_)
    refine jB C [(.iload_n 3, 1, 0)] 29 [(7, .int r2), (0, .ref (b + v0)), (1, .ref (b + v1)), (2, .ref (b + v2)), (3, .int v3), (4, .int v4), (5, .int v5), (6, .int v6)] [.int v3] (by decide +kernel) rfl rfl ?_
    by_cases c27_0 : v3 = 0
    · have h := it1 h c27_0
      refine jTabIn C 60 0 (by decide +kernel : decode cX1_act 29 = .ok (.tableswitch 105 0 3 #[31, 59, 89, 98], 31)) c27_0 ⟨rfl, rfl, rfl, rfl⟩ ?_
      refine jB C [(.aload_n 1, 1, 0), (.iload 4, 2, 0), (.iload 5, 2, 0), (.aload_n 1, 1, 0), (.iload 4, 2, 0), (.iload 5, 2, 0)] 70 [(7, .int r2), (0, .ref (b + v0)), (1, .ref (b + v1)), (2, .ref (b + v2)), (3, .int v3), (4, .int v4), (5, .int v5), (6, .int v6)] [.int v5, .int v4, .ref (b + v1), .int v5, .int v4, .ref (b + v1)] (by decide +kernel) rfl rfl ?_
      refine jcVN_I C 73 (rest := [.int v5, .int v4, .ref (b + v1)]) (ok_X5_sinOf t_v1 h) (by decide +kernel : decode cX1_act 70 = .ok (.invokevirtual 32, 3)) rfl wn_828 wd_398 wp_8 wd_2 wd_399 ⟨rfl, rfl⟩ hd_X5_sinOf ⟨Nat.le_of_ble_eq_true rfl, Nat.le_of_ble_eq_true rfl⟩ t_v1 kX5 (by decide) rfl rfl rfl (Nat.le_of_ble_eq_true rfl) ⟨Nat.zero_le _, Nat.zero_le _⟩ (fun r6 S5 h => ?_)
      refine jB C [(.iload 6, 2, 0), (.iadd, 1, 0)] 76 [(7, .int r2), (0, .ref (b + v0)), (1, .ref (b + v1)), (2, .ref (b + v2)), (3, .int v3), (4, .int v4), (5, .int v5), (6, .int v6)] [.int (r6 + v6), .int v5, .int v4, .ref (b + v1)] (by decide +kernel) rfl rfl ?_
      refine jcVN_V C 79 (rest := []) (ok_X5_setSin t_v1 h) (by decide +kernel : decode cX1_act 76 = .ok (.invokevirtual 38, 3)) rfl wn_841 wd_369 wp_3 wd_2 wd_370 ⟨rfl, rfl⟩ hd_X5_setSin ⟨Nat.le_of_ble_eq_true rfl, Nat.le_of_ble_eq_true rfl⟩ t_v1 kX5 (by decide) rfl rfl rfl (Nat.le_of_ble_eq_true rfl) ⟨Nat.zero_le _, Nat.zero_le _⟩ (fun S7 h => ?_)
      refine jB C [(.aload_n 1, 1, 0), (.iload 4, 2, 0), (.iload 5, 2, 0)] 84 [(7, .int r2), (0, .ref (b + v0)), (1, .ref (b + v1)), (2, .ref (b + v2)), (3, .int v3), (4, .int v4), (5, .int v5), (6, .int v6)] [.int v5, .int v4, .ref (b + v1)] (by decide +kernel) rfl rfl ?_
      refine jcVN_I C 87 (rest := []) (ok_X5_sinOf t_v1 h) (by decide +kernel : decode cX1_act 84 = .ok (.invokevirtual 32, 3)) rfl wn_828 wd_398 wp_8 wd_2 wd_399 ⟨rfl, rfl⟩ hd_X5_sinOf ⟨Nat.le_of_ble_eq_true rfl, Nat.le_of_ble_eq_true rfl⟩ t_v1 kX5 (by decide) rfl rfl rfl (Nat.le_of_ble_eq_true rfl) ⟨Nat.zero_le _, Nat.zero_le _⟩ (fun r9 S8 h => ?_)
      exact jRetI C (by decide +kernel : decode cX1_act 87 = .ok (.ireturn, 1)) (Nat.le_refl _) (Nat.le_refl _) ⟨rfl, h⟩
    · have h := it2 h c27_0
      by_cases c27_1 : v3 = 1
      · have h := it1 h c27_1
        refine jTabIn C 88 1 (by decide +kernel : decode cX1_act 29 = .ok (.tableswitch 105 0 3 #[31, 59, 89, 98], 31)) c27_1 ⟨rfl, rfl, rfl, rfl⟩ ?_
        refine jB C [(.aload_n 1, 1, 0), (.iload 4, 2, 0), (.aload_n 0, 1, 0)] 92 [(7, .int r2), (0, .ref (b + v0)), (1, .ref (b + v1)), (2, .ref (b + v2)), (3, .int v3), (4, .int v4), (5, .int v5), (6, .int v6)] [.ref (b + v0), .int v4, .ref (b + v1)] (by decide +kernel) rfl rfl ?_
        obtain ⟨a10, e_a10, h⟩ := h
        refine jGetR C 95 (by decide +kernel : decode cX1_act 92 = .ok (.getfield 12, 3)) rfl t_v0 kX1 0 (by decide) rfl rfl (by decide) wd_132 e_a10 rfl (fun t_a10 => ?_)
        refine jB C [(.aload_n 1, 1, 0), (.aload_n 1, 1, 0)] 97 [(7, .int r2), (0, .ref (b + v0)), (1, .ref (b + v1)), (2, .ref (b + v2)), (3, .int v3), (4, .int v4), (5, .int v5), (6, .int v6)] [.ref (b + v1), .ref (b + v1), .ref (b + a10), .int v4, .ref (b + v1)] (by decide +kernel) rfl rfl ?_
        refine jcVN_O C 100 (rest := [.ref (b + v1), .ref (b + a10), .int v4, .ref (b + v1)]) (ok_X5_lawInForce t_v1 h) (by decide +kernel : decode cX1_act 97 = .ok (.invokevirtual 42, 3)) rfl wn_842 wd_447 wp_15 wd_2 wd_448 ⟨rfl, rfl⟩ hd_X5_lawInForce ⟨Nat.le_of_ble_eq_true rfl, Nat.le_of_ble_eq_true rfl⟩ t_v1 kX5 (by decide) rfl rfl rfl (Nat.le_of_ble_eq_true rfl) ⟨Nat.zero_le _, Nat.zero_le _⟩ (fun r12 S11 h => ?_)
        obtain ⟨t13, h⟩ := h
        refine jB C [(.iload 4, 2, 0)] 102 [(7, .int r2), (0, .ref (b + v0)), (1, .ref (b + v1)), (2, .ref (b + v2)), (3, .int v3), (4, .int v4), (5, .int v5), (6, .int v6)] [.int v4, rv b r12, .ref (b + v1), .ref (b + a10), .int v4, .ref (b + v1)] (by decide +kernel) rfl rfl ?_
        refine jcVN_I C 105 (rest := [.int v4, .ref (b + v1)]) (ok_X2_glassBy t_a10 t_v1 t13 h) (by decide +kernel : decode cX1_act 102 = .ok (.invokevirtual 46, 3)) rfl wn_843 wd_845 wp_72 wd_4 wd_846 ⟨rfl, rfl⟩ hd_X2_glassBy ⟨Nat.le_of_ble_eq_true rfl, Nat.le_of_ble_eq_true rfl⟩ t_a10 kX2 (by decide) rfl rfl rfl (Nat.le_of_ble_eq_true rfl) ⟨Nat.zero_le _, Nat.zero_le _⟩ (fun r15 S14 h => ?_)
        refine jcVN_V C 108 (rest := []) (ok_X5_setGlass t_v1 h) (by decide +kernel : decode cX1_act 105 = .ok (.invokevirtual 50, 3)) rfl wn_848 wd_381 wp_5 wd_2 wd_382 ⟨rfl, rfl⟩ hd_X5_setGlass ⟨Nat.le_of_ble_eq_true rfl, Nat.le_of_ble_eq_true rfl⟩ t_v1 kX5 (by decide) rfl rfl rfl (Nat.le_of_ble_eq_true rfl) ⟨Nat.zero_le _, Nat.zero_le _⟩ (fun S16 h => ?_)
        refine jB C [(.aload_n 1, 1, 0), (.iload 4, 2, 0)] 111 [(7, .int r2), (0, .ref (b + v0)), (1, .ref (b + v1)), (2, .ref (b + v2)), (3, .int v3), (4, .int v4), (5, .int v5), (6, .int v6)] [.int v4, .ref (b + v1)] (by decide +kernel) rfl rfl ?_
        refine jcVN_I C 114 (rest := []) (ok_X5_glassOf t_v1 h) (by decide +kernel : decode cX1_act 111 = .ok (.invokevirtual 54, 3)) rfl wn_830 wd_402 wp_9 wd_2 wd_403 ⟨rfl, rfl⟩ hd_X5_glassOf ⟨Nat.le_of_ble_eq_true rfl, Nat.le_of_ble_eq_true rfl⟩ t_v1 kX5 (by decide) rfl rfl rfl (Nat.le_of_ble_eq_true rfl) ⟨Nat.zero_le _, Nat.zero_le _⟩ (fun r18 S17 h => ?_)
        refine jcSN_I C 117 (rest := []) (ok_X3_lensesIn h) (by decide +kernel : decode cX1_act 114 = .ok (.invokestatic 58, 3)) rfl wn_849 wd_408 wd_13 wd_409 ⟨rfl, rfl⟩ hd_X3_lensesIn ⟨Nat.le_of_ble_eq_true rfl, Nat.le_of_ble_eq_true rfl⟩ rfl rfl (Nat.le_of_ble_eq_true rfl) ⟨Nat.zero_le _, Nat.zero_le _⟩ (fun r20 S19 h => ?_)
        exact jRetI C (by decide +kernel : decode cX1_act 117 = .ok (.ireturn, 1)) (Nat.le_refl _) (Nat.le_refl _) ⟨rfl, h⟩
      · have h := it2 h c27_1
        by_cases c27_2 : v3 = 2
        · have h := it1 h c27_2
          refine jTabIn C 118 2 (by decide +kernel : decode cX1_act 29 = .ok (.tableswitch 105 0 3 #[31, 59, 89, 98], 31)) c27_2 ⟨rfl, rfl, rfl, rfl⟩ ?_
          refine jB C [(.aload_n 1, 1, 0), (.iload 4, 2, 0), (.iload 5, 2, 0)] 123 [(7, .int r2), (0, .ref (b + v0)), (1, .ref (b + v1)), (2, .ref (b + v2)), (3, .int v3), (4, .int v4), (5, .int v5), (6, .int v6)] [.int v5, .int v4, .ref (b + v1)] (by decide +kernel) rfl rfl ?_
          refine jcS_I C 126 (rest := []) (ok_X1_exchange t_v1 h) (by decide +kernel : decode cX1_act 123 = .ok (.invokestatic 63, 3)) rfl wd_850 wd_851 wd_6 wd_852 ⟨rfl, rfl⟩ hd_X1_exchange ⟨Nat.le_of_ble_eq_true rfl, Nat.le_of_ble_eq_true rfl⟩ rfl rfl (Nat.le_of_ble_eq_true rfl) ⟨Nat.zero_le _, Nat.zero_le _⟩ (fun r22 S21 h => ?_)
          exact jRetI C (by decide +kernel : decode cX1_act 126 = .ok (.ireturn, 1)) (Nat.le_refl _) (Nat.le_refl _) ⟨rfl, h⟩
        · have h := it2 h c27_2
          by_cases c27_3 : v3 = 3
          · have h := it1 h c27_3
            refine jTabIn C 127 3 (by decide +kernel : decode cX1_act 29 = .ok (.tableswitch 105 0 3 #[31, 59, 89, 98], 31)) c27_3 ⟨rfl, rfl, rfl, rfl⟩ ?_
            refine jB C [(.aload_n 1, 1, 0), (.iload 4, 2, 0)] 130 [(7, .int r2), (0, .ref (b + v0)), (1, .ref (b + v1)), (2, .ref (b + v2)), (3, .int v3), (4, .int v4), (5, .int v5), (6, .int v6)] [.int v4, .ref (b + v1)] (by decide +kernel) rfl rfl ?_
            refine jcS_I C 133 (rest := []) (ok_X1_takeOff t_v1 h) (by decide +kernel : decode cX1_act 130 = .ok (.invokestatic 67, 3)) rfl wd_853 wd_854 wd_6 wd_855 ⟨rfl, rfl⟩ hd_X1_takeOff ⟨Nat.le_of_ble_eq_true rfl, Nat.le_of_ble_eq_true rfl⟩ rfl rfl (Nat.le_of_ble_eq_true rfl) ⟨Nat.zero_le _, Nat.zero_le _⟩ (fun r24 S23 h => ?_)
            exact jRetI C (by decide +kernel : decode cX1_act 133 = .ok (.ireturn, 1)) (Nat.le_refl _) (Nat.le_refl _) ⟨rfl, h⟩
          · have h := it2 h c27_3
            refine jTabOut C 134 (by decide +kernel : decode cX1_act 29 = .ok (.tableswitch 105 0 3 #[31, 59, 89, 98], 31)) rfl (by have := lv_neT c27_0 (a := 0) rfl; have := lv_neT c27_1 (a := 1) rfl; have := lv_neT c27_2 (a := 2) rfl; have := lv_neT c27_3 (a := 3) rfl; omega) ?_
            refine jB C [(.aload_n 0, 1, 0), (.aload_n 1, 1, 0)] 136 [(7, .int r2), (0, .ref (b + v0)), (1, .ref (b + v1)), (2, .ref (b + v2)), (3, .int v3), (4, .int v4), (5, .int v5), (6, .int v6)] [.ref (b + v1), .ref (b + v0)] (by decide +kernel) rfl rfl ?_
            refine jcV_I C 139 (rest := []) (ok_X1_nextDay t_v0 t_v1 h) (by decide +kernel : decode cX1_act 136 = .ok (.invokevirtual 71, 3)) rfl wd_856 wd_858 wp_73 wd_6 wd_859 ⟨rfl, rfl⟩ hd_X1_nextDay ⟨Nat.le_of_ble_eq_true rfl, Nat.le_of_ble_eq_true rfl⟩ t_v0 kX1 (by decide) rfl rfl rfl (Nat.le_of_ble_eq_true rfl) ⟨Nat.zero_le _, Nat.zero_le _⟩ (fun r26 S25 h => ?_)
            exact jRetI C (by decide +kernel : decode cX1_act 139 = .ok (.ireturn, 1)) (Nat.le_refl _) (Nat.le_refl _) ⟨rfl, h⟩
  · have h := it2 h c3
    refine jB C [(.iload 7, 2, 0)] 21 [(7, .int r2), (0, .ref (b + v0)), (1, .ref (b + v1)), (2, .ref (b + v2)), (3, .int v3), (4, .int v4), (5, .int v5), (6, .int v6)] [.int r2] (by decide +kernel) rfl rfl ?_
    exact jRetI C (by decide +kernel : decode cX1_act 21 = .ok (.ireturn, 1)) (Nat.le_refl _) (Nat.le_refl _) ⟨rfl, h⟩
theorem ok_X1_act {G : Gm} {v0 : Nat} {v1 : Nat} {v2 : Nat} {v3 : Int32} {v4 : Int32} {v5 : Int32} {v6 : Int32} {S : St} {Q : Int32 → St → Prop} (t_v0 : ok G 1 v0) (t_v1 : ok G 4 v1) (t_v2 : ok G 8 v2) (h : f_X1_act G v0 v1 v2 v3 v4 v5 v6 Q S) : MT yX1_act cX1_act 8 (some .int) rm_X1_act 0 0 (fun b => [.ref (b + v0), .ref (b + v1), .ref (b + v2), .int v3, .int v4, .int v5, .int v6]) G S (QI (fun r G1 S1 => G1 = G ∧ Q r S1)) := MT.ofJ (by decide) (fun b => [(0, .ref (b + v0)), (1, .ref (b + v1)), (2, .ref (b + v2)), (3, .int v3), (4, .int v4), (5, .int v5), (6, .int v6)]) (fun b => rfl) (fun b => Nat.le_of_ble_eq_true rfl) (fun l b D cy p e s m below meth c C hE hn => j_X1_act C hE t_v0 t_v1 t_v2 h)
theorem hd_X1_act : yX1_act.cls ≠ "java/lang/invoke/MethodHandle" ∧ yX1_act.cls ≠ "java/lang/invoke/VarHandle" ∧ (parseMethodDescriptor yX1_act.desc).map (fun d => d.parameters.length) = some 6 := by decide +kernel
def f_X0_runOnce_204 (G : Gm) (u0 : Int32) (u1 : Nat) (Q : Int32 → St → Prop) (S : St) : Prop :=
  (∀ S1, S1 = uI S u1 7 u0 → Q 1 S1)
def f_X0_runOnce_127 (G : Gm) (v0 : Nat) (v1 : Nat) (v2 : Int32) (v3 : Nat) (v4 : Nat) (v9 : Int32) (u0 : Int32) (Q : Int32 → St → Prop) (S : St) : Prop :=
  (if v9 = (-2147483648) then Q 0 S else (if u0 = (-2147483648) then Q 0 S else f_X8_verbOf G v1 v2 (fun r4 S3 => (∃ a5, S3.2.2 v0 3 = some a5 ∧ f_X1_act G a5 v3 v4 r4 v9 u0 1 (fun r7 S6 => (if 0 ≤ r7 then (∀ S9, S9 = uI S6 v0 6 ((S6.1 v0 6) + 1) → (if r4 = 1 then f_X0_runOnce_204 G r7 v0 Q S9 else f_X0_runOnce_204 G (S9.1 v0 7) v0 Q S9)) else Q 0 S6)) S3)) S))
def f_X0_runOnce_98 (G : Gm) (v0 : Nat) (v1 : Nat) (v2 : Int32) (v3 : Nat) (v4 : Nat) (v6 : Int32) (v7 : Int32) (u0 : Int32) (Q : Int32 → St → Prop) (S : St) : Prop :=
  (if v7 ≤ v6 then f_X0_runOnce_127 G v0 v1 v2 v3 v4 u0 0 Q S else (∃ a2, S.2.2 v0 4 = some a2 ∧ (∃ a3, S.2.2 v0 5 = some a3 ∧ f_X7_worth G a2 v1 v6 v7 a3 (fun r5 S4 => f_X0_runOnce_127 G v0 v1 v2 v3 v4 u0 r5 Q S4) S)))
def f_X0_runOnce_71 (G : Gm) (v0 : Nat) (v1 : Nat) (v2 : Int32) (v3 : Nat) (v4 : Nat) (v5 : Int32) (v6 : Int32) (v7 : Int32) (Q : Int32 → St → Prop) (S : St) : Prop :=
  (if v6 ≤ v5 then f_X0_runOnce_98 G v0 v1 v2 v3 v4 v6 v7 0 Q S else (∃ a2, S.2.2 v0 4 = some a2 ∧ (∃ a3, S.2.2 v0 5 = some a3 ∧ f_X7_worth G a2 v1 v5 v6 a3 (fun r5 S4 => f_X0_runOnce_98 G v0 v1 v2 v3 v4 v6 v7 r5 Q S4) S)))
def f_X0_runOnce (G : Gm) (v0 : Nat) (v1 : Nat) (v2 : Int32) (v3 : Nat) (v4 : Nat) (Q : Int32 → St → Prop) (S : St) : Prop :=
  f_X8_usesOf G v1 v2 (fun r2 S1 => f_X0_learnWords G v0 r2 v3 (fun S3 => f_X8_markOf G v1 v2 0 (fun r5 S4 => f_X8_markOf G v1 v2 1 (fun r7 S6 => f_X8_markOf G v1 v2 2 (fun r9 S8 => f_X8_markOf G v1 v2 3 (fun r11 S10 => (if r11 ≤ r9 then f_X0_runOnce_71 G v0 v1 v2 v3 v4 r5 r7 r9 Q S10 else (∃ a13, S10.2.2 v0 4 = some a13 ∧ (∃ a14, S10.2.2 v0 5 = some a14 ∧ f_X7_worth G a13 v1 r9 r11 a14 (fun r16 S15 => (if r16 = 1 then f_X0_runOnce_71 G v0 v1 v2 v3 v4 r5 r7 r9 Q S15 else Q 1 S15)) S10)))) S8) S6) S4) S3) S1) S
abbrev rm_X0_runOnce : Room := { frames := 6, cells := 0, slots := 0, locals := 160 }
set_option maxHeartbeats 4000000 in
set_option maxRecDepth 100000 in
theorem j_X0_runOnce_204 {p : Program} {l : Launch} {e : Env} {s : State} {m : MethodId} {args : Array Value} {below : List Frame} {meth : Method} {c : Code} {b : Nat} {D : va_G} {cy : Nat → ClassId} {G : Gm} {u0 : Int32} {u1 : Nat} {S : St} {Q : Int32 → St → Prop} (C : CX p s m args meth c b D cy cX0_runOnce RX0 13 (some .boolean)) (hE : s.heap.size + 0 ≤ b + G.2.2) (t_u1 : ok G 0 u1) (h : f_X0_runOnce_204 G u0 u1 Q S) : J p l e rm_X0_runOnce s m args below meth c b D cy 13 (zI b D cy below args s G Q) 0 0 G S 204 [] [.int u0, .ref (b + u1)] := by
  unfold f_X0_runOnce_204 at h
  refine jPutI C 207 (by decide +kernel : decode cX0_runOnce 204 = .ok (.putfield 61, 3)) rfl hE t_u1 kX0 7 (by decide) rfl rfl (by decide) rfl wd_163 rfl rfl rfl ?_
  refine jTopS (fun S1 e_S1 => ?_)
  have h := h S1 e_S1
  refine jB C [(.iconst 1, 1, 1)] 208 [] [.int 1] (by decide +kernel) rfl rfl ?_
  exact jRetZ C (by decide +kernel : decode cX0_runOnce 208 = .ok (.ireturn, 1)) (Nat.le_refl _) (Nat.le_refl _) (by decide) ⟨rfl, h⟩
set_option maxHeartbeats 4000000 in
set_option maxRecDepth 100000 in
theorem j_X0_runOnce_127 {p : Program} {l : Launch} {e : Env} {s : State} {m : MethodId} {args : Array Value} {below : List Frame} {meth : Method} {c : Code} {b : Nat} {D : va_G} {cy : Nat → ClassId} {G : Gm} {v0 : Nat} {v1 : Nat} {v2 : Int32} {v3 : Nat} {v4 : Nat} {v9 : Int32} {u0 : Int32} {S : St} {Q : Int32 → St → Prop} (C : CX p s m args meth c b D cy cX0_runOnce RX0 13 (some .boolean)) (hE : s.heap.size + 0 ≤ b + G.2.2) (t_v0 : ok G 0 v0) (t_v1 : ok G 7 v1) (t_v3 : ok G 4 v3) (t_v4 : ok G 8 v4) (h : f_X0_runOnce_127 G v0 v1 v2 v3 v4 v9 u0 Q S) : J p l e rm_X0_runOnce s m args below meth c b D cy 13 (zI b D cy below args s G Q) 0 0 G S 127 [(0, .ref (b + v0)), (1, .ref (b + v1)), (2, .int v2), (3, .ref (b + v3)), (4, .ref (b + v4)), (9, .int v9)] [.int u0] := by
  unfold f_X0_runOnce_127 at h
  refine jB C [(.istore 10, 2, 0), (.iload 9, 2, 0)] 131 [(10, .int u0), (0, .ref (b + v0)), (1, .ref (b + v1)), (2, .int v2), (3, .ref (b + v3)), (4, .ref (b + v4)), (9, .int v9)] [.int v9] (by decide +kernel) rfl rfl ?_
  refine jLdc C 133 (by decide +kernel : decode cX0_runOnce 131 = .ok (.ldc 82, 2)) rfl wd_813 ?_
  refine jIcmp_eq C 136 143 (by decide +kernel : decode cX0_runOnce 133 = .ok (.if_icmp .eq 10, 3)) rfl rfl (fun c1 => ?_) (fun c1 => ?_)
  · have h := it1 h c1
    refine jB C [(.iconst 0, 1, 0)] 144 [(10, .int u0), (0, .ref (b + v0)), (1, .ref (b + v1)), (2, .int v2), (3, .ref (b + v3)), (4, .ref (b + v4)), (9, .int v9)] [.int 0] (by decide +kernel) rfl rfl ?_
    exact jRetZ C (by decide +kernel : decode cX0_runOnce 144 = .ok (.ireturn, 1)) (Nat.le_refl _) (Nat.le_refl _) (by decide) ⟨rfl, h⟩
  · have h := it2 h c1
    refine jB C [(.iload 10, 2, 0)] 138 [(10, .int u0), (0, .ref (b + v0)), (1, .ref (b + v1)), (2, .int v2), (3, .ref (b + v3)), (4, .ref (b + v4)), (9, .int v9)] [.int u0] (by decide +kernel) rfl rfl ?_
    refine jLdc C 140 (by decide +kernel : decode cX0_runOnce 138 = .ok (.ldc 82, 2)) rfl wd_813 ?_
    refine jIcmp_ne C 143 145 (by decide +kernel : decode cX0_runOnce 140 = .ok (.if_icmp .ne 5, 3)) rfl rfl (fun c2 => ?_) (fun c2 => ?_)
    · have h := it2 h c2
      refine jB C [(.aload_n 1, 1, 0), (.iload_n 2, 1, 0)] 147 [(10, .int u0), (0, .ref (b + v0)), (1, .ref (b + v1)), (2, .int v2), (3, .ref (b + v3)), (4, .ref (b + v4)), (9, .int v9)] [.int v2, .ref (b + v1)] (by decide +kernel) rfl rfl ?_
      refine jcVN_I C 150 (rest := []) (ok_X8_verbOf t_v1 h) (by decide +kernel : decode cX0_runOnce 147 = .ok (.invokevirtual 83, 3)) rfl wn_814 wd_464 wp_19 wd_10 wd_465 ⟨rfl, rfl⟩ hd_X8_verbOf ⟨Nat.le_of_ble_eq_true rfl, Nat.le_of_ble_eq_true rfl⟩ t_v1 kX8 (by decide) rfl rfl rfl (Nat.le_of_ble_eq_true rfl) ⟨Nat.zero_le _, Nat.zero_le _⟩ (fun r4 S3 h => ?_)
      refine jB C [(.istore 11, 2, 0), (.aload_n 0, 1, 0)] 153 [(11, .int r4), (10, .int u0), (0, .ref (b + v0)), (1, .ref (b + v1)), (2, .int v2), (3, .ref (b + v3)), (4, .ref (b + v4)), (9, .int v9)] [.ref (b + v0)] (by decide +kernel) rfl rfl ?_
      obtain ⟨a5, e_a5, h⟩ := h
      refine jGetR C 156 (by decide +kernel : decode cX0_runOnce 153 = .ok (.getfield 35, 3)) rfl t_v0 kX0 3 (by decide) rfl rfl (by decide) wd_158 e_a5 rfl (fun t_a5 => ?_)
      refine jB C [(.aload_n 3, 1, 0), (.aload 4, 2, 0), (.iload 11, 2, 0), (.iload 9, 2, 0), (.iload 10, 2, 0), (.iconst 1, 1, 1)] 166 [(11, .int r4), (10, .int u0), (0, .ref (b + v0)), (1, .ref (b + v1)), (2, .int v2), (3, .ref (b + v3)), (4, .ref (b + v4)), (9, .int v9)] [.int 1, .int u0, .int v9, .int r4, .ref (b + v4), .ref (b + v3), .ref (b + a5)] (by decide +kernel) rfl rfl ?_
      refine jcVN_I C 169 (rest := []) (ok_X1_act t_a5 t_v3 t_v4 h) (by decide +kernel : decode cX0_runOnce 166 = .ok (.invokevirtual 86, 3)) rfl wn_815 wd_817 wp_69 wd_6 wd_818 ⟨rfl, rfl⟩ hd_X1_act ⟨Nat.le_of_ble_eq_true rfl, Nat.le_of_ble_eq_true rfl⟩ t_a5 kX1 (by decide) rfl rfl rfl (Nat.le_of_ble_eq_true rfl) ⟨Nat.zero_le _, Nat.zero_le _⟩ (fun r7 S6 h => ?_)
      refine jB C [(.istore 12, 2, 0), (.iload 12, 2, 0)] 173 [(12, .int r7), (11, .int r4), (10, .int u0), (0, .ref (b + v0)), (1, .ref (b + v1)), (2, .int v2), (3, .ref (b + v3)), (4, .ref (b + v4)), (9, .int v9)] [.int r7] (by decide +kernel) rfl rfl ?_
      refine jIf_ge C 176 178 (by decide +kernel : decode cX0_runOnce 173 = .ok (.ifCond .ge 5, 3)) rfl rfl (fun c8 => ?_) (fun c8 => ?_)
      · have h := it1 h c8
        refine jB C [(.aload_n 0, 1, 0), (.dup, 1, 0)] 180 [(12, .int r7), (11, .int r4), (10, .int u0), (0, .ref (b + v0)), (1, .ref (b + v1)), (2, .int v2), (3, .ref (b + v3)), (4, .ref (b + v4)), (9, .int v9)] [.ref (b + v0), .ref (b + v0)] (by decide +kernel) rfl rfl ?_
        refine jGetI C 183 (by decide +kernel : decode cX0_runOnce 180 = .ok (.getfield 57, 3)) rfl t_v0 kX0 6 (by decide) rfl rfl (by decide) wd_161 ?_
        refine jB C [(.iconst 1, 1, 1), (.iadd, 1, 0)] 185 [(12, .int r7), (11, .int r4), (10, .int u0), (0, .ref (b + v0)), (1, .ref (b + v1)), (2, .int v2), (3, .ref (b + v3)), (4, .ref (b + v4)), (9, .int v9)] [.int ((S6.1 v0 6) + 1), .ref (b + v0)] (by decide +kernel) rfl rfl ?_
        refine jPutI C 188 (by decide +kernel : decode cX0_runOnce 185 = .ok (.putfield 57, 3)) rfl hE t_v0 kX0 6 (by decide) rfl rfl (by decide) rfl wd_161 rfl rfl rfl ?_
        refine jTopS (fun S9 e_S9 => ?_)
        have h := h S9 e_S9
        refine jB C [(.aload_n 0, 1, 0), (.iload 11, 2, 0), (.iconst 1, 1, 1)] 192 [(12, .int r7), (11, .int r4), (10, .int u0), (0, .ref (b + v0)), (1, .ref (b + v1)), (2, .int v2), (3, .ref (b + v3)), (4, .ref (b + v4)), (9, .int v9)] [.int 1, .int r4, .ref (b + v0)] (by decide +kernel) rfl rfl ?_
        refine jIcmp_ne C 195 200 (by decide +kernel : decode cX0_runOnce 192 = .ok (.if_icmp .ne 8, 3)) rfl rfl (fun c10 => ?_) (fun c10 => ?_)
        · have h := it2 h c10
          refine jB C [(.aload_n 0, 1, 0)] 201 [(12, .int r7), (11, .int r4), (10, .int u0), (0, .ref (b + v0)), (1, .ref (b + v1)), (2, .int v2), (3, .ref (b + v3)), (4, .ref (b + v4)), (9, .int v9)] [.ref (b + v0), .ref (b + v0)] (by decide +kernel) rfl rfl ?_
          refine jGetI C 204 (by decide +kernel : decode cX0_runOnce 201 = .ok (.getfield 61, 3)) rfl t_v0 kX0 7 (by decide) rfl rfl (by decide) wd_163 ?_
          refine jSub [] rfl ?_
          exact j_X0_runOnce_204 C hE t_v0 h
        · have h := it1 h c10
          refine jB C [(.iload 12, 2, 0)] 197 [(12, .int r7), (11, .int r4), (10, .int u0), (0, .ref (b + v0)), (1, .ref (b + v1)), (2, .int v2), (3, .ref (b + v3)), (4, .ref (b + v4)), (9, .int v9)] [.int r7, .ref (b + v0)] (by decide +kernel) rfl rfl ?_
          refine jGoto C 204 (by decide +kernel : decode cX0_runOnce 197 = .ok (.goto 7, 3)) rfl ?_
          refine jSub [] rfl ?_
          exact j_X0_runOnce_204 C hE t_v0 h
      · have h := it2 h c8
        refine jB C [(.iconst 0, 1, 0)] 177 [(12, .int r7), (11, .int r4), (10, .int u0), (0, .ref (b + v0)), (1, .ref (b + v1)), (2, .int v2), (3, .ref (b + v3)), (4, .ref (b + v4)), (9, .int v9)] [.int 0] (by decide +kernel) rfl rfl ?_
        exact jRetZ C (by decide +kernel : decode cX0_runOnce 177 = .ok (.ireturn, 1)) (Nat.le_refl _) (Nat.le_refl _) (by decide) ⟨rfl, h⟩
    · have h := it1 h c2
      refine jB C [(.iconst 0, 1, 0)] 144 [(10, .int u0), (0, .ref (b + v0)), (1, .ref (b + v1)), (2, .int v2), (3, .ref (b + v3)), (4, .ref (b + v4)), (9, .int v9)] [.int 0] (by decide +kernel) rfl rfl ?_
      exact jRetZ C (by decide +kernel : decode cX0_runOnce 144 = .ok (.ireturn, 1)) (Nat.le_refl _) (Nat.le_refl _) (by decide) ⟨rfl, h⟩
set_option maxHeartbeats 4000000 in
set_option maxRecDepth 100000 in
theorem j_X0_runOnce_98 {p : Program} {l : Launch} {e : Env} {s : State} {m : MethodId} {args : Array Value} {below : List Frame} {meth : Method} {c : Code} {b : Nat} {D : va_G} {cy : Nat → ClassId} {G : Gm} {v0 : Nat} {v1 : Nat} {v2 : Int32} {v3 : Nat} {v4 : Nat} {v6 : Int32} {v7 : Int32} {u0 : Int32} {S : St} {Q : Int32 → St → Prop} (C : CX p s m args meth c b D cy cX0_runOnce RX0 13 (some .boolean)) (hE : s.heap.size + 0 ≤ b + G.2.2) (t_v0 : ok G 0 v0) (t_v1 : ok G 7 v1) (t_v3 : ok G 4 v3) (t_v4 : ok G 8 v4) (h : f_X0_runOnce_98 G v0 v1 v2 v3 v4 v6 v7 u0 Q S) : J p l e rm_X0_runOnce s m args below meth c b D cy 13 (zI b D cy below args s G Q) 0 0 G S 98 [(0, .ref (b + v0)), (1, .ref (b + v1)), (2, .int v2), (3, .ref (b + v3)), (4, .ref (b + v4)), (6, .int v6), (7, .int v7)] [.int u0] := by
  unfold f_X0_runOnce_98 at h
  refine jB C [(.istore 9, 2, 0), (.iload 6, 2, 0), (.iload 7, 2, 0)] 104 [(9, .int u0), (0, .ref (b + v0)), (1, .ref (b + v1)), (2, .int v2), (3, .ref (b + v3)), (4, .ref (b + v4)), (6, .int v6), (7, .int v7)] [.int v7, .int v6] (by decide +kernel) rfl rfl ?_
  refine jIcmp_ge C 107 126 (by decide +kernel : decode cX0_runOnce 104 = .ok (.if_icmp .ge 22, 3)) rfl rfl (fun c1 => ?_) (fun c1 => ?_)
  · have h := it1 h c1
    refine jB C [(.iconst 0, 1, 0)] 127 [(9, .int u0), (0, .ref (b + v0)), (1, .ref (b + v1)), (2, .int v2), (3, .ref (b + v3)), (4, .ref (b + v4)), (6, .int v6), (7, .int v7)] [.int 0] (by decide +kernel) rfl rfl ?_
    refine jSub [1, 2, 3, 4, 5, 0] rfl ?_
    exact j_X0_runOnce_127 C hE t_v0 t_v1 t_v3 t_v4 h
  · have h := it2 h c1
    refine jB C [(.aload_n 0, 1, 0)] 108 [(9, .int u0), (0, .ref (b + v0)), (1, .ref (b + v1)), (2, .int v2), (3, .ref (b + v3)), (4, .ref (b + v4)), (6, .int v6), (7, .int v7)] [.ref (b + v0)] (by decide +kernel) rfl rfl ?_
    obtain ⟨a2, e_a2, h⟩ := h
    refine jGetR C 111 (by decide +kernel : decode cX0_runOnce 108 = .ok (.getfield 42, 3)) rfl t_v0 kX0 4 (by decide) rfl rfl (by decide) wd_159 e_a2 rfl (fun t_a2 => ?_)
    refine jB C [(.aload_n 1, 1, 0), (.iload 6, 2, 0), (.iload 7, 2, 0), (.aload_n 0, 1, 0)] 117 [(9, .int u0), (0, .ref (b + v0)), (1, .ref (b + v1)), (2, .int v2), (3, .ref (b + v3)), (4, .ref (b + v4)), (6, .int v6), (7, .int v7)] [.ref (b + v0), .int v7, .int v6, .ref (b + v1), .ref (b + a2)] (by decide +kernel) rfl rfl ?_
    obtain ⟨a3, e_a3, h⟩ := h
    refine jGetR C 120 (by decide +kernel : decode cX0_runOnce 117 = .ok (.getfield 46, 3)) rfl t_v0 kX0 5 (by decide) rfl rfl (by decide) wd_160 e_a3 rfl (fun t_a3 => ?_)
    refine jcVN_I C 123 (rest := []) (ok_X7_worth t_a2 t_v1 t_a3 h) (by decide +kernel : decode cX0_runOnce 120 = .ok (.invokevirtual 78, 3)) rfl wn_812 wd_472 wp_21 wd_5 wd_473 ⟨rfl, rfl⟩ hd_X7_worth ⟨Nat.le_of_ble_eq_true rfl, Nat.le_of_ble_eq_true rfl⟩ t_a2 kX7 (by decide) rfl rfl rfl (Nat.le_of_ble_eq_true rfl) ⟨Nat.zero_le _, Nat.zero_le _⟩ (fun r5 S4 h => ?_)
    refine jGoto C 127 (by decide +kernel : decode cX0_runOnce 123 = .ok (.goto 4, 3)) rfl ?_
    refine jSub [1, 2, 3, 4, 5, 0] rfl ?_
    exact j_X0_runOnce_127 C hE t_v0 t_v1 t_v3 t_v4 h
set_option maxHeartbeats 4000000 in
set_option maxRecDepth 100000 in
theorem j_X0_runOnce_71 {p : Program} {l : Launch} {e : Env} {s : State} {m : MethodId} {args : Array Value} {below : List Frame} {meth : Method} {c : Code} {b : Nat} {D : va_G} {cy : Nat → ClassId} {G : Gm} {v0 : Nat} {v1 : Nat} {v2 : Int32} {v3 : Nat} {v4 : Nat} {v5 : Int32} {v6 : Int32} {v7 : Int32} {S : St} {Q : Int32 → St → Prop} (C : CX p s m args meth c b D cy cX0_runOnce RX0 13 (some .boolean)) (hE : s.heap.size + 0 ≤ b + G.2.2) (t_v0 : ok G 0 v0) (t_v1 : ok G 7 v1) (t_v3 : ok G 4 v3) (t_v4 : ok G 8 v4) (h : f_X0_runOnce_71 G v0 v1 v2 v3 v4 v5 v6 v7 Q S) : J p l e rm_X0_runOnce s m args below meth c b D cy 13 (zI b D cy below args s G Q) 0 0 G S 71 [(0, .ref (b + v0)), (1, .ref (b + v1)), (2, .int v2), (3, .ref (b + v3)), (4, .ref (b + v4)), (5, .int v5), (6, .int v6), (7, .int v7)] [] := by
  unfold f_X0_runOnce_71 at h
  refine jB C [(.iload 5, 2, 0), (.iload 6, 2, 0)] 75 [(0, .ref (b + v0)), (1, .ref (b + v1)), (2, .int v2), (3, .ref (b + v3)), (4, .ref (b + v4)), (5, .int v5), (6, .int v6), (7, .int v7)] [.int v6, .int v5] (by decide +kernel) rfl rfl ?_
  refine jIcmp_ge C 78 97 (by decide +kernel : decode cX0_runOnce 75 = .ok (.if_icmp .ge 22, 3)) rfl rfl (fun c1 => ?_) (fun c1 => ?_)
  · have h := it1 h c1
    refine jB C [(.iconst 0, 1, 0)] 98 [(0, .ref (b + v0)), (1, .ref (b + v1)), (2, .int v2), (3, .ref (b + v3)), (4, .ref (b + v4)), (5, .int v5), (6, .int v6), (7, .int v7)] [.int 0] (by decide +kernel) rfl rfl ?_
    refine jSub [0, 1, 2, 3, 4, 6, 7] rfl ?_
    exact j_X0_runOnce_98 C hE t_v0 t_v1 t_v3 t_v4 h
  · have h := it2 h c1
    refine jB C [(.aload_n 0, 1, 0)] 79 [(0, .ref (b + v0)), (1, .ref (b + v1)), (2, .int v2), (3, .ref (b + v3)), (4, .ref (b + v4)), (5, .int v5), (6, .int v6), (7, .int v7)] [.ref (b + v0)] (by decide +kernel) rfl rfl ?_
    obtain ⟨a2, e_a2, h⟩ := h
    refine jGetR C 82 (by decide +kernel : decode cX0_runOnce 79 = .ok (.getfield 42, 3)) rfl t_v0 kX0 4 (by decide) rfl rfl (by decide) wd_159 e_a2 rfl (fun t_a2 => ?_)
    refine jB C [(.aload_n 1, 1, 0), (.iload 5, 2, 0), (.iload 6, 2, 0), (.aload_n 0, 1, 0)] 88 [(0, .ref (b + v0)), (1, .ref (b + v1)), (2, .int v2), (3, .ref (b + v3)), (4, .ref (b + v4)), (5, .int v5), (6, .int v6), (7, .int v7)] [.ref (b + v0), .int v6, .int v5, .ref (b + v1), .ref (b + a2)] (by decide +kernel) rfl rfl ?_
    obtain ⟨a3, e_a3, h⟩ := h
    refine jGetR C 91 (by decide +kernel : decode cX0_runOnce 88 = .ok (.getfield 46, 3)) rfl t_v0 kX0 5 (by decide) rfl rfl (by decide) wd_160 e_a3 rfl (fun t_a3 => ?_)
    refine jcVN_I C 94 (rest := []) (ok_X7_worth t_a2 t_v1 t_a3 h) (by decide +kernel : decode cX0_runOnce 91 = .ok (.invokevirtual 78, 3)) rfl wn_812 wd_472 wp_21 wd_5 wd_473 ⟨rfl, rfl⟩ hd_X7_worth ⟨Nat.le_of_ble_eq_true rfl, Nat.le_of_ble_eq_true rfl⟩ t_a2 kX7 (by decide) rfl rfl rfl (Nat.le_of_ble_eq_true rfl) ⟨Nat.zero_le _, Nat.zero_le _⟩ (fun r5 S4 h => ?_)
    refine jGoto C 98 (by decide +kernel : decode cX0_runOnce 94 = .ok (.goto 4, 3)) rfl ?_
    refine jSub [0, 1, 2, 3, 4, 6, 7] rfl ?_
    exact j_X0_runOnce_98 C hE t_v0 t_v1 t_v3 t_v4 h
set_option maxHeartbeats 4000000 in
set_option maxRecDepth 100000 in
theorem j_X0_runOnce {p : Program} {l : Launch} {e : Env} {s : State} {m : MethodId} {args : Array Value} {below : List Frame} {meth : Method} {c : Code} {b : Nat} {D : va_G} {cy : Nat → ClassId} {G : Gm} {v0 : Nat} {v1 : Nat} {v2 : Int32} {v3 : Nat} {v4 : Nat} {S : St} {Q : Int32 → St → Prop} (C : CX p s m args meth c b D cy cX0_runOnce RX0 13 (some .boolean)) (hE : s.heap.size + 0 ≤ b + G.2.2) (t_v0 : ok G 0 v0) (t_v1 : ok G 7 v1) (t_v3 : ok G 4 v3) (t_v4 : ok G 8 v4) (h : f_X0_runOnce G v0 v1 v2 v3 v4 Q S) : J p l e rm_X0_runOnce s m args below meth c b D cy 13 (zI b D cy below args s G Q) 0 0 G S 0 [(0, .ref (b + v0)), (1, .ref (b + v1)), (2, .int v2), (3, .ref (b + v3)), (4, .ref (b + v4))] [] := by
  unfold f_X0_runOnce at h
  refine jB C [(.aload_n 0, 1, 0), (.aload_n 1, 1, 0), (.iload_n 2, 1, 0)] 3 [(0, .ref (b + v0)), (1, .ref (b + v1)), (2, .int v2), (3, .ref (b + v3)), (4, .ref (b + v4))] [.int v2, .ref (b + v1), .ref (b + v0)] (by decide +kernel) rfl rfl ?_
  refine jcVN_I C 6 (rest := [.ref (b + v0)]) (ok_X8_usesOf t_v1 h) (by decide +kernel : decode cX0_runOnce 3 = .ok (.invokevirtual 64, 3)) rfl wn_798 wd_800 wp_67 wd_10 wd_801 ⟨rfl, rfl⟩ hd_X8_usesOf ⟨Nat.le_of_ble_eq_true rfl, Nat.le_of_ble_eq_true rfl⟩ t_v1 kX8 (by decide) rfl rfl rfl (Nat.le_of_ble_eq_true rfl) ⟨Nat.zero_le _, Nat.zero_le _⟩ (fun r2 S1 h => ?_)
  refine jB C [(.aload_n 3, 1, 0)] 7 [(0, .ref (b + v0)), (1, .ref (b + v1)), (2, .int v2), (3, .ref (b + v3)), (4, .ref (b + v4))] [.ref (b + v3), .int r2, .ref (b + v0)] (by decide +kernel) rfl rfl ?_
  refine jcV_V C 10 (rest := []) (ok_X0_learnWords t_v0 t_v3 h) (by decide +kernel : decode cX0_runOnce 7 = .ok (.invokevirtual 70, 3)) rfl wd_802 wd_804 wp_68 wd_7 wd_805 ⟨rfl, rfl⟩ hd_X0_learnWords ⟨Nat.le_of_ble_eq_true rfl, Nat.le_of_ble_eq_true rfl⟩ t_v0 kX0 (by decide) rfl rfl rfl (Nat.le_of_ble_eq_true rfl) ⟨Nat.zero_le _, Nat.zero_le _⟩ (fun S3 h => ?_)
  refine jB C [(.aload_n 1, 1, 0), (.iload_n 2, 1, 0), (.iconst 0, 1, 0)] 13 [(0, .ref (b + v0)), (1, .ref (b + v1)), (2, .int v2), (3, .ref (b + v3)), (4, .ref (b + v4))] [.int 0, .int v2, .ref (b + v1)] (by decide +kernel) rfl rfl ?_
  refine jcVN_I C 16 (rest := []) (ok_X8_markOf t_v1 h) (by decide +kernel : decode cX0_runOnce 13 = .ok (.invokevirtual 74, 3)) rfl wn_811 wd_468 wp_20 wd_10 wd_469 ⟨rfl, rfl⟩ hd_X8_markOf ⟨Nat.le_of_ble_eq_true rfl, Nat.le_of_ble_eq_true rfl⟩ t_v1 kX8 (by decide) rfl rfl rfl (Nat.le_of_ble_eq_true rfl) ⟨Nat.zero_le _, Nat.zero_le _⟩ (fun r5 S4 h => ?_)
  refine jB C [(.istore 5, 2, 0), (.aload_n 1, 1, 0), (.iload_n 2, 1, 0), (.iconst 1, 1, 1)] 21 [(5, .int r5), (0, .ref (b + v0)), (1, .ref (b + v1)), (2, .int v2), (3, .ref (b + v3)), (4, .ref (b + v4))] [.int 1, .int v2, .ref (b + v1)] (by decide +kernel) rfl rfl ?_
  refine jcVN_I C 24 (rest := []) (ok_X8_markOf t_v1 h) (by decide +kernel : decode cX0_runOnce 21 = .ok (.invokevirtual 74, 3)) rfl wn_811 wd_468 wp_20 wd_10 wd_469 ⟨rfl, rfl⟩ hd_X8_markOf ⟨Nat.le_of_ble_eq_true rfl, Nat.le_of_ble_eq_true rfl⟩ t_v1 kX8 (by decide) rfl rfl rfl (Nat.le_of_ble_eq_true rfl) ⟨Nat.zero_le _, Nat.zero_le _⟩ (fun r7 S6 h => ?_)
  refine jB C [(.istore 6, 2, 0), (.aload_n 1, 1, 0), (.iload_n 2, 1, 0), (.iconst 2, 1, 2)] 29 [(6, .int r7), (5, .int r5), (0, .ref (b + v0)), (1, .ref (b + v1)), (2, .int v2), (3, .ref (b + v3)), (4, .ref (b + v4))] [.int 2, .int v2, .ref (b + v1)] (by decide +kernel) rfl rfl ?_
  refine jcVN_I C 32 (rest := []) (ok_X8_markOf t_v1 h) (by decide +kernel : decode cX0_runOnce 29 = .ok (.invokevirtual 74, 3)) rfl wn_811 wd_468 wp_20 wd_10 wd_469 ⟨rfl, rfl⟩ hd_X8_markOf ⟨Nat.le_of_ble_eq_true rfl, Nat.le_of_ble_eq_true rfl⟩ t_v1 kX8 (by decide) rfl rfl rfl (Nat.le_of_ble_eq_true rfl) ⟨Nat.zero_le _, Nat.zero_le _⟩ (fun r9 S8 h => ?_)
  refine jB C [(.istore 7, 2, 0), (.aload_n 1, 1, 0), (.iload_n 2, 1, 0), (.iconst 3, 1, 3)] 37 [(7, .int r9), (6, .int r7), (5, .int r5), (0, .ref (b + v0)), (1, .ref (b + v1)), (2, .int v2), (3, .ref (b + v3)), (4, .ref (b + v4))] [.int 3, .int v2, .ref (b + v1)] (by decide +kernel) rfl rfl ?_
  refine jcVN_I C 40 (rest := []) (ok_X8_markOf t_v1 h) (by decide +kernel : decode cX0_runOnce 37 = .ok (.invokevirtual 74, 3)) rfl wn_811 wd_468 wp_20 wd_10 wd_469 ⟨rfl, rfl⟩ hd_X8_markOf ⟨Nat.le_of_ble_eq_true rfl, Nat.le_of_ble_eq_true rfl⟩ t_v1 kX8 (by decide) rfl rfl rfl (Nat.le_of_ble_eq_true rfl) ⟨Nat.zero_le _, Nat.zero_le _⟩ (fun r11 S10 h => ?_)
  refine jB C [(.istore 8, 2, 0), (.iload 7, 2, 0), (.iload 8, 2, 0)] 46 [(8, .int r11), (7, .int r9), (6, .int r7), (5, .int r5), (0, .ref (b + v0)), (1, .ref (b + v1)), (2, .int v2), (3, .ref (b + v3)), (4, .ref (b + v4))] [.int r11, .int r9] (by decide +kernel) rfl rfl ?_
  refine jIcmp_ge C 49 71 (by decide +kernel : decode cX0_runOnce 46 = .ok (.if_icmp .ge 25, 3)) rfl rfl (fun c12 => ?_) (fun c12 => ?_)
  · have h := it1 h c12
    refine jSub [4, 5, 6, 7, 8, 3, 2, 1] rfl ?_
    exact j_X0_runOnce_71 C hE t_v0 t_v1 t_v3 t_v4 h
  · have h := it2 h c12
    refine jB C [(.aload_n 0, 1, 0)] 50 [(8, .int r11), (7, .int r9), (6, .int r7), (5, .int r5), (0, .ref (b + v0)), (1, .ref (b + v1)), (2, .int v2), (3, .ref (b + v3)), (4, .ref (b + v4))] [.ref (b + v0)] (by decide +kernel) rfl rfl ?_
    obtain ⟨a13, e_a13, h⟩ := h
    refine jGetR C 53 (by decide +kernel : decode cX0_runOnce 50 = .ok (.getfield 42, 3)) rfl t_v0 kX0 4 (by decide) rfl rfl (by decide) wd_159 e_a13 rfl (fun t_a13 => ?_)
    refine jB C [(.aload_n 1, 1, 0), (.iload 7, 2, 0), (.iload 8, 2, 0), (.aload_n 0, 1, 0)] 59 [(8, .int r11), (7, .int r9), (6, .int r7), (5, .int r5), (0, .ref (b + v0)), (1, .ref (b + v1)), (2, .int v2), (3, .ref (b + v3)), (4, .ref (b + v4))] [.ref (b + v0), .int r11, .int r9, .ref (b + v1), .ref (b + a13)] (by decide +kernel) rfl rfl ?_
    obtain ⟨a14, e_a14, h⟩ := h
    refine jGetR C 62 (by decide +kernel : decode cX0_runOnce 59 = .ok (.getfield 46, 3)) rfl t_v0 kX0 5 (by decide) rfl rfl (by decide) wd_160 e_a14 rfl (fun t_a14 => ?_)
    refine jcVN_I C 65 (rest := []) (ok_X7_worth t_a13 t_v1 t_a14 h) (by decide +kernel : decode cX0_runOnce 62 = .ok (.invokevirtual 78, 3)) rfl wn_812 wd_472 wp_21 wd_5 wd_473 ⟨rfl, rfl⟩ hd_X7_worth ⟨Nat.le_of_ble_eq_true rfl, Nat.le_of_ble_eq_true rfl⟩ t_a13 kX7 (by decide) rfl rfl rfl (Nat.le_of_ble_eq_true rfl) ⟨Nat.zero_le _, Nat.zero_le _⟩ (fun r16 S15 h => ?_)
    refine jB C [(.iconst 1, 1, 1)] 66 [(8, .int r11), (7, .int r9), (6, .int r7), (5, .int r5), (0, .ref (b + v0)), (1, .ref (b + v1)), (2, .int v2), (3, .ref (b + v3)), (4, .ref (b + v4))] [.int 1, .int r16] (by decide +kernel) rfl rfl ?_
    refine jIcmp_eq C 69 71 (by decide +kernel : decode cX0_runOnce 66 = .ok (.if_icmp .eq 5, 3)) rfl rfl (fun c17 => ?_) (fun c17 => ?_)
    · have h := it1 h c17
      refine jSub [4, 5, 6, 7, 8, 3, 2, 1] rfl ?_
      exact j_X0_runOnce_71 C hE t_v0 t_v1 t_v3 t_v4 h
    · have h := it2 h c17
      refine jB C [(.iconst 1, 1, 1)] 70 [(8, .int r11), (7, .int r9), (6, .int r7), (5, .int r5), (0, .ref (b + v0)), (1, .ref (b + v1)), (2, .int v2), (3, .ref (b + v3)), (4, .ref (b + v4))] [.int 1] (by decide +kernel) rfl rfl ?_
      exact jRetZ C (by decide +kernel : decode cX0_runOnce 70 = .ok (.ireturn, 1)) (Nat.le_refl _) (Nat.le_refl _) (by decide) ⟨rfl, h⟩
theorem ok_X0_runOnce {G : Gm} {v0 : Nat} {v1 : Nat} {v2 : Int32} {v3 : Nat} {v4 : Nat} {S : St} {Q : Int32 → St → Prop} (t_v0 : ok G 0 v0) (t_v1 : ok G 7 v1) (t_v3 : ok G 4 v3) (t_v4 : ok G 8 v4) (h : f_X0_runOnce G v0 v1 v2 v3 v4 Q S) : MT yX0_runOnce cX0_runOnce 13 (some .boolean) rm_X0_runOnce 0 0 (fun b => [.ref (b + v0), .ref (b + v1), .int v2, .ref (b + v3), .ref (b + v4)]) G S (QI (fun r G1 S1 => G1 = G ∧ Q r S1)) := MT.ofJ (by decide) (fun b => [(0, .ref (b + v0)), (1, .ref (b + v1)), (2, .int v2), (3, .ref (b + v3)), (4, .ref (b + v4))]) (fun b => rfl) (fun b => Nat.le_of_ble_eq_true rfl) (fun l b D cy p e s m below meth c C hE hn => j_X0_runOnce C hE t_v0 t_v1 t_v3 t_v4 h)
theorem hd_X0_runOnce : yX0_runOnce.cls ≠ "java/lang/invoke/MethodHandle" ∧ yX0_runOnce.cls ≠ "java/lang/invoke/VarHandle" ∧ (parseMethodDescriptor yX0_runOnce.desc).map (fun d => d.parameters.length) = some 4 := by decide +kernel
def f_X0_takeBack (G : Gm) (v0 : Nat) (v1 : Nat) (v2 : Nat) (Q : St → Prop) (S : St) : Prop :=
  (∃ a1, S.2.2 v0 0 = some a1 ∧ f_X5_copyFrom G v1 a1 (fun S2 => (∃ a3, S2.2.2 v0 1 = some a3 ∧ f_X9_copyFrom G v2 a3 (fun S4 => Q S4) S2)) S)
abbrev rm_X0_takeBack : Room := { frames := 2, cells := 0, slots := 0, locals := 82 }
set_option maxHeartbeats 4000000 in
set_option maxRecDepth 100000 in
theorem j_X0_takeBack {p : Program} {l : Launch} {e : Env} {s : State} {m : MethodId} {args : Array Value} {below : List Frame} {meth : Method} {c : Code} {b : Nat} {D : va_G} {cy : Nat → ClassId} {G : Gm} {v0 : Nat} {v1 : Nat} {v2 : Nat} {S : St} {Q : St → Prop} (C : CX p s m args meth c b D cy cX0_takeBack RX0 3 none) (hE : s.heap.size + 0 ≤ b + G.2.2) (t_v0 : ok G 0 v0) (t_v1 : ok G 4 v1) (t_v2 : ok G 8 v2) (h : f_X0_takeBack G v0 v1 v2 Q S) : J p l e rm_X0_takeBack s m args below meth c b D cy 3 (zV b D cy below args s G Q) 0 0 G S 0 [(0, .ref (b + v0)), (1, .ref (b + v1)), (2, .ref (b + v2))] [] := by
  unfold f_X0_takeBack at h
  refine jB C [(.aload_n 1, 1, 0), (.aload_n 0, 1, 0)] 2 [(0, .ref (b + v0)), (1, .ref (b + v1)), (2, .ref (b + v2))] [.ref (b + v0), .ref (b + v1)] (by decide +kernel) rfl rfl ?_
  obtain ⟨a1, e_a1, h⟩ := h
  refine jGetR C 5 (by decide +kernel : decode cX0_takeBack 2 = .ok (.getfield 12, 3)) rfl t_v0 kX0 0 (by decide) rfl rfl (by decide) wd_155 e_a1 rfl (fun t_a1 => ?_)
  refine jcVN_V C 8 (rest := []) (ok_X5_copyFrom t_v1 t_a1 h) (by decide +kernel : decode cX0_takeBack 5 = .ok (.invokevirtual 50, 3)) rfl wn_780 wd_782 wp_63 wd_2 wd_783 ⟨rfl, rfl⟩ hd_X5_copyFrom ⟨Nat.le_of_ble_eq_true rfl, Nat.le_of_ble_eq_true rfl⟩ t_v1 kX5 (by decide) rfl rfl rfl (Nat.le_of_ble_eq_true rfl) ⟨Nat.zero_le _, Nat.zero_le _⟩ (fun S2 h => ?_)
  refine jB C [(.aload_n 2, 1, 0), (.aload_n 0, 1, 0)] 10 [(0, .ref (b + v0)), (1, .ref (b + v1)), (2, .ref (b + v2))] [.ref (b + v0), .ref (b + v2)] (by decide +kernel) rfl rfl ?_
  obtain ⟨a3, e_a3, h⟩ := h
  refine jGetR C 13 (by decide +kernel : decode cX0_takeBack 10 = .ok (.getfield 21, 3)) rfl t_v0 kX0 1 (by decide) rfl rfl (by decide) wd_156 e_a3 rfl (fun t_a3 => ?_)
  refine jcVN_V C 16 (rest := []) (ok_X9_copyFrom t_v2 t_a3 h) (by decide +kernel : decode cX0_takeBack 13 = .ok (.invokevirtual 54, 3)) rfl wn_785 wd_787 wp_64 wd_3 wd_788 ⟨rfl, rfl⟩ hd_X9_copyFrom ⟨Nat.le_of_ble_eq_true rfl, Nat.le_of_ble_eq_true rfl⟩ t_v2 kX9 (by decide) rfl rfl rfl (Nat.le_of_ble_eq_true rfl) ⟨Nat.zero_le _, Nat.zero_le _⟩ (fun S4 h => ?_)
  exact jRetV C (by decide +kernel : decode cX0_takeBack 16 = .ok (.return_, 1)) (Nat.le_refl _) (Nat.le_refl _) ⟨rfl, h⟩
theorem ok_X0_takeBack {G : Gm} {v0 : Nat} {v1 : Nat} {v2 : Nat} {S : St} {Q : St → Prop} (t_v0 : ok G 0 v0) (t_v1 : ok G 4 v1) (t_v2 : ok G 8 v2) (h : f_X0_takeBack G v0 v1 v2 Q S) : MT yX0_takeBack cX0_takeBack 3 none rm_X0_takeBack 0 0 (fun b => [.ref (b + v0), .ref (b + v1), .ref (b + v2)]) G S (QV (fun G1 S1 => G1 = G ∧ Q S1)) := MT.ofJ (by decide) (fun b => [(0, .ref (b + v0)), (1, .ref (b + v1)), (2, .ref (b + v2))]) (fun b => rfl) (fun b => Nat.le_of_ble_eq_true rfl) (fun l b D cy p e s m below meth c C hE hn => j_X0_takeBack C hE t_v0 t_v1 t_v2 h)
theorem hd_X0_takeBack : yX0_takeBack.cls ≠ "java/lang/invoke/MethodHandle" ∧ yX0_takeBack.cls ≠ "java/lang/invoke/VarHandle" ∧ (parseMethodDescriptor yX0_takeBack.desc).map (fun d => d.parameters.length) = some 2 := by decide +kernel
def f_X10_accept (G : Gm) (v0 : Nat) (v1 : Int32) (Q : Int32 → St → Prop) (S : St) : Prop :=
  (∀ S1, S1 = uI S v0 10 0 → Q v1 S1)
abbrev rm_X10_accept : Room := { frames := 0, cells := 0, slots := 0, locals := 0 }
set_option maxHeartbeats 4000000 in
set_option maxRecDepth 100000 in
theorem j_X10_accept {p : Program} {l : Launch} {e : Env} {s : State} {m : MethodId} {args : Array Value} {below : List Frame} {meth : Method} {c : Code} {b : Nat} {D : va_G} {cy : Nat → ClassId} {G : Gm} {v0 : Nat} {v1 : Int32} {S : St} {Q : Int32 → St → Prop} (C : CX p s m args meth c b D cy cX10_accept RX10 2 (some .int)) (hE : s.heap.size + 0 ≤ b + G.2.2) (t_v0 : ok G 9 v0) (h : f_X10_accept G v0 v1 Q S) : J p l e rm_X10_accept s m args below meth c b D cy 2 (zI b D cy below args s G Q) 0 0 G S 0 [(0, .ref (b + v0)), (1, .int v1)] [] := by
  unfold f_X10_accept at h
  refine jB C [(.aload_n 0, 1, 0), (.iconst 0, 1, 0)] 2 [(0, .ref (b + v0)), (1, .int v1)] [.int 0, .ref (b + v0)] (by decide +kernel) rfl rfl ?_
  refine jPutI C 5 (by decide +kernel : decode cX10_accept 2 = .ok (.putfield 311, 3)) rfl hE t_v0 kX10 10 (by decide) rfl rfl (by decide) rfl wd_321 rfl rfl rfl ?_
  refine jTopS (fun S1 e_S1 => ?_)
  have h := h S1 e_S1
  refine jB C [(.iload_n 1, 1, 0)] 6 [(0, .ref (b + v0)), (1, .int v1)] [.int v1] (by decide +kernel) rfl rfl ?_
  exact jRetI C (by decide +kernel : decode cX10_accept 6 = .ok (.ireturn, 1)) (Nat.le_refl _) (Nat.le_refl _) ⟨rfl, h⟩
theorem ok_X10_accept {G : Gm} {v0 : Nat} {v1 : Int32} {S : St} {Q : Int32 → St → Prop} (t_v0 : ok G 9 v0) (h : f_X10_accept G v0 v1 Q S) : MT yX10_accept cX10_accept 2 (some .int) rm_X10_accept 0 0 (fun b => [.ref (b + v0), .int v1]) G S (QI (fun r G1 S1 => G1 = G ∧ Q r S1)) := MT.ofJ (by decide) (fun b => [(0, .ref (b + v0)), (1, .int v1)]) (fun b => rfl) (fun b => Nat.le_of_ble_eq_true rfl) (fun l b D cy p e s m below meth c C hE hn => j_X10_accept C hE t_v0 h)
theorem hd_X10_accept : yX10_accept.cls ≠ "java/lang/invoke/MethodHandle" ∧ yX10_accept.cls ≠ "java/lang/invoke/VarHandle" ∧ (parseMethodDescriptor yX10_accept.desc).map (fun d => d.parameters.length) = some 1 := by decide +kernel
def f_X5_setWanted (G : Gm) (v0 : Nat) (v1 : Int32) (v2 : Int32) (Q : St → Prop) (S : St) : Prop :=
  f_X5_has G v0 v1 (fun r2 S1 => (if r2 = 0 then Q S1 else (∃ a4, S1.2.2 v0 3 = some a4 ∧ (vp_in v1 (G.2.1 a4) ∧ ∀ S6, S6 = uI S1 a4 v1.toNatClampNeg v2 → Q S6)))) S
abbrev rm_X5_setWanted : Room := { frames := 1, cells := 0, slots := 0, locals := 21 }
set_option maxHeartbeats 4000000 in
set_option maxRecDepth 100000 in
theorem j_X5_setWanted {p : Program} {l : Launch} {e : Env} {s : State} {m : MethodId} {args : Array Value} {below : List Frame} {meth : Method} {c : Code} {b : Nat} {D : va_G} {cy : Nat → ClassId} {G : Gm} {v0 : Nat} {v1 : Int32} {v2 : Int32} {S : St} {Q : St → Prop} (C : CX p s m args meth c b D cy cX5_setWanted RX5 3 none) (hE : s.heap.size + 0 ≤ b + G.2.2) (t_v0 : ok G 4 v0) (h : f_X5_setWanted G v0 v1 v2 Q S) : J p l e rm_X5_setWanted s m args below meth c b D cy 3 (zV b D cy below args s G Q) 0 0 G S 0 [(0, .ref (b + v0)), (1, .int v1), (2, .int v2)] [] := by
  unfold f_X5_setWanted at h
  refine jB C [(.aload_n 0, 1, 0), (.iload_n 1, 1, 0)] 2 [(0, .ref (b + v0)), (1, .int v1), (2, .int v2)] [.int v1, .ref (b + v0)] (by decide +kernel) rfl rfl ?_
  refine jcV_I C 5 (rest := []) (ok_X5_has t_v0 h) (by decide +kernel : decode cX5_setWanted 2 = .ok (.invokevirtual 66, 3)) rfl wd_371 wd_373 wp_4 wd_2 wd_374 ⟨rfl, rfl⟩ hd_X5_has ⟨Nat.le_of_ble_eq_true rfl, Nat.le_of_ble_eq_true rfl⟩ t_v0 kX5 (by decide) rfl rfl rfl (Nat.le_of_ble_eq_true rfl) ⟨Nat.zero_le _, Nat.zero_le _⟩ (fun r2 S1 h => ?_)
  refine jIf_eq C 8 15 (by decide +kernel : decode cX5_setWanted 5 = .ok (.ifCond .eq 10, 3)) rfl rfl (fun c3 => ?_) (fun c3 => ?_)
  · have h := it1 h c3
    exact jRetV C (by decide +kernel : decode cX5_setWanted 15 = .ok (.return_, 1)) (Nat.le_refl _) (Nat.le_refl _) ⟨rfl, h⟩
  · have h := it2 h c3
    refine jB C [(.aload_n 0, 1, 0)] 9 [(0, .ref (b + v0)), (1, .int v1), (2, .int v2)] [.ref (b + v0)] (by decide +kernel) rfl rfl ?_
    obtain ⟨a4, e_a4, h⟩ := h
    refine jGetR C 12 (by decide +kernel : decode cX5_setWanted 9 = .ok (.getfield 18, 3)) rfl t_v0 kX5 3 (by decide) rfl rfl (by decide) wd_44 e_a4 rfl (fun t_a4 => ?_)
    refine jB C [(.iload_n 1, 1, 0), (.iload_n 2, 1, 0)] 14 [(0, .ref (b + v0)), (1, .int v1), (2, .int v2)] [.int v2, .int v1, .ref (b + a4)] (by decide +kernel) rfl rfl ?_
    obtain ⟨y5, h⟩ := h
    refine jIast C 15 (by decide +kernel : decode cX5_setWanted 14 = .ok (.iastore, 1)) rfl hE t_a4 y5 ?_
    refine jTopS (fun S6 e_S6 => ?_)
    have h := h S6 e_S6
    exact jRetV C (by decide +kernel : decode cX5_setWanted 15 = .ok (.return_, 1)) (Nat.le_refl _) (Nat.le_refl _) ⟨rfl, h⟩
theorem ok_X5_setWanted {G : Gm} {v0 : Nat} {v1 : Int32} {v2 : Int32} {S : St} {Q : St → Prop} (t_v0 : ok G 4 v0) (h : f_X5_setWanted G v0 v1 v2 Q S) : MT yX5_setWanted cX5_setWanted 3 none rm_X5_setWanted 0 0 (fun b => [.ref (b + v0), .int v1, .int v2]) G S (QV (fun G1 S1 => G1 = G ∧ Q S1)) := MT.ofJ (by decide) (fun b => [(0, .ref (b + v0)), (1, .int v1), (2, .int v2)]) (fun b => rfl) (fun b => Nat.le_of_ble_eq_true rfl) (fun l b D cy p e s m below meth c C hE hn => j_X5_setWanted C hE t_v0 h)
theorem hd_X5_setWanted : yX5_setWanted.cls ≠ "java/lang/invoke/MethodHandle" ∧ yX5_setWanted.cls ≠ "java/lang/invoke/VarHandle" ∧ (parseMethodDescriptor yX5_setWanted.desc).map (fun d => d.parameters.length) = some 2 := by decide +kernel
def f_X5_addPerson_28_n (G : Gm) (v0 : Nat) (v1 : Int32) (Q : Int32 → St → Prop) : Nat → Int32 → St → Prop
  | 0, _, _ => False
  | n + 1, v2, S => (if 4 ≤ v2 then f_X5_setGlass G v0 v1 0 (fun S2 => f_X5_setWanted G v0 v1 0 (fun S3 => Q v1 S3) S2) S else f_X5_setSin G v0 v1 v2 0 (fun S4 => (f_X5_addPerson_28_n G v0 v1 Q n) (v2 + 1) S4) S)
def f_X5_addPerson_28 (G : Gm) (v0 : Nat) (v1 : Int32) (Q : Int32 → St → Prop) (v2 : Int32) (S : St) : Prop := ∃ n, f_X5_addPerson_28_n G v0 v1 Q n v2 S
def f_X5_addPerson (G : Gm) (v0 : Nat) (Q : Int32 → St → Prop) (S : St) : Prop :=
  (if (S.1 v0 0) < 6 then (∀ x2 : Int32, x2 = S.1 v0 0 → (∀ S3, S3 = uI S v0 0 ((S.1 v0 0) + 1) → f_X5_addPerson_28 G v0 x2 Q 0 S3)) else Q (-1) S)
abbrev rm_X5_addPerson : Room := { frames := 3, cells := 0, slots := 0, locals := 75 }
set_option maxHeartbeats 4000000 in
set_option maxRecDepth 100000 in
theorem j_X5_addPerson_28_n {p : Program} {l : Launch} {e : Env} {s : State} {m : MethodId} {args : Array Value} {below : List Frame} {meth : Method} {c : Code} {b : Nat} {D : va_G} {cy : Nat → ClassId} {G : Gm} {v0 : Nat} {v1 : Int32} {Q : Int32 → St → Prop} (C : CX p s m args meth c b D cy cX5_addPerson RX5 3 (some .int)) (hE : s.heap.size + 0 ≤ b + G.2.2) (t_v0 : ok G 4 v0) : ∀ n (v2 : Int32) S, f_X5_addPerson_28_n G v0 v1 Q n v2 S → J p l e rm_X5_addPerson s m args below meth c b D cy 3 (zI b D cy below args s G Q) 0 0 G S 28 [(0, .ref (b + v0)), (1, .int v1), (2, .int v2)] [] := by
  intro n
  induction n with
  | zero => intro v2 S h; exact h.elim
  | succ n ih =>
    intro v2 S h
    unfold f_X5_addPerson_28_n at h
    refine jB C [(.iload_n 2, 1, 0), (.iconst 4, 1, 4)] 30 [(0, .ref (b + v0)), (1, .int v1), (2, .int v2)] [.int 4, .int v2] (by decide +kernel) rfl rfl ?_
    refine jIcmp_ge C 33 46 (by decide +kernel : decode cX5_addPerson 30 = .ok (.if_icmp .ge 16, 3)) rfl rfl (fun c1 => ?_) (fun c1 => ?_)
    · have h := it1 h c1
      refine jB C [(.aload_n 0, 1, 0), (.iload_n 1, 1, 0), (.iconst 0, 1, 0)] 49 [(0, .ref (b + v0)), (1, .int v1), (2, .int v2)] [.int 0, .int v1, .ref (b + v0)] (by decide +kernel) rfl rfl ?_
      refine jcV_V C 52 (rest := []) (ok_X5_setGlass t_v0 h) (by decide +kernel : decode cX5_addPerson 49 = .ok (.invokevirtual 59, 3)) rfl wd_379 wd_381 wp_5 wd_2 wd_382 ⟨rfl, rfl⟩ hd_X5_setGlass ⟨Nat.le_of_ble_eq_true rfl, Nat.le_of_ble_eq_true rfl⟩ t_v0 kX5 (by decide) rfl rfl rfl (Nat.le_of_ble_eq_true rfl) ⟨Nat.zero_le _, Nat.zero_le _⟩ (fun S2 h => ?_)
      refine jB C [(.aload_n 0, 1, 0), (.iload_n 1, 1, 0), (.iconst 0, 1, 0)] 55 [(0, .ref (b + v0)), (1, .int v1), (2, .int v2)] [.int 0, .int v1, .ref (b + v0)] (by decide +kernel) rfl rfl ?_
      refine jcV_V C 58 (rest := []) (ok_X5_setWanted t_v0 h) (by decide +kernel : decode cX5_addPerson 55 = .ok (.invokevirtual 63, 3)) rfl wd_383 wd_385 wp_6 wd_2 wd_386 ⟨rfl, rfl⟩ hd_X5_setWanted ⟨Nat.le_of_ble_eq_true rfl, Nat.le_of_ble_eq_true rfl⟩ t_v0 kX5 (by decide) rfl rfl rfl (Nat.le_of_ble_eq_true rfl) ⟨Nat.zero_le _, Nat.zero_le _⟩ (fun S3 h => ?_)
      refine jB C [(.iload_n 1, 1, 0)] 59 [(0, .ref (b + v0)), (1, .int v1), (2, .int v2)] [.int v1] (by decide +kernel) rfl rfl ?_
      exact jRetI C (by decide +kernel : decode cX5_addPerson 59 = .ok (.ireturn, 1)) (Nat.le_refl _) (Nat.le_refl _) ⟨rfl, h⟩
    · have h := it2 h c1
      refine jB C [(.aload_n 0, 1, 0), (.iload_n 1, 1, 0), (.iload_n 2, 1, 0), (.iconst 0, 1, 0)] 37 [(0, .ref (b + v0)), (1, .int v1), (2, .int v2)] [.int 0, .int v2, .int v1, .ref (b + v0)] (by decide +kernel) rfl rfl ?_
      refine jcV_V C 40 (rest := []) (ok_X5_setSin t_v0 h) (by decide +kernel : decode cX5_addPerson 37 = .ok (.invokevirtual 55, 3)) rfl wd_367 wd_369 wp_3 wd_2 wd_370 ⟨rfl, rfl⟩ hd_X5_setSin ⟨Nat.le_of_ble_eq_true rfl, Nat.le_of_ble_eq_true rfl⟩ t_v0 kX5 (by decide) rfl rfl rfl (Nat.le_of_ble_eq_true rfl) ⟨Nat.zero_le _, Nat.zero_le _⟩ (fun S4 h => ?_)
      refine jB C [(.iinc 2 1, 3, 1)] 43 [(2, .int (v2 + 1)), (0, .ref (b + v0)), (1, .int v1)] [] (by decide +kernel) rfl rfl ?_
      refine jGoto C 28 (by decide +kernel : decode cX5_addPerson 43 = .ok (.goto (-15), 3)) rfl ?_
      refine jSub [1, 2, 0] rfl ?_
      exact ih (v2 + 1) S4 h
theorem j_X5_addPerson_28 {p : Program} {l : Launch} {e : Env} {s : State} {m : MethodId} {args : Array Value} {below : List Frame} {meth : Method} {c : Code} {b : Nat} {D : va_G} {cy : Nat → ClassId} {G : Gm} {v0 : Nat} {v1 : Int32} {v2 : Int32} {S : St} {Q : Int32 → St → Prop} (C : CX p s m args meth c b D cy cX5_addPerson RX5 3 (some .int)) (hE : s.heap.size + 0 ≤ b + G.2.2) (t_v0 : ok G 4 v0) (h : f_X5_addPerson_28 G v0 v1 Q v2 S) : J p l e rm_X5_addPerson s m args below meth c b D cy 3 (zI b D cy below args s G Q) 0 0 G S 28 [(0, .ref (b + v0)), (1, .int v1), (2, .int v2)] [] := by
  obtain ⟨n, h⟩ := h
  exact j_X5_addPerson_28_n C hE t_v0 n v2 S h
set_option maxHeartbeats 4000000 in
set_option maxRecDepth 100000 in
theorem j_X5_addPerson {p : Program} {l : Launch} {e : Env} {s : State} {m : MethodId} {args : Array Value} {below : List Frame} {meth : Method} {c : Code} {b : Nat} {D : va_G} {cy : Nat → ClassId} {G : Gm} {v0 : Nat} {S : St} {Q : Int32 → St → Prop} (C : CX p s m args meth c b D cy cX5_addPerson RX5 3 (some .int)) (hE : s.heap.size + 0 ≤ b + G.2.2) (t_v0 : ok G 4 v0) (h : f_X5_addPerson G v0 Q S) : J p l e rm_X5_addPerson s m args below meth c b D cy 3 (zI b D cy below args s G Q) 0 0 G S 0 [(0, .ref (b + v0))] [] := by
  unfold f_X5_addPerson at h
  refine jB C [(.aload_n 0, 1, 0)] 1 [(0, .ref (b + v0))] [.ref (b + v0)] (by decide +kernel) rfl rfl ?_
  refine jGetI C 4 (by decide +kernel : decode cX5_addPerson 1 = .ok (.getfield 40, 3)) rfl t_v0 kX5 0 (by decide) rfl rfl (by decide) wd_36 ?_
  refine jB C [(.bipush 6, 2, 6)] 6 [(0, .ref (b + v0))] [.int 6, .int (S.1 v0 0)] (by decide +kernel) rfl rfl ?_
  refine jIcmp_lt C 9 11 (by decide +kernel : decode cX5_addPerson 6 = .ok (.if_icmp .lt 5, 3)) rfl rfl (fun c1 => ?_) (fun c1 => ?_)
  · have h := it1 h c1
    refine jB C [(.aload_n 0, 1, 0)] 12 [(0, .ref (b + v0))] [.ref (b + v0)] (by decide +kernel) rfl rfl ?_
    refine jGetI C 15 (by decide +kernel : decode cX5_addPerson 12 = .ok (.getfield 40, 3)) rfl t_v0 kX5 0 (by decide) rfl rfl (by decide) wd_36 ?_
    refine jTopI (fun x2 e_x2 => ?_)
    have h := h x2 e_x2
    refine jB C [(.istore_n 1, 1, 0), (.aload_n 0, 1, 0), (.dup, 1, 0)] 18 [(1, .int x2), (0, .ref (b + v0))] [.ref (b + v0), .ref (b + v0)] (by decide +kernel) rfl rfl ?_
    refine jGetI C 21 (by decide +kernel : decode cX5_addPerson 18 = .ok (.getfield 40, 3)) rfl t_v0 kX5 0 (by decide) rfl rfl (by decide) wd_36 ?_
    refine jB C [(.iconst 1, 1, 1), (.iadd, 1, 0)] 23 [(1, .int x2), (0, .ref (b + v0))] [.int ((S.1 v0 0) + 1), .ref (b + v0)] (by decide +kernel) rfl rfl ?_
    refine jPutI C 26 (by decide +kernel : decode cX5_addPerson 23 = .ok (.putfield 40, 3)) rfl hE t_v0 kX5 0 (by decide) rfl rfl (by decide) rfl wd_36 rfl rfl rfl ?_
    refine jTopS (fun S3 e_S3 => ?_)
    have h := h S3 e_S3
    refine jB C [(.iconst 0, 1, 0), (.istore_n 2, 1, 0)] 28 [(2, .int 0), (1, .int x2), (0, .ref (b + v0))] [] (by decide +kernel) rfl rfl ?_
    refine jSub [2, 1, 0] rfl ?_
    exact j_X5_addPerson_28 C hE t_v0 h
  · have h := it2 h c1
    refine jB C [(.iconst (-1), 1, (-1))] 10 [(0, .ref (b + v0))] [.int (-1)] (by decide +kernel) rfl rfl ?_
    exact jRetI C (by decide +kernel : decode cX5_addPerson 10 = .ok (.ireturn, 1)) (Nat.le_refl _) (Nat.le_refl _) ⟨rfl, h⟩
theorem ok_X5_addPerson {G : Gm} {v0 : Nat} {S : St} {Q : Int32 → St → Prop} (t_v0 : ok G 4 v0) (h : f_X5_addPerson G v0 Q S) : MT yX5_addPerson cX5_addPerson 3 (some .int) rm_X5_addPerson 0 0 (fun b => [.ref (b + v0)]) G S (QI (fun r G1 S1 => G1 = G ∧ Q r S1)) := MT.ofJ (by decide) (fun b => [(0, .ref (b + v0))]) (fun b => rfl) (fun b => Nat.le_of_ble_eq_true rfl) (fun l b D cy p e s m below meth c C hE hn => j_X5_addPerson C hE t_v0 h)
theorem hd_X5_addPerson : yX5_addPerson.cls ≠ "java/lang/invoke/MethodHandle" ∧ yX5_addPerson.cls ≠ "java/lang/invoke/VarHandle" ∧ (parseMethodDescriptor yX5_addPerson.desc).map (fun d => d.parameters.length) = some 0 := by decide +kernel
def f_X6_byteAt (G : Gm) (v0 : Nat) (v1 : Int32) (Q : Int32 → St → Prop) (S : St) : Prop :=
  (if v1 < 0 then Q (-1) S else (if (S.1 v0 1) ≤ v1 then Q (-1) S else (if 400 ≤ v1 then Q (-1) S else (∃ a4, S.2.2 v0 0 = some a4 ∧ (vp_in v1 (G.2.1 a4) ∧ Q (S.1 a4 v1.toNatClampNeg) S)))))
abbrev rm_X6_byteAt : Room := { frames := 0, cells := 0, slots := 0, locals := 0 }
set_option maxHeartbeats 4000000 in
set_option maxRecDepth 100000 in
theorem j_X6_byteAt {p : Program} {l : Launch} {e : Env} {s : State} {m : MethodId} {args : Array Value} {below : List Frame} {meth : Method} {c : Code} {b : Nat} {D : va_G} {cy : Nat → ClassId} {G : Gm} {v0 : Nat} {v1 : Int32} {S : St} {Q : Int32 → St → Prop} (C : CX p s m args meth c b D cy cX6_byteAt RX6 2 (some .int)) (hE : s.heap.size + 0 ≤ b + G.2.2) (t_v0 : ok G 5 v0) (h : f_X6_byteAt G v0 v1 Q S) : J p l e rm_X6_byteAt s m args below meth c b D cy 2 (zI b D cy below args s G Q) 0 0 G S 0 [(0, .ref (b + v0)), (1, .int v1)] [] := by
  unfold f_X6_byteAt at h
  refine jB C [(.iload_n 1, 1, 0)] 1 [(0, .ref (b + v0)), (1, .int v1)] [.int v1] (by decide +kernel) rfl rfl ?_
  refine jIf_lt C 4 28 (by decide +kernel : decode cX6_byteAt 1 = .ok (.ifCond .lt 27, 3)) rfl rfl (fun c1 => ?_) (fun c1 => ?_)
  · have h := it1 h c1
    refine jB C [(.iconst (-1), 1, (-1))] 29 [(0, .ref (b + v0)), (1, .int v1)] [.int (-1)] (by decide +kernel) rfl rfl ?_
    exact jRetI C (by decide +kernel : decode cX6_byteAt 29 = .ok (.ireturn, 1)) (Nat.le_refl _) (Nat.le_refl _) ⟨rfl, h⟩
  · have h := it2 h c1
    refine jB C [(.iload_n 1, 1, 0), (.aload_n 0, 1, 0)] 6 [(0, .ref (b + v0)), (1, .int v1)] [.ref (b + v0), .int v1] (by decide +kernel) rfl rfl ?_
    refine jGetI C 9 (by decide +kernel : decode cX6_byteAt 6 = .ok (.getfield 37, 3)) rfl t_v0 kX6 1 (by decide) rfl rfl (by decide) wd_275 ?_
    refine jIcmp_ge C 12 28 (by decide +kernel : decode cX6_byteAt 9 = .ok (.if_icmp .ge 19, 3)) rfl rfl (fun c2 => ?_) (fun c2 => ?_)
    · have h := it1 h c2
      refine jB C [(.iconst (-1), 1, (-1))] 29 [(0, .ref (b + v0)), (1, .int v1)] [.int (-1)] (by decide +kernel) rfl rfl ?_
      exact jRetI C (by decide +kernel : decode cX6_byteAt 29 = .ok (.ireturn, 1)) (Nat.le_refl _) (Nat.le_refl _) ⟨rfl, h⟩
    · have h := it2 h c2
      refine jB C [(.iload_n 1, 1, 0), (.sipush 400, 3, 400)] 16 [(0, .ref (b + v0)), (1, .int v1)] [.int 400, .int v1] (by decide +kernel) rfl rfl ?_
      refine jIcmp_ge C 19 28 (by decide +kernel : decode cX6_byteAt 16 = .ok (.if_icmp .ge 12, 3)) rfl rfl (fun c3 => ?_) (fun c3 => ?_)
      · have h := it1 h c3
        refine jB C [(.iconst (-1), 1, (-1))] 29 [(0, .ref (b + v0)), (1, .int v1)] [.int (-1)] (by decide +kernel) rfl rfl ?_
        exact jRetI C (by decide +kernel : decode cX6_byteAt 29 = .ok (.ireturn, 1)) (Nat.le_refl _) (Nat.le_refl _) ⟨rfl, h⟩
      · have h := it2 h c3
        refine jB C [(.aload_n 0, 1, 0)] 20 [(0, .ref (b + v0)), (1, .int v1)] [.ref (b + v0)] (by decide +kernel) rfl rfl ?_
        obtain ⟨a4, e_a4, h⟩ := h
        refine jGetR C 23 (by decide +kernel : decode cX6_byteAt 20 = .ok (.getfield 9, 3)) rfl t_v0 kX6 0 (by decide) rfl rfl (by decide) wd_274 e_a4 rfl (fun t_a4 => ?_)
        refine jB C [(.iload_n 1, 1, 0)] 24 [(0, .ref (b + v0)), (1, .int v1)] [.int v1, .ref (b + a4)] (by decide +kernel) rfl rfl ?_
        obtain ⟨y5, h⟩ := h
        refine jIald C 25 (by decide +kernel : decode cX6_byteAt 24 = .ok (.iaload, 1)) rfl t_a4 y5 ?_
        refine jGoto C 29 (by decide +kernel : decode cX6_byteAt 25 = .ok (.goto 4, 3)) rfl ?_
        exact jRetI C (by decide +kernel : decode cX6_byteAt 29 = .ok (.ireturn, 1)) (Nat.le_refl _) (Nat.le_refl _) ⟨rfl, h⟩
theorem ok_X6_byteAt {G : Gm} {v0 : Nat} {v1 : Int32} {S : St} {Q : Int32 → St → Prop} (t_v0 : ok G 5 v0) (h : f_X6_byteAt G v0 v1 Q S) : MT yX6_byteAt cX6_byteAt 2 (some .int) rm_X6_byteAt 0 0 (fun b => [.ref (b + v0), .int v1]) G S (QI (fun r G1 S1 => G1 = G ∧ Q r S1)) := MT.ofJ (by decide) (fun b => [(0, .ref (b + v0)), (1, .int v1)]) (fun b => rfl) (fun b => Nat.le_of_ble_eq_true rfl) (fun l b D cy p e s m below meth c C hE hn => j_X6_byteAt C hE t_v0 h)
theorem hd_X6_byteAt : yX6_byteAt.cls ≠ "java/lang/invoke/MethodHandle" ∧ yX6_byteAt.cls ≠ "java/lang/invoke/VarHandle" ∧ (parseMethodDescriptor yX6_byteAt.desc).map (fun d => d.parameters.length) = some 1 := by decide +kernel
def f_X10_addSinner_10_n (G : Gm) (v0 : Nat) (v1 : Int32) (v2 : Int32) (Q : St → Prop) : Nat → Int32 → St → Prop
  | 0, _, _ => False
  | n + 1, v3, S => (if 4 ≤ v3 then Q S else (∃ a2, S.2.2 v0 0 = some a2 ∧ (∃ a3, S.2.2 v0 8 = some a3 ∧ f_X6_byteAt G a3 (v1 + v3) (fun r5 S4 => f_X5_setSin G a2 v2 v3 r5 (fun S6 => (f_X10_addSinner_10_n G v0 v1 v2 Q n) (v3 + 1) S6) S4) S)))
def f_X10_addSinner_10 (G : Gm) (v0 : Nat) (v1 : Int32) (v2 : Int32) (Q : St → Prop) (v3 : Int32) (S : St) : Prop := ∃ n, f_X10_addSinner_10_n G v0 v1 v2 Q n v3 S
def f_X10_addSinner (G : Gm) (v0 : Nat) (v1 : Int32) (Q : St → Prop) (S : St) : Prop :=
  (∃ a1, S.2.2 v0 0 = some a1 ∧ f_X5_addPerson G a1 (fun r3 S2 => f_X10_addSinner_10 G v0 v1 r3 Q 0 S2) S)
abbrev rm_X10_addSinner : Room := { frames := 4, cells := 0, slots := 0, locals := 97 }
set_option maxHeartbeats 4000000 in
set_option maxRecDepth 100000 in
theorem j_X10_addSinner_10_n {p : Program} {l : Launch} {e : Env} {s : State} {m : MethodId} {args : Array Value} {below : List Frame} {meth : Method} {c : Code} {b : Nat} {D : va_G} {cy : Nat → ClassId} {G : Gm} {v0 : Nat} {v1 : Int32} {v2 : Int32} {Q : St → Prop} (C : CX p s m args meth c b D cy cX10_addSinner RX10 4 none) (hE : s.heap.size + 0 ≤ b + G.2.2) (t_v0 : ok G 9 v0) : ∀ n (v3 : Int32) S, f_X10_addSinner_10_n G v0 v1 v2 Q n v3 S → J p l e rm_X10_addSinner s m args below meth c b D cy 4 (zV b D cy below args s G Q) 0 0 G S 10 [(0, .ref (b + v0)), (1, .int v1), (2, .int v2), (3, .int v3)] [] := by
  intro n
  induction n with
  | zero => intro v3 S h; exact h.elim
  | succ n ih =>
    intro v3 S h
    unfold f_X10_addSinner_10_n at h
    refine jB C [(.iload_n 3, 1, 0), (.iconst 4, 1, 4)] 12 [(0, .ref (b + v0)), (1, .int v1), (2, .int v2), (3, .int v3)] [.int 4, .int v3] (by decide +kernel) rfl rfl ?_
    refine jIcmp_ge C 15 40 (by decide +kernel : decode cX10_addSinner 12 = .ok (.if_icmp .ge 28, 3)) rfl rfl (fun c1 => ?_) (fun c1 => ?_)
    · have h := it1 h c1
      exact jRetV C (by decide +kernel : decode cX10_addSinner 40 = .ok (.return_, 1)) (Nat.le_refl _) (Nat.le_refl _) ⟨rfl, h⟩
    · have h := it2 h c1
      refine jB C [(.aload_n 0, 1, 0)] 16 [(0, .ref (b + v0)), (1, .int v1), (2, .int v2), (3, .int v3)] [.ref (b + v0)] (by decide +kernel) rfl rfl ?_
      obtain ⟨a2, e_a2, h⟩ := h
      refine jGetR C 19 (by decide +kernel : decode cX10_addSinner 16 = .ok (.getfield 14, 3)) rfl t_v0 kX10 0 (by decide) rfl rfl (by decide) wd_311 e_a2 rfl (fun t_a2 => ?_)
      refine jB C [(.iload_n 2, 1, 0), (.iload_n 3, 1, 0), (.aload_n 0, 1, 0)] 22 [(0, .ref (b + v0)), (1, .int v1), (2, .int v2), (3, .int v3)] [.ref (b + v0), .int v3, .int v2, .ref (b + a2)] (by decide +kernel) rfl rfl ?_
      obtain ⟨a3, e_a3, h⟩ := h
      refine jGetR C 25 (by decide +kernel : decode cX10_addSinner 22 = .ok (.getfield 63, 3)) rfl t_v0 kX10 8 (by decide) rfl rfl (by decide) wd_319 e_a3 rfl (fun t_a3 => ?_)
      refine jB C [(.iload_n 1, 1, 0), (.iload_n 3, 1, 0), (.iadd, 1, 0)] 28 [(0, .ref (b + v0)), (1, .int v1), (2, .int v2), (3, .int v3)] [.int (v1 + v3), .ref (b + a3), .int v3, .int v2, .ref (b + a2)] (by decide +kernel) rfl rfl ?_
      refine jcVN_I C 31 (rest := [.int v3, .int v2, .ref (b + a2)]) (ok_X6_byteAt t_a3 h) (by decide +kernel : decode cX10_addSinner 28 = .ok (.invokevirtual 183, 3)) rfl wn_577 wd_571 wp_31 wd_9 wd_572 ⟨rfl, rfl⟩ hd_X6_byteAt ⟨Nat.le_of_ble_eq_true rfl, Nat.le_of_ble_eq_true rfl⟩ t_a3 kX6 (by decide) rfl rfl rfl (Nat.le_of_ble_eq_true rfl) ⟨Nat.zero_le _, Nat.zero_le _⟩ (fun r5 S4 h => ?_)
      refine jcVN_V C 34 (rest := []) (ok_X5_setSin t_a2 h) (by decide +kernel : decode cX10_addSinner 31 = .ok (.invokevirtual 186, 3)) rfl wn_578 wd_369 wp_3 wd_2 wd_370 ⟨rfl, rfl⟩ hd_X5_setSin ⟨Nat.le_of_ble_eq_true rfl, Nat.le_of_ble_eq_true rfl⟩ t_a2 kX5 (by decide) rfl rfl rfl (Nat.le_of_ble_eq_true rfl) ⟨Nat.zero_le _, Nat.zero_le _⟩ (fun S6 h => ?_)
      refine jB C [(.iinc 3 1, 3, 1)] 37 [(3, .int (v3 + 1)), (0, .ref (b + v0)), (1, .int v1), (2, .int v2)] [] (by decide +kernel) rfl rfl ?_
      refine jGoto C 10 (by decide +kernel : decode cX10_addSinner 37 = .ok (.goto (-27), 3)) rfl ?_
      refine jSub [1, 2, 3, 0] rfl ?_
      exact ih (v3 + 1) S6 h
theorem j_X10_addSinner_10 {p : Program} {l : Launch} {e : Env} {s : State} {m : MethodId} {args : Array Value} {below : List Frame} {meth : Method} {c : Code} {b : Nat} {D : va_G} {cy : Nat → ClassId} {G : Gm} {v0 : Nat} {v1 : Int32} {v2 : Int32} {v3 : Int32} {S : St} {Q : St → Prop} (C : CX p s m args meth c b D cy cX10_addSinner RX10 4 none) (hE : s.heap.size + 0 ≤ b + G.2.2) (t_v0 : ok G 9 v0) (h : f_X10_addSinner_10 G v0 v1 v2 Q v3 S) : J p l e rm_X10_addSinner s m args below meth c b D cy 4 (zV b D cy below args s G Q) 0 0 G S 10 [(0, .ref (b + v0)), (1, .int v1), (2, .int v2), (3, .int v3)] [] := by
  obtain ⟨n, h⟩ := h
  exact j_X10_addSinner_10_n C hE t_v0 n v3 S h
set_option maxHeartbeats 4000000 in
set_option maxRecDepth 100000 in
theorem j_X10_addSinner {p : Program} {l : Launch} {e : Env} {s : State} {m : MethodId} {args : Array Value} {below : List Frame} {meth : Method} {c : Code} {b : Nat} {D : va_G} {cy : Nat → ClassId} {G : Gm} {v0 : Nat} {v1 : Int32} {S : St} {Q : St → Prop} (C : CX p s m args meth c b D cy cX10_addSinner RX10 4 none) (hE : s.heap.size + 0 ≤ b + G.2.2) (t_v0 : ok G 9 v0) (h : f_X10_addSinner G v0 v1 Q S) : J p l e rm_X10_addSinner s m args below meth c b D cy 4 (zV b D cy below args s G Q) 0 0 G S 0 [(0, .ref (b + v0)), (1, .int v1)] [] := by
  unfold f_X10_addSinner at h
  refine jB C [(.aload_n 0, 1, 0)] 1 [(0, .ref (b + v0)), (1, .int v1)] [.ref (b + v0)] (by decide +kernel) rfl rfl ?_
  obtain ⟨a1, e_a1, h⟩ := h
  refine jGetR C 4 (by decide +kernel : decode cX10_addSinner 1 = .ok (.getfield 14, 3)) rfl t_v0 kX10 0 (by decide) rfl rfl (by decide) wd_311 e_a1 rfl (fun t_a1 => ?_)
  refine jcVN_I C 7 (rest := []) (ok_X5_addPerson t_a1 h) (by decide +kernel : decode cX10_addSinner 4 = .ok (.invokevirtual 85, 3)) rfl wn_363 wd_365 wp_2 wd_2 wd_366 ⟨rfl, rfl⟩ hd_X5_addPerson ⟨Nat.le_of_ble_eq_true rfl, Nat.le_of_ble_eq_true rfl⟩ t_a1 kX5 (by decide) rfl rfl rfl (Nat.le_of_ble_eq_true rfl) ⟨Nat.zero_le _, Nat.zero_le _⟩ (fun r3 S2 h => ?_)
  refine jB C [(.istore_n 2, 1, 0), (.iconst 0, 1, 0), (.istore_n 3, 1, 0)] 10 [(3, .int 0), (2, .int r3), (0, .ref (b + v0)), (1, .int v1)] [] (by decide +kernel) rfl rfl ?_
  refine jSub [2, 3, 1, 0] rfl ?_
  exact j_X10_addSinner_10 C hE t_v0 h
theorem ok_X10_addSinner {G : Gm} {v0 : Nat} {v1 : Int32} {S : St} {Q : St → Prop} (t_v0 : ok G 9 v0) (h : f_X10_addSinner G v0 v1 Q S) : MT yX10_addSinner cX10_addSinner 4 none rm_X10_addSinner 0 0 (fun b => [.ref (b + v0), .int v1]) G S (QV (fun G1 S1 => G1 = G ∧ Q S1)) := MT.ofJ (by decide) (fun b => [(0, .ref (b + v0)), (1, .int v1)]) (fun b => rfl) (fun b => Nat.le_of_ble_eq_true rfl) (fun l b D cy p e s m below meth c C hE hn => j_X10_addSinner C hE t_v0 h)
theorem hd_X10_addSinner : yX10_addSinner.cls ≠ "java/lang/invoke/MethodHandle" ∧ yX10_addSinner.cls ≠ "java/lang/invoke/VarHandle" ∧ (parseMethodDescriptor yX10_addSinner.desc).map (fun d => d.parameters.length) = some 1 := by decide +kernel
def f_X10_alike_27_n (G : Gm) (v0 : Nat) (v2 : Int32) (Q : Int32 → St → Prop) : Nat → Int32 → Int32 → St → Prop
  | 0, _, _, _ => False
  | n + 1, v3, v4, S => (∃ a1, S.2.2 v0 0 = some a1 ∧ (if (S.1 a1 0) ≤ v4 then Q v3 S else (∃ a3, S.2.2 v0 0 = some a3 ∧ f_X5_sightOf G a3 v4 (fun r5 S4 => (if r5 = v2 then (f_X10_alike_27_n G v0 v2 Q n) (v3 + 1) (v4 + 1) S4 else (f_X10_alike_27_n G v0 v2 Q n) v3 (v4 + 1) S4)) S)))
def f_X10_alike_27 (G : Gm) (v0 : Nat) (v2 : Int32) (Q : Int32 → St → Prop) (v3 : Int32) (v4 : Int32) (S : St) : Prop := ∃ n, f_X10_alike_27_n G v0 v2 Q n v3 v4 S
def f_X10_alike (G : Gm) (v0 : Nat) (v1 : Int32) (Q : Int32 → St → Prop) (S : St) : Prop :=
  (∃ a1, S.2.2 v0 0 = some a1 ∧ f_X5_has G a1 v1 (fun r3 S2 => (if r3 = 0 then Q (-1) S2 else (∃ a5, S2.2.2 v0 0 = some a5 ∧ f_X5_sightOf G a5 v1 (fun r7 S6 => f_X10_alike_27 G v0 r7 Q 0 0 S6) S2))) S)
abbrev rm_X10_alike : Room := { frames := 3, cells := 0, slots := 0, locals := 68 }
set_option maxHeartbeats 4000000 in
set_option maxRecDepth 100000 in
theorem j_X10_alike_27_n {p : Program} {l : Launch} {e : Env} {s : State} {m : MethodId} {args : Array Value} {below : List Frame} {meth : Method} {c : Code} {b : Nat} {D : va_G} {cy : Nat → ClassId} {G : Gm} {v0 : Nat} {v2 : Int32} {Q : Int32 → St → Prop} (C : CX p s m args meth c b D cy cX10_alike RX10 5 (some .int)) (hE : s.heap.size + 0 ≤ b + G.2.2) (t_v0 : ok G 9 v0) : ∀ n (v3 : Int32) (v4 : Int32) S, f_X10_alike_27_n G v0 v2 Q n v3 v4 S → J p l e rm_X10_alike s m args below meth c b D cy 5 (zI b D cy below args s G Q) 0 0 G S 27 [(0, .ref (b + v0)), (2, .int v2), (3, .int v3), (4, .int v4)] [] := by
  intro n
  induction n with
  | zero => intro v3 v4 S h; exact h.elim
  | succ n ih =>
    intro v3 v4 S h
    unfold f_X10_alike_27_n at h
    refine jB C [(.iload 4, 2, 0), (.aload_n 0, 1, 0)] 30 [(0, .ref (b + v0)), (2, .int v2), (3, .int v3), (4, .int v4)] [.ref (b + v0), .int v4] (by decide +kernel) rfl rfl ?_
    obtain ⟨a1, e_a1, h⟩ := h
    refine jGetR C 33 (by decide +kernel : decode cX10_alike 30 = .ok (.getfield 14, 3)) rfl t_v0 kX10 0 (by decide) rfl rfl (by decide) wd_311 e_a1 rfl (fun t_a1 => ?_)
    refine jGetIN C 36 (by decide +kernel : decode cX10_alike 33 = .ok (.getfield 75, 3)) rfl t_a1 kX5 0 (by decide) rfl rfl (by decide) wn_37 ?_
    refine jIcmp_ge C 39 61 (by decide +kernel : decode cX10_alike 36 = .ok (.if_icmp .ge 25, 3)) rfl rfl (fun c2 => ?_) (fun c2 => ?_)
    · have h := it1 h c2
      refine jB C [(.iload_n 3, 1, 0)] 62 [(0, .ref (b + v0)), (2, .int v2), (3, .int v3), (4, .int v4)] [.int v3] (by decide +kernel) rfl rfl ?_
      exact jRetI C (by decide +kernel : decode cX10_alike 62 = .ok (.ireturn, 1)) (Nat.le_refl _) (Nat.le_refl _) ⟨rfl, h⟩
    · have h := it2 h c2
      refine jB C [(.aload_n 0, 1, 0)] 40 [(0, .ref (b + v0)), (2, .int v2), (3, .int v3), (4, .int v4)] [.ref (b + v0)] (by decide +kernel) rfl rfl ?_
      obtain ⟨a3, e_a3, h⟩ := h
      refine jGetR C 43 (by decide +kernel : decode cX10_alike 40 = .ok (.getfield 14, 3)) rfl t_v0 kX10 0 (by decide) rfl rfl (by decide) wd_311 e_a3 rfl (fun t_a3 => ?_)
      refine jB C [(.iload 4, 2, 0)] 45 [(0, .ref (b + v0)), (2, .int v2), (3, .int v3), (4, .int v4)] [.int v4, .ref (b + a3)] (by decide +kernel) rfl rfl ?_
      refine jcVN_I C 48 (rest := []) (ok_X5_sightOf t_a3 h) (by decide +kernel : decode cX10_alike 45 = .ok (.invokevirtual 111, 3)) rfl wn_411 wd_413 wp_10 wd_2 wd_414 ⟨rfl, rfl⟩ hd_X5_sightOf ⟨Nat.le_of_ble_eq_true rfl, Nat.le_of_ble_eq_true rfl⟩ t_a3 kX5 (by decide) rfl rfl rfl (Nat.le_of_ble_eq_true rfl) ⟨Nat.zero_le _, Nat.zero_le _⟩ (fun r5 S4 h => ?_)
      refine jB C [(.iload_n 2, 1, 0)] 49 [(0, .ref (b + v0)), (2, .int v2), (3, .int v3), (4, .int v4)] [.int v2, .int r5] (by decide +kernel) rfl rfl ?_
      refine jIcmp_ne C 52 55 (by decide +kernel : decode cX10_alike 49 = .ok (.if_icmp .ne 6, 3)) rfl rfl (fun c6 => ?_) (fun c6 => ?_)
      · have h := it2 h c6
        refine jB C [(.iinc 4 1, 3, 1)] 58 [(4, .int (v4 + 1)), (0, .ref (b + v0)), (2, .int v2), (3, .int v3)] [] (by decide +kernel) rfl rfl ?_
        refine jGoto C 27 (by decide +kernel : decode cX10_alike 58 = .ok (.goto (-31), 3)) rfl ?_
        refine jSub [1, 2, 3, 0] rfl ?_
        exact ih v3 (v4 + 1) S4 h
      · have h := it1 h c6
        refine jB C [(.iinc 3 1, 3, 1), (.iinc 4 1, 3, 1)] 58 [(4, .int (v4 + 1)), (3, .int (v3 + 1)), (0, .ref (b + v0)), (2, .int v2)] [] (by decide +kernel) rfl rfl ?_
        refine jGoto C 27 (by decide +kernel : decode cX10_alike 58 = .ok (.goto (-31), 3)) rfl ?_
        refine jSub [2, 3, 1, 0] rfl ?_
        exact ih (v3 + 1) (v4 + 1) S4 h
theorem j_X10_alike_27 {p : Program} {l : Launch} {e : Env} {s : State} {m : MethodId} {args : Array Value} {below : List Frame} {meth : Method} {c : Code} {b : Nat} {D : va_G} {cy : Nat → ClassId} {G : Gm} {v0 : Nat} {v2 : Int32} {v3 : Int32} {v4 : Int32} {S : St} {Q : Int32 → St → Prop} (C : CX p s m args meth c b D cy cX10_alike RX10 5 (some .int)) (hE : s.heap.size + 0 ≤ b + G.2.2) (t_v0 : ok G 9 v0) (h : f_X10_alike_27 G v0 v2 Q v3 v4 S) : J p l e rm_X10_alike s m args below meth c b D cy 5 (zI b D cy below args s G Q) 0 0 G S 27 [(0, .ref (b + v0)), (2, .int v2), (3, .int v3), (4, .int v4)] [] := by
  obtain ⟨n, h⟩ := h
  exact j_X10_alike_27_n C hE t_v0 n v3 v4 S h
set_option maxHeartbeats 4000000 in
set_option maxRecDepth 100000 in
theorem j_X10_alike {p : Program} {l : Launch} {e : Env} {s : State} {m : MethodId} {args : Array Value} {below : List Frame} {meth : Method} {c : Code} {b : Nat} {D : va_G} {cy : Nat → ClassId} {G : Gm} {v0 : Nat} {v1 : Int32} {S : St} {Q : Int32 → St → Prop} (C : CX p s m args meth c b D cy cX10_alike RX10 5 (some .int)) (hE : s.heap.size + 0 ≤ b + G.2.2) (t_v0 : ok G 9 v0) (h : f_X10_alike G v0 v1 Q S) : J p l e rm_X10_alike s m args below meth c b D cy 5 (zI b D cy below args s G Q) 0 0 G S 0 [(0, .ref (b + v0)), (1, .int v1)] [] := by
  unfold f_X10_alike at h
  refine jB C [(.aload_n 0, 1, 0)] 1 [(0, .ref (b + v0)), (1, .int v1)] [.ref (b + v0)] (by decide +kernel) rfl rfl ?_
  obtain ⟨a1, e_a1, h⟩ := h
  refine jGetR C 4 (by decide +kernel : decode cX10_alike 1 = .ok (.getfield 14, 3)) rfl t_v0 kX10 0 (by decide) rfl rfl (by decide) wd_311 e_a1 rfl (fun t_a1 => ?_)
  refine jB C [(.iload_n 1, 1, 0)] 5 [(0, .ref (b + v0)), (1, .int v1)] [.int v1, .ref (b + a1)] (by decide +kernel) rfl rfl ?_
  refine jcVN_I C 8 (rest := []) (ok_X5_has t_a1 h) (by decide +kernel : decode cX10_alike 5 = .ok (.invokevirtual 92, 3)) rfl wn_395 wd_373 wp_4 wd_2 wd_374 ⟨rfl, rfl⟩ hd_X5_has ⟨Nat.le_of_ble_eq_true rfl, Nat.le_of_ble_eq_true rfl⟩ t_a1 kX5 (by decide) rfl rfl rfl (Nat.le_of_ble_eq_true rfl) ⟨Nat.zero_le _, Nat.zero_le _⟩ (fun r3 S2 h => ?_)
  refine jIf_ne C 11 13 (by decide +kernel : decode cX10_alike 8 = .ok (.ifCond .ne 5, 3)) rfl rfl (fun c4 => ?_) (fun c4 => ?_)
  · have h := it2 h c4
    refine jB C [(.aload_n 0, 1, 0)] 14 [(0, .ref (b + v0)), (1, .int v1)] [.ref (b + v0)] (by decide +kernel) rfl rfl ?_
    obtain ⟨a5, e_a5, h⟩ := h
    refine jGetR C 17 (by decide +kernel : decode cX10_alike 14 = .ok (.getfield 14, 3)) rfl t_v0 kX10 0 (by decide) rfl rfl (by decide) wd_311 e_a5 rfl (fun t_a5 => ?_)
    refine jB C [(.iload_n 1, 1, 0)] 18 [(0, .ref (b + v0)), (1, .int v1)] [.int v1, .ref (b + a5)] (by decide +kernel) rfl rfl ?_
    refine jcVN_I C 21 (rest := []) (ok_X5_sightOf t_a5 h) (by decide +kernel : decode cX10_alike 18 = .ok (.invokevirtual 111, 3)) rfl wn_411 wd_413 wp_10 wd_2 wd_414 ⟨rfl, rfl⟩ hd_X5_sightOf ⟨Nat.le_of_ble_eq_true rfl, Nat.le_of_ble_eq_true rfl⟩ t_a5 kX5 (by decide) rfl rfl rfl (Nat.le_of_ble_eq_true rfl) ⟨Nat.zero_le _, Nat.zero_le _⟩ (fun r7 S6 h => ?_)
    refine jB C [(.istore_n 2, 1, 0), (.iconst 0, 1, 0), (.istore_n 3, 1, 0), (.iconst 0, 1, 0), (.istore 4, 2, 0)] 27 [(4, .int 0), (3, .int 0), (2, .int r7), (0, .ref (b + v0)), (1, .int v1)] [] (by decide +kernel) rfl rfl ?_
    refine jSub [3, 2, 1, 0] rfl ?_
    exact j_X10_alike_27 C hE t_v0 h
  · have h := it1 h c4
    refine jB C [(.iconst (-1), 1, (-1))] 12 [(0, .ref (b + v0)), (1, .int v1)] [.int (-1)] (by decide +kernel) rfl rfl ?_
    exact jRetI C (by decide +kernel : decode cX10_alike 12 = .ok (.ireturn, 1)) (Nat.le_refl _) (Nat.le_refl _) ⟨rfl, h⟩
theorem ok_X10_alike {G : Gm} {v0 : Nat} {v1 : Int32} {S : St} {Q : Int32 → St → Prop} (t_v0 : ok G 9 v0) (h : f_X10_alike G v0 v1 Q S) : MT yX10_alike cX10_alike 5 (some .int) rm_X10_alike 0 0 (fun b => [.ref (b + v0), .int v1]) G S (QI (fun r G1 S1 => G1 = G ∧ Q r S1)) := MT.ofJ (by decide) (fun b => [(0, .ref (b + v0)), (1, .int v1)]) (fun b => rfl) (fun b => Nat.le_of_ble_eq_true rfl) (fun l b D cy p e s m below meth c C hE hn => j_X10_alike C hE t_v0 h)
theorem hd_X10_alike : yX10_alike.cls ≠ "java/lang/invoke/MethodHandle" ∧ yX10_alike.cls ≠ "java/lang/invoke/VarHandle" ∧ (parseMethodDescriptor yX10_alike.desc).map (fun d => d.parameters.length) = some 1 := by decide +kernel
def f_X4_agrees_2_n (G : Gm) (v0 : Nat) (v1 : Int32) (Q : Int32 → St → Prop) : Nat → Int32 → St → Prop
  | 0, _, _ => False
  | n + 1, v2, S => (if (S.1 v0 5) ≤ v2 then Q 1 S else (if 8 ≤ v2 then Q 1 S else (∃ a3, S.2.2 v0 6 = some a3 ∧ (vp_in v2 (G.2.1 a3) ∧ f_X5_glassOf G v0 (S.1 a3 v2.toNatClampNeg) (fun r6 S5 => f_X3_through G r6 v1 (fun r8 S7 => (∃ a9, S7.2.2 v0 7 = some a9 ∧ (vp_in v2 (G.2.1 a9) ∧ (if r8 = (S7.1 a9 v2.toNatClampNeg) then (f_X4_agrees_2_n G v0 v1 Q n) (v2 + 1) S7 else Q 0 S7)))) S5) S))))
def f_X4_agrees_2 (G : Gm) (v0 : Nat) (v1 : Int32) (Q : Int32 → St → Prop) (v2 : Int32) (S : St) : Prop := ∃ n, f_X4_agrees_2_n G v0 v1 Q n v2 S
def f_X4_agrees (G : Gm) (v0 : Nat) (v1 : Int32) (Q : Int32 → St → Prop) (S : St) : Prop :=
  f_X4_agrees_2 G v0 v1 Q 0 S
abbrev rm_X4_agrees : Room := { frames := 2, cells := 0, slots := 0, locals := 47 }
set_option maxHeartbeats 4000000 in
set_option maxRecDepth 100000 in
theorem j_X4_agrees_2_n {p : Program} {l : Launch} {e : Env} {s : State} {m : MethodId} {args : Array Value} {below : List Frame} {meth : Method} {c : Code} {b : Nat} {D : va_G} {cy : Nat → ClassId} {G : Gm} {v0 : Nat} {v1 : Int32} {Q : Int32 → St → Prop} (C : CX p s m args meth c b D cy cX4_agrees RX4 4 (some .boolean)) (hE : s.heap.size + 0 ≤ b + G.2.2) (t_v0 : ok G 4 v0) : ∀ n (v2 : Int32) S, f_X4_agrees_2_n G v0 v1 Q n v2 S → J p l e rm_X4_agrees s m args below meth c b D cy 4 (zI b D cy below args s G Q) 0 0 G S 2 [(0, .ref (b + v0)), (1, .int v1), (2, .int v2)] [] := by
  intro n
  induction n with
  | zero => intro v2 S h; exact h.elim
  | succ n ih =>
    intro v2 S h
    unfold f_X4_agrees_2_n at h
    refine jB C [(.iload_n 2, 1, 0), (.aload_n 0, 1, 0)] 4 [(0, .ref (b + v0)), (1, .int v1), (2, .int v2)] [.ref (b + v0), .int v2] (by decide +kernel) rfl rfl ?_
    refine jGetIN C 7 (by decide +kernel : decode cX4_agrees 4 = .ok (.getfield 89, 3)) rfl t_v0 kX5 5 (by decide) rfl rfl (by decide) wn_47 ?_
    refine jIcmp_ge C 10 49 (by decide +kernel : decode cX4_agrees 7 = .ok (.if_icmp .ge 42, 3)) rfl rfl (fun c1 => ?_) (fun c1 => ?_)
    · have h := it1 h c1
      refine jB C [(.iconst 1, 1, 1)] 50 [(0, .ref (b + v0)), (1, .int v1), (2, .int v2)] [.int 1] (by decide +kernel) rfl rfl ?_
      exact jRetZ C (by decide +kernel : decode cX4_agrees 50 = .ok (.ireturn, 1)) (Nat.le_refl _) (Nat.le_refl _) (by decide) ⟨rfl, h⟩
    · have h := it2 h c1
      refine jB C [(.iload_n 2, 1, 0), (.bipush 8, 2, 8)] 13 [(0, .ref (b + v0)), (1, .int v1), (2, .int v2)] [.int 8, .int v2] (by decide +kernel) rfl rfl ?_
      refine jIcmp_ge C 16 49 (by decide +kernel : decode cX4_agrees 13 = .ok (.if_icmp .ge 36, 3)) rfl rfl (fun c2 => ?_) (fun c2 => ?_)
      · have h := it1 h c2
        refine jB C [(.iconst 1, 1, 1)] 50 [(0, .ref (b + v0)), (1, .int v1), (2, .int v2)] [.int 1] (by decide +kernel) rfl rfl ?_
        exact jRetZ C (by decide +kernel : decode cX4_agrees 50 = .ok (.ireturn, 1)) (Nat.le_refl _) (Nat.le_refl _) (by decide) ⟨rfl, h⟩
      · have h := it2 h c2
        refine jB C [(.aload_n 0, 1, 0), (.aload_n 0, 1, 0)] 18 [(0, .ref (b + v0)), (1, .int v1), (2, .int v2)] [.ref (b + v0), .ref (b + v0)] (by decide +kernel) rfl rfl ?_
        obtain ⟨a3, e_a3, h⟩ := h
        refine jGetRN C 21 (by decide +kernel : decode cX4_agrees 18 = .ok (.getfield 93, 3)) rfl t_v0 kX5 6 (by decide) rfl rfl (by decide) wn_50 e_a3 rfl (fun t_a3 => ?_)
        refine jB C [(.iload_n 2, 1, 0)] 22 [(0, .ref (b + v0)), (1, .int v1), (2, .int v2)] [.int v2, .ref (b + a3), .ref (b + v0)] (by decide +kernel) rfl rfl ?_
        obtain ⟨y4, h⟩ := h
        refine jIald C 23 (by decide +kernel : decode cX4_agrees 22 = .ok (.iaload, 1)) rfl t_a3 y4 ?_
        refine jcVN_I C 26 (rest := []) (ok_X5_glassOf t_v0 h) (by decide +kernel : decode cX4_agrees 23 = .ok (.invokevirtual 96, 3)) rfl wn_961 wd_402 wp_9 wd_2 wd_403 ⟨rfl, rfl⟩ hd_X5_glassOf ⟨Nat.le_of_ble_eq_true rfl, Nat.le_of_ble_eq_true rfl⟩ t_v0 kX5 (by decide) rfl rfl rfl (Nat.le_of_ble_eq_true rfl) ⟨Nat.zero_le _, Nat.zero_le _⟩ (fun r6 S5 h => ?_)
        refine jB C [(.istore_n 3, 1, 0), (.iload_n 3, 1, 0), (.iload_n 1, 1, 0)] 29 [(3, .int r6), (0, .ref (b + v0)), (1, .int v1), (2, .int v2)] [.int v1, .int r6] (by decide +kernel) rfl rfl ?_
        refine jcSN_I C 32 (rest := []) (ok_X3_through h) (by decide +kernel : decode cX4_agrees 29 = .ok (.invokestatic 99, 3)) rfl wn_962 wd_421 wd_13 wd_422 ⟨rfl, rfl⟩ hd_X3_through ⟨Nat.le_of_ble_eq_true rfl, Nat.le_of_ble_eq_true rfl⟩ rfl rfl (Nat.le_of_ble_eq_true rfl) ⟨Nat.zero_le _, Nat.zero_le _⟩ (fun r8 S7 h => ?_)
        refine jB C [(.aload_n 0, 1, 0)] 33 [(3, .int r6), (0, .ref (b + v0)), (1, .int v1), (2, .int v2)] [.ref (b + v0), .int r8] (by decide +kernel) rfl rfl ?_
        obtain ⟨a9, e_a9, h⟩ := h
        refine jGetRN C 36 (by decide +kernel : decode cX4_agrees 33 = .ok (.getfield 102, 3)) rfl t_v0 kX5 7 (by decide) rfl rfl (by decide) wn_52 e_a9 rfl (fun t_a9 => ?_)
        refine jB C [(.iload_n 2, 1, 0)] 37 [(3, .int r6), (0, .ref (b + v0)), (1, .int v1), (2, .int v2)] [.int v2, .ref (b + a9), .int r8] (by decide +kernel) rfl rfl ?_
        obtain ⟨y10, h⟩ := h
        refine jIald C 38 (by decide +kernel : decode cX4_agrees 37 = .ok (.iaload, 1)) rfl t_a9 y10 ?_
        refine jIcmp_eq C 41 43 (by decide +kernel : decode cX4_agrees 38 = .ok (.if_icmp .eq 5, 3)) rfl rfl (fun c11 => ?_) (fun c11 => ?_)
        · have h := it1 h c11
          refine jB C [(.iinc 2 1, 3, 1)] 46 [(2, .int (v2 + 1)), (3, .int r6), (0, .ref (b + v0)), (1, .int v1)] [] (by decide +kernel) rfl rfl ?_
          refine jGoto C 2 (by decide +kernel : decode cX4_agrees 46 = .ok (.goto (-44), 3)) rfl ?_
          refine jSub [2, 3, 0] rfl ?_
          exact ih (v2 + 1) S7 h
        · have h := it2 h c11
          refine jB C [(.iconst 0, 1, 0)] 42 [(3, .int r6), (0, .ref (b + v0)), (1, .int v1), (2, .int v2)] [.int 0] (by decide +kernel) rfl rfl ?_
          exact jRetZ C (by decide +kernel : decode cX4_agrees 42 = .ok (.ireturn, 1)) (Nat.le_refl _) (Nat.le_refl _) (by decide) ⟨rfl, h⟩
theorem j_X4_agrees_2 {p : Program} {l : Launch} {e : Env} {s : State} {m : MethodId} {args : Array Value} {below : List Frame} {meth : Method} {c : Code} {b : Nat} {D : va_G} {cy : Nat → ClassId} {G : Gm} {v0 : Nat} {v1 : Int32} {v2 : Int32} {S : St} {Q : Int32 → St → Prop} (C : CX p s m args meth c b D cy cX4_agrees RX4 4 (some .boolean)) (hE : s.heap.size + 0 ≤ b + G.2.2) (t_v0 : ok G 4 v0) (h : f_X4_agrees_2 G v0 v1 Q v2 S) : J p l e rm_X4_agrees s m args below meth c b D cy 4 (zI b D cy below args s G Q) 0 0 G S 2 [(0, .ref (b + v0)), (1, .int v1), (2, .int v2)] [] := by
  obtain ⟨n, h⟩ := h
  exact j_X4_agrees_2_n C hE t_v0 n v2 S h
set_option maxHeartbeats 4000000 in
set_option maxRecDepth 100000 in
theorem j_X4_agrees {p : Program} {l : Launch} {e : Env} {s : State} {m : MethodId} {args : Array Value} {below : List Frame} {meth : Method} {c : Code} {b : Nat} {D : va_G} {cy : Nat → ClassId} {G : Gm} {v0 : Nat} {v1 : Int32} {S : St} {Q : Int32 → St → Prop} (C : CX p s m args meth c b D cy cX4_agrees RX4 4 (some .boolean)) (hE : s.heap.size + 0 ≤ b + G.2.2) (t_v0 : ok G 4 v0) (h : f_X4_agrees G v0 v1 Q S) : J p l e rm_X4_agrees s m args below meth c b D cy 4 (zI b D cy below args s G Q) 0 0 G S 0 [(0, .ref (b + v0)), (1, .int v1)] [] := by
  unfold f_X4_agrees at h
  refine jB C [(.iconst 0, 1, 0), (.istore_n 2, 1, 0)] 2 [(2, .int 0), (0, .ref (b + v0)), (1, .int v1)] [] (by decide +kernel) rfl rfl ?_
  refine jSub [1, 2, 0] rfl ?_
  exact j_X4_agrees_2 C hE t_v0 h
theorem ok_X4_agrees {G : Gm} {v0 : Nat} {v1 : Int32} {S : St} {Q : Int32 → St → Prop} (t_v0 : ok G 4 v0) (h : f_X4_agrees G v0 v1 Q S) : MT yX4_agrees cX4_agrees 4 (some .boolean) rm_X4_agrees 0 0 (fun b => [.ref (b + v0), .int v1]) G S (QI (fun r G1 S1 => G1 = G ∧ Q r S1)) := MT.ofJ (by decide) (fun b => [(0, .ref (b + v0)), (1, .int v1)]) (fun b => rfl) (fun b => Nat.le_of_ble_eq_true rfl) (fun l b D cy p e s m below meth c C hE hn => j_X4_agrees C hE t_v0 h)
theorem hd_X4_agrees : yX4_agrees.cls ≠ "java/lang/invoke/MethodHandle" ∧ yX4_agrees.cls ≠ "java/lang/invoke/VarHandle" ∧ (parseMethodDescriptor yX4_agrees.desc).map (fun d => d.parameters.length) = some 2 := by decide +kernel
def f_X4_findScenes_4_n (G : Gm) (v0 : Nat) (v1 : Nat) (Q : Int32 → St → Prop) : Nat → Int32 → Int32 → St → Prop
  | 0, _, _, _ => False
  | n + 1, v2, v3, S => (if 256 ≤ v3 then Q v2 S else f_X4_agrees G v1 v3 (fun r3 S2 => (if r3 = 0 then (f_X4_findScenes_4_n G v0 v1 Q n) v2 (v3 + 1) S2 else (∃ a5, S2.2.2 v0 5 = some a5 ∧ (vp_in v2 (G.2.1 a5) ∧ ∀ S7, S7 = uI S2 a5 v2.toNatClampNeg v3 → (f_X4_findScenes_4_n G v0 v1 Q n) (v2 + 1) (v3 + 1) S7)))) S)
def f_X4_findScenes_4 (G : Gm) (v0 : Nat) (v1 : Nat) (Q : Int32 → St → Prop) (v2 : Int32) (v3 : Int32) (S : St) : Prop := ∃ n, f_X4_findScenes_4_n G v0 v1 Q n v2 v3 S
def f_X4_findScenes (G : Gm) (v0 : Nat) (v1 : Nat) (Q : Int32 → St → Prop) (S : St) : Prop :=
  f_X4_findScenes_4 G v0 v1 Q 0 0 S
abbrev rm_X4_findScenes : Room := { frames := 3, cells := 0, slots := 0, locals := 70 }
set_option maxHeartbeats 4000000 in
set_option maxRecDepth 100000 in
theorem j_X4_findScenes_4_n {p : Program} {l : Launch} {e : Env} {s : State} {m : MethodId} {args : Array Value} {below : List Frame} {meth : Method} {c : Code} {b : Nat} {D : va_G} {cy : Nat → ClassId} {G : Gm} {v0 : Nat} {v1 : Nat} {Q : Int32 → St → Prop} (C : CX p s m args meth c b D cy cX4_findScenes RX4 4 (some .int)) (hE : s.heap.size + 0 ≤ b + G.2.2) (t_v0 : ok G 3 v0) (t_v1 : ok G 4 v1) : ∀ n (v2 : Int32) (v3 : Int32) S, f_X4_findScenes_4_n G v0 v1 Q n v2 v3 S → J p l e rm_X4_findScenes s m args below meth c b D cy 4 (zI b D cy below args s G Q) 0 0 G S 4 [(0, .ref (b + v0)), (1, .ref (b + v1)), (2, .int v2), (3, .int v3)] [] := by
  intro n
  induction n with
  | zero => intro v2 v3 S h; exact h.elim
  | succ n ih =>
    intro v2 v3 S h
    unfold f_X4_findScenes_4_n at h
    refine jB C [(.iload_n 3, 1, 0), (.sipush 256, 3, 256)] 8 [(0, .ref (b + v0)), (1, .ref (b + v1)), (2, .int v2), (3, .int v3)] [.int 256, .int v3] (by decide +kernel) rfl rfl ?_
    refine jIcmp_ge C 11 35 (by decide +kernel : decode cX4_findScenes 8 = .ok (.if_icmp .ge 27, 3)) rfl rfl (fun c1 => ?_) (fun c1 => ?_)
    · have h := it1 h c1
      refine jB C [(.iload_n 2, 1, 0)] 36 [(0, .ref (b + v0)), (1, .ref (b + v1)), (2, .int v2), (3, .int v3)] [.int v2] (by decide +kernel) rfl rfl ?_
      exact jRetI C (by decide +kernel : decode cX4_findScenes 36 = .ok (.ireturn, 1)) (Nat.le_refl _) (Nat.le_refl _) ⟨rfl, h⟩
    · have h := it2 h c1
      refine jB C [(.aload_n 1, 1, 0), (.iload_n 3, 1, 0)] 13 [(0, .ref (b + v0)), (1, .ref (b + v1)), (2, .int v2), (3, .int v3)] [.int v3, .ref (b + v1)] (by decide +kernel) rfl rfl ?_
      refine jcS_I C 16 (rest := []) (ok_X4_agrees t_v1 h) (by decide +kernel : decode cX4_findScenes 13 = .ok (.invokestatic 85, 3)) rfl wd_958 wd_959 wd_8 wd_960 ⟨rfl, rfl⟩ hd_X4_agrees ⟨Nat.le_of_ble_eq_true rfl, Nat.le_of_ble_eq_true rfl⟩ rfl rfl (Nat.le_of_ble_eq_true rfl) ⟨Nat.zero_le _, Nat.zero_le _⟩ (fun r3 S2 h => ?_)
      refine jIf_eq C 19 29 (by decide +kernel : decode cX4_findScenes 16 = .ok (.ifCond .eq 13, 3)) rfl rfl (fun c4 => ?_) (fun c4 => ?_)
      · have h := it1 h c4
        refine jB C [(.iinc 3 1, 3, 1)] 32 [(3, .int (v3 + 1)), (0, .ref (b + v0)), (1, .ref (b + v1)), (2, .int v2)] [] (by decide +kernel) rfl rfl ?_
        refine jGoto C 4 (by decide +kernel : decode cX4_findScenes 32 = .ok (.goto (-28), 3)) rfl ?_
        refine jSub [1, 2, 3, 0] rfl ?_
        exact ih v2 (v3 + 1) S2 h
      · have h := it2 h c4
        refine jB C [(.aload_n 0, 1, 0)] 20 [(0, .ref (b + v0)), (1, .ref (b + v1)), (2, .int v2), (3, .int v3)] [.ref (b + v0)] (by decide +kernel) rfl rfl ?_
        obtain ⟨a5, e_a5, h⟩ := h
        refine jGetR C 23 (by decide +kernel : decode cX4_findScenes 20 = .ok (.getfield 31, 3)) rfl t_v0 kX4 5 (by decide) rfl rfl (by decide) wd_196 e_a5 rfl (fun t_a5 => ?_)
        refine jB C [(.iload_n 2, 1, 0), (.iload_n 3, 1, 0)] 25 [(0, .ref (b + v0)), (1, .ref (b + v1)), (2, .int v2), (3, .int v3)] [.int v3, .int v2, .ref (b + a5)] (by decide +kernel) rfl rfl ?_
        obtain ⟨y6, h⟩ := h
        refine jIast C 26 (by decide +kernel : decode cX4_findScenes 25 = .ok (.iastore, 1)) rfl hE t_a5 y6 ?_
        refine jTopS (fun S7 e_S7 => ?_)
        have h := h S7 e_S7
        refine jB C [(.iinc 2 1, 3, 1), (.iinc 3 1, 3, 1)] 32 [(3, .int (v3 + 1)), (2, .int (v2 + 1)), (0, .ref (b + v0)), (1, .ref (b + v1))] [] (by decide +kernel) rfl rfl ?_
        refine jGoto C 4 (by decide +kernel : decode cX4_findScenes 32 = .ok (.goto (-28), 3)) rfl ?_
        refine jSub [2, 3, 1, 0] rfl ?_
        exact ih (v2 + 1) (v3 + 1) S7 h
theorem j_X4_findScenes_4 {p : Program} {l : Launch} {e : Env} {s : State} {m : MethodId} {args : Array Value} {below : List Frame} {meth : Method} {c : Code} {b : Nat} {D : va_G} {cy : Nat → ClassId} {G : Gm} {v0 : Nat} {v1 : Nat} {v2 : Int32} {v3 : Int32} {S : St} {Q : Int32 → St → Prop} (C : CX p s m args meth c b D cy cX4_findScenes RX4 4 (some .int)) (hE : s.heap.size + 0 ≤ b + G.2.2) (t_v0 : ok G 3 v0) (t_v1 : ok G 4 v1) (h : f_X4_findScenes_4 G v0 v1 Q v2 v3 S) : J p l e rm_X4_findScenes s m args below meth c b D cy 4 (zI b D cy below args s G Q) 0 0 G S 4 [(0, .ref (b + v0)), (1, .ref (b + v1)), (2, .int v2), (3, .int v3)] [] := by
  obtain ⟨n, h⟩ := h
  exact j_X4_findScenes_4_n C hE t_v0 t_v1 n v2 v3 S h
set_option maxHeartbeats 4000000 in
set_option maxRecDepth 100000 in
theorem j_X4_findScenes {p : Program} {l : Launch} {e : Env} {s : State} {m : MethodId} {args : Array Value} {below : List Frame} {meth : Method} {c : Code} {b : Nat} {D : va_G} {cy : Nat → ClassId} {G : Gm} {v0 : Nat} {v1 : Nat} {S : St} {Q : Int32 → St → Prop} (C : CX p s m args meth c b D cy cX4_findScenes RX4 4 (some .int)) (hE : s.heap.size + 0 ≤ b + G.2.2) (t_v0 : ok G 3 v0) (t_v1 : ok G 4 v1) (h : f_X4_findScenes G v0 v1 Q S) : J p l e rm_X4_findScenes s m args below meth c b D cy 4 (zI b D cy below args s G Q) 0 0 G S 0 [(0, .ref (b + v0)), (1, .ref (b + v1))] [] := by
  unfold f_X4_findScenes at h
  refine jB C [(.iconst 0, 1, 0), (.istore_n 2, 1, 0), (.iconst 0, 1, 0), (.istore_n 3, 1, 0)] 4 [(3, .int 0), (2, .int 0), (0, .ref (b + v0)), (1, .ref (b + v1))] [] (by decide +kernel) rfl rfl ?_
  refine jSub [2, 3, 1, 0] rfl ?_
  exact j_X4_findScenes_4 C hE t_v0 t_v1 h
theorem ok_X4_findScenes {G : Gm} {v0 : Nat} {v1 : Nat} {S : St} {Q : Int32 → St → Prop} (t_v0 : ok G 3 v0) (t_v1 : ok G 4 v1) (h : f_X4_findScenes G v0 v1 Q S) : MT yX4_findScenes cX4_findScenes 4 (some .int) rm_X4_findScenes 0 0 (fun b => [.ref (b + v0), .ref (b + v1)]) G S (QI (fun r G1 S1 => G1 = G ∧ Q r S1)) := MT.ofJ (by decide) (fun b => [(0, .ref (b + v0)), (1, .ref (b + v1))]) (fun b => rfl) (fun b => Nat.le_of_ble_eq_true rfl) (fun l b D cy p e s m below meth c C hE hn => j_X4_findScenes C hE t_v0 t_v1 h)
theorem hd_X4_findScenes : yX4_findScenes.cls ≠ "java/lang/invoke/MethodHandle" ∧ yX4_findScenes.cls ≠ "java/lang/invoke/VarHandle" ∧ (parseMethodDescriptor yX4_findScenes.desc).map (fun d => d.parameters.length) = some 1 := by decide +kernel
def f_X10_isNumber (G : Gm) (v0 : Int32) (Q : Int32 → St → Prop) (S : St) : Prop :=
  (if v0 < 0 then Q 0 S else (if 256 ≤ v0 then Q 0 S else Q 1 S))
abbrev rm_X10_isNumber : Room := { frames := 0, cells := 0, slots := 0, locals := 0 }
set_option maxHeartbeats 4000000 in
set_option maxRecDepth 100000 in
theorem j_X10_isNumber {p : Program} {l : Launch} {e : Env} {s : State} {m : MethodId} {args : Array Value} {below : List Frame} {meth : Method} {c : Code} {b : Nat} {D : va_G} {cy : Nat → ClassId} {G : Gm} {v0 : Int32} {S : St} {Q : Int32 → St → Prop} (C : CX p s m args meth c b D cy cX10_isNumber RX10 1 (some .boolean)) (hE : s.heap.size + 0 ≤ b + G.2.2) (h : f_X10_isNumber G v0 Q S) : J p l e rm_X10_isNumber s m args below meth c b D cy 1 (zI b D cy below args s G Q) 0 0 G S 0 [(0, .int v0)] [] := by
  unfold f_X10_isNumber at h
  refine jB C [(.iload_n 0, 1, 0)] 1 [(0, .int v0)] [.int v0] (by decide +kernel) rfl rfl ?_
  refine jIf_lt C 4 15 (by decide +kernel : decode cX10_isNumber 1 = .ok (.ifCond .lt 14, 3)) rfl rfl (fun c1 => ?_) (fun c1 => ?_)
  · have h := it1 h c1
    refine jB C [(.iconst 0, 1, 0)] 16 [(0, .int v0)] [.int 0] (by decide +kernel) rfl rfl ?_
    exact jRetZ C (by decide +kernel : decode cX10_isNumber 16 = .ok (.ireturn, 1)) (Nat.le_refl _) (Nat.le_refl _) (by decide) ⟨rfl, h⟩
  · have h := it2 h c1
    refine jB C [(.iload_n 0, 1, 0), (.sipush 256, 3, 256)] 8 [(0, .int v0)] [.int 256, .int v0] (by decide +kernel) rfl rfl ?_
    refine jIcmp_ge C 11 15 (by decide +kernel : decode cX10_isNumber 8 = .ok (.if_icmp .ge 7, 3)) rfl rfl (fun c2 => ?_) (fun c2 => ?_)
    · have h := it1 h c2
      refine jB C [(.iconst 0, 1, 0)] 16 [(0, .int v0)] [.int 0] (by decide +kernel) rfl rfl ?_
      exact jRetZ C (by decide +kernel : decode cX10_isNumber 16 = .ok (.ireturn, 1)) (Nat.le_refl _) (Nat.le_refl _) (by decide) ⟨rfl, h⟩
    · have h := it2 h c2
      refine jB C [(.iconst 1, 1, 1)] 12 [(0, .int v0)] [.int 1] (by decide +kernel) rfl rfl ?_
      refine jGoto C 16 (by decide +kernel : decode cX10_isNumber 12 = .ok (.goto 4, 3)) rfl ?_
      exact jRetZ C (by decide +kernel : decode cX10_isNumber 16 = .ok (.ireturn, 1)) (Nat.le_refl _) (Nat.le_refl _) (by decide) ⟨rfl, h⟩
theorem ok_X10_isNumber {G : Gm} {v0 : Int32} {S : St} {Q : Int32 → St → Prop} (h : f_X10_isNumber G v0 Q S) : MT yX10_isNumber cX10_isNumber 1 (some .boolean) rm_X10_isNumber 0 0 (fun b => [.int v0]) G S (QI (fun r G1 S1 => G1 = G ∧ Q r S1)) := MT.ofJ (by decide) (fun b => [(0, .int v0)]) (fun b => rfl) (fun b => Nat.le_of_ble_eq_true rfl) (fun l b D cy p e s m below meth c C hE hn => j_X10_isNumber C hE h)
theorem hd_X10_isNumber : yX10_isNumber.cls ≠ "java/lang/invoke/MethodHandle" ∧ yX10_isNumber.cls ≠ "java/lang/invoke/VarHandle" ∧ (parseMethodDescriptor yX10_isNumber.desc).map (fun d => d.parameters.length) = some 1 := by decide +kernel
def f_X4_mostAlike_27_n (G : Gm) (v0 : Nat) (v1 : Int32) (v2 : Int32) (Q : Int32 → St → Prop) : Nat → Int32 → Int32 → St → Prop
  | 0, _, _, _ => False
  | n + 1, v3, v4, S => (if v2 ≤ v4 then Q v3 S else (if 256 ≤ v4 then Q v3 S else (∃ a3, S.2.2 v0 5 = some a3 ∧ (vp_in v4 (G.2.1 a3) ∧ f_X3_through G v1 (S.1 a3 v4.toNatClampNeg) (fun r6 S5 => f_X10_isNumber G r6 (fun r8 S7 => (if r8 = 0 then (f_X4_mostAlike_27_n G v0 v1 v2 Q n) v3 (v4 + 1) S7 else (∃ a10, S7.2.2 v0 6 = some a10 ∧ (vp_in r6 (G.2.1 a10) ∧ (vp_in r6 (G.2.1 a10) ∧ ∀ S13, S13 = uI S7 a10 r6.toNatClampNeg ((S7.1 a10 r6.toNatClampNeg) + 1) → (∃ a14, S13.2.2 v0 6 = some a14 ∧ (vp_in r6 (G.2.1 a14) ∧ (∀ x16 : Int32, x16 = mx v3 (S13.1 a14 r6.toNatClampNeg) → (f_X4_mostAlike_27_n G v0 v1 v2 Q n) x16 (v4 + 1) S13)))))))) S5) S))))
def f_X4_mostAlike_27 (G : Gm) (v0 : Nat) (v1 : Int32) (v2 : Int32) (Q : Int32 → St → Prop) (v3 : Int32) (v4 : Int32) (S : St) : Prop := ∃ n, f_X4_mostAlike_27_n G v0 v1 v2 Q n v3 v4 S
def f_X4_mostAlike_2_n (G : Gm) (v0 : Nat) (v1 : Int32) (v2 : Int32) (Q : Int32 → St → Prop) : Nat → Int32 → St → Prop
  | 0, _, _ => False
  | n + 1, v3, S => (if 256 ≤ v3 then f_X4_mostAlike_27 G v0 v1 v2 Q 0 0 S else (∃ a2, S.2.2 v0 6 = some a2 ∧ (vp_in v3 (G.2.1 a2) ∧ ∀ S4, S4 = uI S a2 v3.toNatClampNeg 0 → (f_X4_mostAlike_2_n G v0 v1 v2 Q n) (v3 + 1) S4)))
def f_X4_mostAlike_2 (G : Gm) (v0 : Nat) (v1 : Int32) (v2 : Int32) (Q : Int32 → St → Prop) (v3 : Int32) (S : St) : Prop := ∃ n, f_X4_mostAlike_2_n G v0 v1 v2 Q n v3 S
def f_X4_mostAlike (G : Gm) (v0 : Nat) (v1 : Int32) (v2 : Int32) (Q : Int32 → St → Prop) (S : St) : Prop :=
  f_X4_mostAlike_2 G v0 v1 v2 Q 0 S
abbrev rm_X4_mostAlike : Room := { frames := 2, cells := 0, slots := 0, locals := 47 }
set_option maxHeartbeats 4000000 in
set_option maxRecDepth 100000 in
theorem j_X4_mostAlike_27_n {p : Program} {l : Launch} {e : Env} {s : State} {m : MethodId} {args : Array Value} {below : List Frame} {meth : Method} {c : Code} {b : Nat} {D : va_G} {cy : Nat → ClassId} {G : Gm} {v0 : Nat} {v1 : Int32} {v2 : Int32} {Q : Int32 → St → Prop} (C : CX p s m args meth c b D cy cX4_mostAlike RX4 6 (some .int)) (hE : s.heap.size + 0 ≤ b + G.2.2) (t_v0 : ok G 3 v0) : ∀ n (v3 : Int32) (v4 : Int32) S, f_X4_mostAlike_27_n G v0 v1 v2 Q n v3 v4 S → J p l e rm_X4_mostAlike s m args below meth c b D cy 6 (zI b D cy below args s G Q) 0 0 G S 27 [(0, .ref (b + v0)), (1, .int v1), (2, .int v2), (3, .int v3), (4, .int v4)] [] := by
  intro n
  induction n with
  | zero => intro v3 v4 S h; exact h.elim
  | succ n ih =>
    intro v3 v4 S h
    unfold f_X4_mostAlike_27_n at h
    refine jB C [(.iload 4, 2, 0), (.iload_n 2, 1, 0)] 30 [(0, .ref (b + v0)), (1, .int v1), (2, .int v2), (3, .int v3), (4, .int v4)] [.int v2, .int v4] (by decide +kernel) rfl rfl ?_
    refine jIcmp_ge C 33 91 (by decide +kernel : decode cX4_mostAlike 30 = .ok (.if_icmp .ge 61, 3)) rfl rfl (fun c1 => ?_) (fun c1 => ?_)
    · have h := it1 h c1
      refine jB C [(.iload_n 3, 1, 0)] 92 [(0, .ref (b + v0)), (1, .int v1), (2, .int v2), (3, .int v3), (4, .int v4)] [.int v3] (by decide +kernel) rfl rfl ?_
      exact jRetI C (by decide +kernel : decode cX4_mostAlike 92 = .ok (.ireturn, 1)) (Nat.le_refl _) (Nat.le_refl _) ⟨rfl, h⟩
    · have h := it2 h c1
      refine jB C [(.iload 4, 2, 0), (.sipush 256, 3, 256)] 38 [(0, .ref (b + v0)), (1, .int v1), (2, .int v2), (3, .int v3), (4, .int v4)] [.int 256, .int v4] (by decide +kernel) rfl rfl ?_
      refine jIcmp_ge C 41 91 (by decide +kernel : decode cX4_mostAlike 38 = .ok (.if_icmp .ge 53, 3)) rfl rfl (fun c2 => ?_) (fun c2 => ?_)
      · have h := it1 h c2
        refine jB C [(.iload_n 3, 1, 0)] 92 [(0, .ref (b + v0)), (1, .int v1), (2, .int v2), (3, .int v3), (4, .int v4)] [.int v3] (by decide +kernel) rfl rfl ?_
        exact jRetI C (by decide +kernel : decode cX4_mostAlike 92 = .ok (.ireturn, 1)) (Nat.le_refl _) (Nat.le_refl _) ⟨rfl, h⟩
      · have h := it2 h c2
        refine jB C [(.iload_n 1, 1, 0), (.aload_n 0, 1, 0)] 43 [(0, .ref (b + v0)), (1, .int v1), (2, .int v2), (3, .int v3), (4, .int v4)] [.ref (b + v0), .int v1] (by decide +kernel) rfl rfl ?_
        obtain ⟨a3, e_a3, h⟩ := h
        refine jGetR C 46 (by decide +kernel : decode cX4_mostAlike 43 = .ok (.getfield 31, 3)) rfl t_v0 kX4 5 (by decide) rfl rfl (by decide) wd_196 e_a3 rfl (fun t_a3 => ?_)
        refine jB C [(.iload 4, 2, 0)] 48 [(0, .ref (b + v0)), (1, .int v1), (2, .int v2), (3, .int v3), (4, .int v4)] [.int v4, .ref (b + a3), .int v1] (by decide +kernel) rfl rfl ?_
        obtain ⟨y4, h⟩ := h
        refine jIald C 49 (by decide +kernel : decode cX4_mostAlike 48 = .ok (.iaload, 1)) rfl t_a3 y4 ?_
        refine jcSN_I C 52 (rest := []) (ok_X3_through h) (by decide +kernel : decode cX4_mostAlike 49 = .ok (.invokestatic 99, 3)) rfl wn_962 wd_421 wd_13 wd_422 ⟨rfl, rfl⟩ hd_X3_through ⟨Nat.le_of_ble_eq_true rfl, Nat.le_of_ble_eq_true rfl⟩ rfl rfl (Nat.le_of_ble_eq_true rfl) ⟨Nat.zero_le _, Nat.zero_le _⟩ (fun r6 S5 h => ?_)
        refine jB C [(.istore 5, 2, 0), (.iload 5, 2, 0)] 56 [(5, .int r6), (0, .ref (b + v0)), (1, .int v1), (2, .int v2), (3, .int v3), (4, .int v4)] [.int r6] (by decide +kernel) rfl rfl ?_
        refine jcSN_I C 59 (rest := []) (ok_X10_isNumber h) (by decide +kernel : decode cX4_mostAlike 56 = .ok (.invokestatic 72, 3)) rfl wn_928 wd_531 wd_1 wd_532 ⟨rfl, rfl⟩ hd_X10_isNumber ⟨Nat.le_of_ble_eq_true rfl, Nat.le_of_ble_eq_true rfl⟩ rfl rfl (Nat.le_of_ble_eq_true rfl) ⟨Nat.zero_le _, Nat.zero_le _⟩ (fun r8 S7 h => ?_)
        refine jIf_eq C 62 85 (by decide +kernel : decode cX4_mostAlike 59 = .ok (.ifCond .eq 26, 3)) rfl rfl (fun c9 => ?_) (fun c9 => ?_)
        · have h := it1 h c9
          refine jB C [(.iinc 4 1, 3, 1)] 88 [(4, .int (v4 + 1)), (5, .int r6), (0, .ref (b + v0)), (1, .int v1), (2, .int v2), (3, .int v3)] [] (by decide +kernel) rfl rfl ?_
          refine jGoto C 27 (by decide +kernel : decode cX4_mostAlike 88 = .ok (.goto (-61), 3)) rfl ?_
          refine jSub [2, 3, 4, 5, 0] rfl ?_
          exact ih v3 (v4 + 1) S7 h
        · have h := it2 h c9
          refine jB C [(.aload_n 0, 1, 0)] 63 [(5, .int r6), (0, .ref (b + v0)), (1, .int v1), (2, .int v2), (3, .int v3), (4, .int v4)] [.ref (b + v0)] (by decide +kernel) rfl rfl ?_
          obtain ⟨a10, e_a10, h⟩ := h
          refine jGetR C 66 (by decide +kernel : decode cX4_mostAlike 63 = .ok (.getfield 34, 3)) rfl t_v0 kX4 6 (by decide) rfl rfl (by decide) wd_197 e_a10 rfl (fun t_a10 => ?_)
          refine jB C [(.iload 5, 2, 0), (.dup2, 1, 0)] 69 [(5, .int r6), (0, .ref (b + v0)), (1, .int v1), (2, .int v2), (3, .int v3), (4, .int v4)] [.int r6, .ref (b + a10), .int r6, .ref (b + a10)] (by decide +kernel) rfl rfl ?_
          obtain ⟨y11, h⟩ := h
          refine jIald C 70 (by decide +kernel : decode cX4_mostAlike 69 = .ok (.iaload, 1)) rfl t_a10 y11 ?_
          refine jB C [(.iconst 1, 1, 1), (.iadd, 1, 0)] 72 [(5, .int r6), (0, .ref (b + v0)), (1, .int v1), (2, .int v2), (3, .int v3), (4, .int v4)] [.int ((S7.1 a10 r6.toNatClampNeg) + 1), .int r6, .ref (b + a10)] (by decide +kernel) rfl rfl ?_
          obtain ⟨y12, h⟩ := h
          refine jIast C 73 (by decide +kernel : decode cX4_mostAlike 72 = .ok (.iastore, 1)) rfl hE t_a10 y12 ?_
          refine jTopS (fun S13 e_S13 => ?_)
          have h := h S13 e_S13
          refine jB C [(.iload_n 3, 1, 0), (.aload_n 0, 1, 0)] 75 [(5, .int r6), (0, .ref (b + v0)), (1, .int v1), (2, .int v2), (3, .int v3), (4, .int v4)] [.ref (b + v0), .int v3] (by decide +kernel) rfl rfl ?_
          obtain ⟨a14, e_a14, h⟩ := h
          refine jGetR C 78 (by decide +kernel : decode cX4_mostAlike 75 = .ok (.getfield 34, 3)) rfl t_v0 kX4 6 (by decide) rfl rfl (by decide) wd_197 e_a14 rfl (fun t_a14 => ?_)
          refine jB C [(.iload 5, 2, 0)] 80 [(5, .int r6), (0, .ref (b + v0)), (1, .int v1), (2, .int v2), (3, .int v3), (4, .int v4)] [.int r6, .ref (b + a14), .int v3] (by decide +kernel) rfl rfl ?_
          obtain ⟨y15, h⟩ := h
          refine jIald C 81 (by decide +kernel : decode cX4_mostAlike 80 = .ok (.iaload, 1)) rfl t_a14 y15 ?_
          refine jMax C 84 (by decide +kernel : decode cX4_mostAlike 81 = .ok (.invokestatic 111, 3)) rfl wd_975 (Nat.le_of_ble_eq_true rfl) (Nat.le_of_ble_eq_true rfl) (Nat.le_of_ble_eq_true rfl) ?_
          refine jTopI (fun x16 e_x16 => ?_)
          have h := h x16 e_x16
          refine jB C [(.istore_n 3, 1, 0), (.iinc 4 1, 3, 1)] 88 [(4, .int (v4 + 1)), (3, .int x16), (5, .int r6), (0, .ref (b + v0)), (1, .int v1), (2, .int v2)] [] (by decide +kernel) rfl rfl ?_
          refine jGoto C 27 (by decide +kernel : decode cX4_mostAlike 88 = .ok (.goto (-61), 3)) rfl ?_
          refine jSub [3, 4, 5, 1, 0] rfl ?_
          exact ih x16 (v4 + 1) S13 h
theorem j_X4_mostAlike_27 {p : Program} {l : Launch} {e : Env} {s : State} {m : MethodId} {args : Array Value} {below : List Frame} {meth : Method} {c : Code} {b : Nat} {D : va_G} {cy : Nat → ClassId} {G : Gm} {v0 : Nat} {v1 : Int32} {v2 : Int32} {v3 : Int32} {v4 : Int32} {S : St} {Q : Int32 → St → Prop} (C : CX p s m args meth c b D cy cX4_mostAlike RX4 6 (some .int)) (hE : s.heap.size + 0 ≤ b + G.2.2) (t_v0 : ok G 3 v0) (h : f_X4_mostAlike_27 G v0 v1 v2 Q v3 v4 S) : J p l e rm_X4_mostAlike s m args below meth c b D cy 6 (zI b D cy below args s G Q) 0 0 G S 27 [(0, .ref (b + v0)), (1, .int v1), (2, .int v2), (3, .int v3), (4, .int v4)] [] := by
  obtain ⟨n, h⟩ := h
  exact j_X4_mostAlike_27_n C hE t_v0 n v3 v4 S h
set_option maxHeartbeats 4000000 in
set_option maxRecDepth 100000 in
theorem j_X4_mostAlike_2_n {p : Program} {l : Launch} {e : Env} {s : State} {m : MethodId} {args : Array Value} {below : List Frame} {meth : Method} {c : Code} {b : Nat} {D : va_G} {cy : Nat → ClassId} {G : Gm} {v0 : Nat} {v1 : Int32} {v2 : Int32} {Q : Int32 → St → Prop} (C : CX p s m args meth c b D cy cX4_mostAlike RX4 6 (some .int)) (hE : s.heap.size + 0 ≤ b + G.2.2) (t_v0 : ok G 3 v0) : ∀ n (v3 : Int32) S, f_X4_mostAlike_2_n G v0 v1 v2 Q n v3 S → J p l e rm_X4_mostAlike s m args below meth c b D cy 6 (zI b D cy below args s G Q) 0 0 G S 2 [(0, .ref (b + v0)), (1, .int v1), (2, .int v2), (3, .int v3)] [] := by
  intro n
  induction n with
  | zero => intro v3 S h; exact h.elim
  | succ n ih =>
    intro v3 S h
    unfold f_X4_mostAlike_2_n at h
    refine jB C [(.iload_n 3, 1, 0), (.sipush 256, 3, 256)] 6 [(0, .ref (b + v0)), (1, .int v1), (2, .int v2), (3, .int v3)] [.int 256, .int v3] (by decide +kernel) rfl rfl ?_
    refine jIcmp_ge C 9 22 (by decide +kernel : decode cX4_mostAlike 6 = .ok (.if_icmp .ge 16, 3)) rfl rfl (fun c1 => ?_) (fun c1 => ?_)
    · have h := it1 h c1
      refine jB C [(.iconst 0, 1, 0), (.istore_n 3, 1, 0), (.iconst 0, 1, 0), (.istore 4, 2, 0)] 27 [(4, .int 0), (3, .int 0), (0, .ref (b + v0)), (1, .int v1), (2, .int v2)] [] (by decide +kernel) rfl rfl ?_
      refine jSub [2, 3, 4, 1, 0] rfl ?_
      exact j_X4_mostAlike_27 C hE t_v0 h
    · have h := it2 h c1
      refine jB C [(.aload_n 0, 1, 0)] 10 [(0, .ref (b + v0)), (1, .int v1), (2, .int v2), (3, .int v3)] [.ref (b + v0)] (by decide +kernel) rfl rfl ?_
      obtain ⟨a2, e_a2, h⟩ := h
      refine jGetR C 13 (by decide +kernel : decode cX4_mostAlike 10 = .ok (.getfield 34, 3)) rfl t_v0 kX4 6 (by decide) rfl rfl (by decide) wd_197 e_a2 rfl (fun t_a2 => ?_)
      refine jB C [(.iload_n 3, 1, 0), (.iconst 0, 1, 0)] 15 [(0, .ref (b + v0)), (1, .int v1), (2, .int v2), (3, .int v3)] [.int 0, .int v3, .ref (b + a2)] (by decide +kernel) rfl rfl ?_
      obtain ⟨y3, h⟩ := h
      refine jIast C 16 (by decide +kernel : decode cX4_mostAlike 15 = .ok (.iastore, 1)) rfl hE t_a2 y3 ?_
      refine jTopS (fun S4 e_S4 => ?_)
      have h := h S4 e_S4
      refine jB C [(.iinc 3 1, 3, 1)] 19 [(3, .int (v3 + 1)), (0, .ref (b + v0)), (1, .int v1), (2, .int v2)] [] (by decide +kernel) rfl rfl ?_
      refine jGoto C 2 (by decide +kernel : decode cX4_mostAlike 19 = .ok (.goto (-17), 3)) rfl ?_
      refine jSub [1, 2, 3, 0] rfl ?_
      exact ih (v3 + 1) S4 h
theorem j_X4_mostAlike_2 {p : Program} {l : Launch} {e : Env} {s : State} {m : MethodId} {args : Array Value} {below : List Frame} {meth : Method} {c : Code} {b : Nat} {D : va_G} {cy : Nat → ClassId} {G : Gm} {v0 : Nat} {v1 : Int32} {v2 : Int32} {v3 : Int32} {S : St} {Q : Int32 → St → Prop} (C : CX p s m args meth c b D cy cX4_mostAlike RX4 6 (some .int)) (hE : s.heap.size + 0 ≤ b + G.2.2) (t_v0 : ok G 3 v0) (h : f_X4_mostAlike_2 G v0 v1 v2 Q v3 S) : J p l e rm_X4_mostAlike s m args below meth c b D cy 6 (zI b D cy below args s G Q) 0 0 G S 2 [(0, .ref (b + v0)), (1, .int v1), (2, .int v2), (3, .int v3)] [] := by
  obtain ⟨n, h⟩ := h
  exact j_X4_mostAlike_2_n C hE t_v0 n v3 S h
set_option maxHeartbeats 4000000 in
set_option maxRecDepth 100000 in
theorem j_X4_mostAlike {p : Program} {l : Launch} {e : Env} {s : State} {m : MethodId} {args : Array Value} {below : List Frame} {meth : Method} {c : Code} {b : Nat} {D : va_G} {cy : Nat → ClassId} {G : Gm} {v0 : Nat} {v1 : Int32} {v2 : Int32} {S : St} {Q : Int32 → St → Prop} (C : CX p s m args meth c b D cy cX4_mostAlike RX4 6 (some .int)) (hE : s.heap.size + 0 ≤ b + G.2.2) (t_v0 : ok G 3 v0) (h : f_X4_mostAlike G v0 v1 v2 Q S) : J p l e rm_X4_mostAlike s m args below meth c b D cy 6 (zI b D cy below args s G Q) 0 0 G S 0 [(0, .ref (b + v0)), (1, .int v1), (2, .int v2)] [] := by
  unfold f_X4_mostAlike at h
  refine jB C [(.iconst 0, 1, 0), (.istore_n 3, 1, 0)] 2 [(3, .int 0), (0, .ref (b + v0)), (1, .int v1), (2, .int v2)] [] (by decide +kernel) rfl rfl ?_
  refine jSub [1, 2, 3, 0] rfl ?_
  exact j_X4_mostAlike_2 C hE t_v0 h
theorem ok_X4_mostAlike {G : Gm} {v0 : Nat} {v1 : Int32} {v2 : Int32} {S : St} {Q : Int32 → St → Prop} (t_v0 : ok G 3 v0) (h : f_X4_mostAlike G v0 v1 v2 Q S) : MT yX4_mostAlike cX4_mostAlike 6 (some .int) rm_X4_mostAlike 0 0 (fun b => [.ref (b + v0), .int v1, .int v2]) G S (QI (fun r G1 S1 => G1 = G ∧ Q r S1)) := MT.ofJ (by decide) (fun b => [(0, .ref (b + v0)), (1, .int v1), (2, .int v2)]) (fun b => rfl) (fun b => Nat.le_of_ble_eq_true rfl) (fun l b D cy p e s m below meth c C hE hn => j_X4_mostAlike C hE t_v0 h)
theorem hd_X4_mostAlike : yX4_mostAlike.cls ≠ "java/lang/invoke/MethodHandle" ∧ yX4_mostAlike.cls ≠ "java/lang/invoke/VarHandle" ∧ (parseMethodDescriptor yX4_mostAlike.desc).map (fun d => d.parameters.length) = some 2 := by decide +kernel
def f_X4_toAsk_64 (G : Gm) (v2 : Int32) (v4 : Int32) (v5 : Int32) (Q : Int32 → St → Prop) (S : St) : Prop :=
  (if v2 = 0 then (if v4 = (-1) then Q v4 S else Q v5 S) else Q v4 S)
def f_X4_toAsk_17_n (G : Gm) (v0 : Nat) (v1 : Nat) (v2 : Int32) (v3 : Int32) (Q : Int32 → St → Prop) : Nat → Int32 → Int32 → Int32 → St → Prop
  | 0, _, _, _, _ => False
  | n + 1, v4, v5, v6, S => (if (S.1 v1 0) ≤ v6 then f_X4_toAsk_64 G v2 v4 v5 Q S else (if v3 ≤ 0 then f_X4_toAsk_64 G v2 v4 v5 Q S else f_X5_glassOf G v1 v6 (fun r4 S3 => f_X4_mostAlike G v0 r4 v3 (fun r6 S5 => (if v5 ≤ r6 then (f_X4_toAsk_17_n G v0 v1 v2 v3 Q n) v4 v5 (v6 + 1) S5 else (f_X4_toAsk_17_n G v0 v1 v2 v3 Q n) v6 r6 (v6 + 1) S5)) S3) S))
def f_X4_toAsk_17 (G : Gm) (v0 : Nat) (v1 : Nat) (v2 : Int32) (v3 : Int32) (Q : Int32 → St → Prop) (v4 : Int32) (v5 : Int32) (v6 : Int32) (S : St) : Prop := ∃ n, f_X4_toAsk_17_n G v0 v1 v2 v3 Q n v4 v5 v6 S
def f_X4_toAsk (G : Gm) (v0 : Nat) (v1 : Nat) (v2 : Int32) (Q : Int32 → St → Prop) (S : St) : Prop :=
  f_X4_findScenes G v0 v1 (fun r2 S1 => f_X4_toAsk_17 G v0 v1 v2 r2 Q (-1) 257 0 S1) S
abbrev rm_X4_toAsk : Room := { frames := 4, cells := 0, slots := 0, locals := 93 }
set_option maxHeartbeats 4000000 in
set_option maxRecDepth 100000 in
theorem j_X4_toAsk_64 {p : Program} {l : Launch} {e : Env} {s : State} {m : MethodId} {args : Array Value} {below : List Frame} {meth : Method} {c : Code} {b : Nat} {D : va_G} {cy : Nat → ClassId} {G : Gm} {v2 : Int32} {v4 : Int32} {v5 : Int32} {S : St} {Q : Int32 → St → Prop} (C : CX p s m args meth c b D cy cX4_toAsk RX4 8 (some .int)) (hE : s.heap.size + 0 ≤ b + G.2.2) (h : f_X4_toAsk_64 G v2 v4 v5 Q S) : J p l e rm_X4_toAsk s m args below meth c b D cy 8 (zI b D cy below args s G Q) 0 0 G S 64 [(2, .int v2), (4, .int v4), (5, .int v5)] [] := by
  unfold f_X4_toAsk_64 at h
  refine jB C [(.iload_n 2, 1, 0)] 65 [(2, .int v2), (4, .int v4), (5, .int v5)] [.int v2] (by decide +kernel) rfl rfl ?_
  refine jIf_ne C 68 74 (by decide +kernel : decode cX4_toAsk 65 = .ok (.ifCond .ne 9, 3)) rfl rfl (fun c1 => ?_) (fun c1 => ?_)
  · have h := it2 h c1
    refine jB C [(.iload 4, 2, 0)] 76 [(2, .int v2), (4, .int v4), (5, .int v5)] [.int v4] (by decide +kernel) rfl rfl ?_
    refine jGoto C 81 (by decide +kernel : decode cX4_toAsk 76 = .ok (.goto 5, 3)) rfl ?_
    exact jRetI C (by decide +kernel : decode cX4_toAsk 81 = .ok (.ireturn, 1)) (Nat.le_refl _) (Nat.le_refl _) ⟨rfl, h⟩
  · have h := it1 h c1
    refine jB C [(.iload 4, 2, 0), (.iconst (-1), 1, (-1))] 71 [(2, .int v2), (4, .int v4), (5, .int v5)] [.int (-1), .int v4] (by decide +kernel) rfl rfl ?_
    refine jIcmp_ne C 74 79 (by decide +kernel : decode cX4_toAsk 71 = .ok (.if_icmp .ne 8, 3)) rfl rfl (fun c2 => ?_) (fun c2 => ?_)
    · have h := it2 h c2
      refine jB C [(.iload 5, 2, 0)] 81 [(2, .int v2), (4, .int v4), (5, .int v5)] [.int v5] (by decide +kernel) rfl rfl ?_
      exact jRetI C (by decide +kernel : decode cX4_toAsk 81 = .ok (.ireturn, 1)) (Nat.le_refl _) (Nat.le_refl _) ⟨rfl, h⟩
    · have h := it1 h c2
      refine jB C [(.iload 4, 2, 0)] 76 [(2, .int v2), (4, .int v4), (5, .int v5)] [.int v4] (by decide +kernel) rfl rfl ?_
      refine jGoto C 81 (by decide +kernel : decode cX4_toAsk 76 = .ok (.goto 5, 3)) rfl ?_
      exact jRetI C (by decide +kernel : decode cX4_toAsk 81 = .ok (.ireturn, 1)) (Nat.le_refl _) (Nat.le_refl _) ⟨rfl, h⟩
set_option maxHeartbeats 4000000 in
set_option maxRecDepth 100000 in
theorem j_X4_toAsk_17_n {p : Program} {l : Launch} {e : Env} {s : State} {m : MethodId} {args : Array Value} {below : List Frame} {meth : Method} {c : Code} {b : Nat} {D : va_G} {cy : Nat → ClassId} {G : Gm} {v0 : Nat} {v1 : Nat} {v2 : Int32} {v3 : Int32} {Q : Int32 → St → Prop} (C : CX p s m args meth c b D cy cX4_toAsk RX4 8 (some .int)) (hE : s.heap.size + 0 ≤ b + G.2.2) (t_v0 : ok G 3 v0) (t_v1 : ok G 4 v1) : ∀ n (v4 : Int32) (v5 : Int32) (v6 : Int32) S, f_X4_toAsk_17_n G v0 v1 v2 v3 Q n v4 v5 v6 S → J p l e rm_X4_toAsk s m args below meth c b D cy 8 (zI b D cy below args s G Q) 0 0 G S 17 [(0, .ref (b + v0)), (1, .ref (b + v1)), (2, .int v2), (3, .int v3), (4, .int v4), (5, .int v5), (6, .int v6)] [] := by
  intro n
  induction n with
  | zero => intro v4 v5 v6 S h; exact h.elim
  | succ n ih =>
    intro v4 v5 v6 S h
    unfold f_X4_toAsk_17_n at h
    refine jB C [(.iload 6, 2, 0), (.aload_n 1, 1, 0)] 20 [(0, .ref (b + v0)), (1, .ref (b + v1)), (2, .int v2), (3, .int v3), (4, .int v4), (5, .int v5), (6, .int v6)] [.ref (b + v1), .int v6] (by decide +kernel) rfl rfl ?_
    refine jGetIN C 23 (by decide +kernel : decode cX4_toAsk 20 = .ok (.getfield 105, 3)) rfl t_v1 kX5 0 (by decide) rfl rfl (by decide) wn_39 ?_
    refine jIcmp_ge C 26 64 (by decide +kernel : decode cX4_toAsk 23 = .ok (.if_icmp .ge 41, 3)) rfl rfl (fun c1 => ?_) (fun c1 => ?_)
    · have h := it1 h c1
      refine jSub [2, 4, 5] rfl ?_
      exact j_X4_toAsk_64 C hE h
    · have h := it2 h c1
      refine jB C [(.iload_n 3, 1, 0)] 27 [(0, .ref (b + v0)), (1, .ref (b + v1)), (2, .int v2), (3, .int v3), (4, .int v4), (5, .int v5), (6, .int v6)] [.int v3] (by decide +kernel) rfl rfl ?_
      refine jIf_le C 30 64 (by decide +kernel : decode cX4_toAsk 27 = .ok (.ifCond .le 37, 3)) rfl rfl (fun c2 => ?_) (fun c2 => ?_)
      · have h := it1 h c2
        refine jSub [2, 4, 5] rfl ?_
        exact j_X4_toAsk_64 C hE h
      · have h := it2 h c2
        refine jB C [(.aload_n 0, 1, 0), (.aload_n 1, 1, 0), (.iload 6, 2, 0)] 34 [(0, .ref (b + v0)), (1, .ref (b + v1)), (2, .int v2), (3, .int v3), (4, .int v4), (5, .int v5), (6, .int v6)] [.int v6, .ref (b + v1), .ref (b + v0)] (by decide +kernel) rfl rfl ?_
        refine jcVN_I C 37 (rest := [.ref (b + v0)]) (ok_X5_glassOf t_v1 h) (by decide +kernel : decode cX4_toAsk 34 = .ok (.invokevirtual 96, 3)) rfl wn_961 wd_402 wp_9 wd_2 wd_403 ⟨rfl, rfl⟩ hd_X5_glassOf ⟨Nat.le_of_ble_eq_true rfl, Nat.le_of_ble_eq_true rfl⟩ t_v1 kX5 (by decide) rfl rfl rfl (Nat.le_of_ble_eq_true rfl) ⟨Nat.zero_le _, Nat.zero_le _⟩ (fun r4 S3 h => ?_)
        refine jB C [(.iload_n 3, 1, 0)] 38 [(0, .ref (b + v0)), (1, .ref (b + v1)), (2, .int v2), (3, .int v3), (4, .int v4), (5, .int v5), (6, .int v6)] [.int v3, .int r4, .ref (b + v0)] (by decide +kernel) rfl rfl ?_
        refine jcV_I C 41 (rest := []) (ok_X4_mostAlike t_v0 h) (by decide +kernel : decode cX4_toAsk 38 = .ok (.invokevirtual 108, 3)) rfl wd_971 wd_973 wp_84 wd_8 wd_974 ⟨rfl, rfl⟩ hd_X4_mostAlike ⟨Nat.le_of_ble_eq_true rfl, Nat.le_of_ble_eq_true rfl⟩ t_v0 kX4 (by decide) rfl rfl rfl (Nat.le_of_ble_eq_true rfl) ⟨Nat.zero_le _, Nat.zero_le _⟩ (fun r6 S5 h => ?_)
        refine jB C [(.istore 7, 2, 0), (.iload 7, 2, 0), (.iload 5, 2, 0)] 47 [(7, .int r6), (0, .ref (b + v0)), (1, .ref (b + v1)), (2, .int v2), (3, .int v3), (4, .int v4), (5, .int v5), (6, .int v6)] [.int v5, .int r6] (by decide +kernel) rfl rfl ?_
        refine jIcmp_ge C 50 58 (by decide +kernel : decode cX4_toAsk 47 = .ok (.if_icmp .ge 11, 3)) rfl rfl (fun c7 => ?_) (fun c7 => ?_)
        · have h := it1 h c7
          refine jB C [(.iinc 6 1, 3, 1)] 61 [(6, .int (v6 + 1)), (7, .int r6), (0, .ref (b + v0)), (1, .ref (b + v1)), (2, .int v2), (3, .int v3), (4, .int v4), (5, .int v5)] [] (by decide +kernel) rfl rfl ?_
          refine jGoto C 17 (by decide +kernel : decode cX4_toAsk 61 = .ok (.goto (-44), 3)) rfl ?_
          refine jSub [2, 3, 4, 5, 6, 7, 0] rfl ?_
          exact ih v4 v5 (v6 + 1) S5 h
        · have h := it2 h c7
          refine jB C [(.iload 7, 2, 0), (.istore 5, 2, 0), (.iload 6, 2, 0), (.istore 4, 2, 0), (.iinc 6 1, 3, 1)] 61 [(6, .int (v6 + 1)), (4, .int v6), (5, .int r6), (7, .int r6), (0, .ref (b + v0)), (1, .ref (b + v1)), (2, .int v2), (3, .int v3)] [] (by decide +kernel) rfl rfl ?_
          refine jGoto C 17 (by decide +kernel : decode cX4_toAsk 61 = .ok (.goto (-44), 3)) rfl ?_
          refine jSub [4, 5, 6, 7, 1, 2, 0] rfl ?_
          exact ih v6 r6 (v6 + 1) S5 h
theorem j_X4_toAsk_17 {p : Program} {l : Launch} {e : Env} {s : State} {m : MethodId} {args : Array Value} {below : List Frame} {meth : Method} {c : Code} {b : Nat} {D : va_G} {cy : Nat → ClassId} {G : Gm} {v0 : Nat} {v1 : Nat} {v2 : Int32} {v3 : Int32} {v4 : Int32} {v5 : Int32} {v6 : Int32} {S : St} {Q : Int32 → St → Prop} (C : CX p s m args meth c b D cy cX4_toAsk RX4 8 (some .int)) (hE : s.heap.size + 0 ≤ b + G.2.2) (t_v0 : ok G 3 v0) (t_v1 : ok G 4 v1) (h : f_X4_toAsk_17 G v0 v1 v2 v3 Q v4 v5 v6 S) : J p l e rm_X4_toAsk s m args below meth c b D cy 8 (zI b D cy below args s G Q) 0 0 G S 17 [(0, .ref (b + v0)), (1, .ref (b + v1)), (2, .int v2), (3, .int v3), (4, .int v4), (5, .int v5), (6, .int v6)] [] := by
  obtain ⟨n, h⟩ := h
  exact j_X4_toAsk_17_n C hE t_v0 t_v1 n v4 v5 v6 S h
set_option maxHeartbeats 4000000 in
set_option maxRecDepth 100000 in
theorem j_X4_toAsk {p : Program} {l : Launch} {e : Env} {s : State} {m : MethodId} {args : Array Value} {below : List Frame} {meth : Method} {c : Code} {b : Nat} {D : va_G} {cy : Nat → ClassId} {G : Gm} {v0 : Nat} {v1 : Nat} {v2 : Int32} {S : St} {Q : Int32 → St → Prop} (C : CX p s m args meth c b D cy cX4_toAsk RX4 8 (some .int)) (hE : s.heap.size + 0 ≤ b + G.2.2) (t_v0 : ok G 3 v0) (t_v1 : ok G 4 v1) (h : f_X4_toAsk G v0 v1 v2 Q S) : J p l e rm_X4_toAsk s m args below meth c b D cy 8 (zI b D cy below args s G Q) 0 0 G S 0 [(0, .ref (b + v0)), (1, .ref (b + v1)), (2, .int v2)] [] := by
  unfold f_X4_toAsk at h
  refine jB C [(.aload_n 0, 1, 0), (.aload_n 1, 1, 0)] 2 [(0, .ref (b + v0)), (1, .ref (b + v1)), (2, .int v2)] [.ref (b + v1), .ref (b + v0)] (by decide +kernel) rfl rfl ?_
  refine jcV_I C 5 (rest := []) (ok_X4_findScenes t_v0 t_v1 h) (by decide +kernel : decode cX4_toAsk 2 = .ok (.invokevirtual 81, 3)) rfl wd_954 wd_956 wp_82 wd_8 wd_957 ⟨rfl, rfl⟩ hd_X4_findScenes ⟨Nat.le_of_ble_eq_true rfl, Nat.le_of_ble_eq_true rfl⟩ t_v0 kX4 (by decide) rfl rfl rfl (Nat.le_of_ble_eq_true rfl) ⟨Nat.zero_le _, Nat.zero_le _⟩ (fun r2 S1 h => ?_)
  refine jB C [(.istore_n 3, 1, 0), (.iconst (-1), 1, (-1)), (.istore 4, 2, 0), (.sipush 257, 3, 257), (.istore 5, 2, 0), (.iconst 0, 1, 0), (.istore 6, 2, 0)] 17 [(6, .int 0), (5, .int 257), (4, .int (-1)), (3, .int r2), (0, .ref (b + v0)), (1, .ref (b + v1)), (2, .int v2)] [] (by decide +kernel) rfl rfl ?_
  refine jSub [4, 5, 6, 3, 2, 1, 0] rfl ?_
  exact j_X4_toAsk_17 C hE t_v0 t_v1 h
theorem ok_X4_toAsk {G : Gm} {v0 : Nat} {v1 : Nat} {v2 : Int32} {S : St} {Q : Int32 → St → Prop} (t_v0 : ok G 3 v0) (t_v1 : ok G 4 v1) (h : f_X4_toAsk G v0 v1 v2 Q S) : MT yX4_toAsk cX4_toAsk 8 (some .int) rm_X4_toAsk 0 0 (fun b => [.ref (b + v0), .ref (b + v1), .int v2]) G S (QI (fun r G1 S1 => G1 = G ∧ Q r S1)) := MT.ofJ (by decide) (fun b => [(0, .ref (b + v0)), (1, .ref (b + v1)), (2, .int v2)]) (fun b => rfl) (fun b => Nat.le_of_ble_eq_true rfl) (fun l b D cy p e s m below meth c C hE hn => j_X4_toAsk C hE t_v0 t_v1 h)
theorem hd_X4_toAsk : yX4_toAsk.cls ≠ "java/lang/invoke/MethodHandle" ∧ yX4_toAsk.cls ≠ "java/lang/invoke/VarHandle" ∧ (parseMethodDescriptor yX4_toAsk.desc).map (fun d => d.parameters.length) = some 2 := by decide +kernel
def f_X10_ask_26 (G : Gm) (u0 : Int32) (u1 : Nat) (u2 : Nat) (Q : Int32 → St → Prop) (S : St) : Prop :=
  f_X4_toAsk G u2 u1 u0 (fun r2 S1 => Q r2 S1) S
def f_X10_ask_9 (G : Gm) (v0 : Nat) (v1 : Int32) (Q : Int32 → St → Prop) (S : St) : Prop :=
  (∃ a1, S.2.2 v0 7 = some a1 ∧ (∃ a2, S.2.2 v0 0 = some a2 ∧ (if v1 = 0 then f_X10_ask_26 G 1 a2 a1 Q S else f_X10_ask_26 G 0 a2 a1 Q S)))
def f_X10_ask (G : Gm) (v0 : Nat) (v1 : Int32) (Q : Int32 → St → Prop) (S : St) : Prop :=
  (if v1 = 0 then f_X10_ask_9 G v0 v1 Q S else (if v1 = 1 then f_X10_ask_9 G v0 v1 Q S else Q (-1) S))
abbrev rm_X10_ask : Room := { frames := 5, cells := 0, slots := 0, locals := 120 }
set_option maxHeartbeats 4000000 in
set_option maxRecDepth 100000 in
theorem j_X10_ask_26 {p : Program} {l : Launch} {e : Env} {s : State} {m : MethodId} {args : Array Value} {below : List Frame} {meth : Method} {c : Code} {b : Nat} {D : va_G} {cy : Nat → ClassId} {G : Gm} {u0 : Int32} {u1 : Nat} {u2 : Nat} {S : St} {Q : Int32 → St → Prop} (C : CX p s m args meth c b D cy cX10_ask RX10 2 (some .int)) (hE : s.heap.size + 0 ≤ b + G.2.2) (t_u1 : ok G 4 u1) (t_u2 : ok G 3 u2) (h : f_X10_ask_26 G u0 u1 u2 Q S) : J p l e rm_X10_ask s m args below meth c b D cy 2 (zI b D cy below args s G Q) 0 0 G S 26 [] [.int u0, .ref (b + u1), .ref (b + u2)] := by
  unfold f_X10_ask_26 at h
  refine jcVN_I C 29 (rest := []) (ok_X4_toAsk t_u2 t_u1 h) (by decide +kernel : decode cX10_ask 26 = .ok (.invokevirtual 266, 3)) rfl wn_967 wd_969 wp_83 wd_8 wd_970 ⟨rfl, rfl⟩ hd_X4_toAsk ⟨Nat.le_of_ble_eq_true rfl, Nat.le_of_ble_eq_true rfl⟩ t_u2 kX4 (by decide) rfl rfl rfl (Nat.le_of_ble_eq_true rfl) ⟨Nat.zero_le _, Nat.zero_le _⟩ (fun r2 S1 h => ?_)
  refine jGoto C 33 (by decide +kernel : decode cX10_ask 29 = .ok (.goto 4, 3)) rfl ?_
  exact jRetI C (by decide +kernel : decode cX10_ask 33 = .ok (.ireturn, 1)) (Nat.le_refl _) (Nat.le_refl _) ⟨rfl, h⟩
set_option maxHeartbeats 4000000 in
set_option maxRecDepth 100000 in
theorem j_X10_ask_9 {p : Program} {l : Launch} {e : Env} {s : State} {m : MethodId} {args : Array Value} {below : List Frame} {meth : Method} {c : Code} {b : Nat} {D : va_G} {cy : Nat → ClassId} {G : Gm} {v0 : Nat} {v1 : Int32} {S : St} {Q : Int32 → St → Prop} (C : CX p s m args meth c b D cy cX10_ask RX10 2 (some .int)) (hE : s.heap.size + 0 ≤ b + G.2.2) (t_v0 : ok G 9 v0) (h : f_X10_ask_9 G v0 v1 Q S) : J p l e rm_X10_ask s m args below meth c b D cy 2 (zI b D cy below args s G Q) 0 0 G S 9 [(0, .ref (b + v0)), (1, .int v1)] [] := by
  unfold f_X10_ask_9 at h
  refine jB C [(.aload_n 0, 1, 0)] 10 [(0, .ref (b + v0)), (1, .int v1)] [.ref (b + v0)] (by decide +kernel) rfl rfl ?_
  obtain ⟨a1, e_a1, h⟩ := h
  refine jGetR C 13 (by decide +kernel : decode cX10_ask 10 = .ok (.getfield 56, 3)) rfl t_v0 kX10 7 (by decide) rfl rfl (by decide) wd_318 e_a1 rfl (fun t_a1 => ?_)
  refine jB C [(.aload_n 0, 1, 0)] 14 [(0, .ref (b + v0)), (1, .int v1)] [.ref (b + v0), .ref (b + a1)] (by decide +kernel) rfl rfl ?_
  obtain ⟨a2, e_a2, h⟩ := h
  refine jGetR C 17 (by decide +kernel : decode cX10_ask 14 = .ok (.getfield 14, 3)) rfl t_v0 kX10 0 (by decide) rfl rfl (by decide) wd_311 e_a2 rfl (fun t_a2 => ?_)
  refine jB C [(.iload_n 1, 1, 0)] 18 [(0, .ref (b + v0)), (1, .int v1)] [.int v1, .ref (b + a2), .ref (b + a1)] (by decide +kernel) rfl rfl ?_
  refine jIf_ne C 21 25 (by decide +kernel : decode cX10_ask 18 = .ok (.ifCond .ne 7, 3)) rfl rfl (fun c3 => ?_) (fun c3 => ?_)
  · have h := it2 h c3
    refine jB C [(.iconst 0, 1, 0)] 26 [(0, .ref (b + v0)), (1, .int v1)] [.int 0, .ref (b + a2), .ref (b + a1)] (by decide +kernel) rfl rfl ?_
    refine jSub [] rfl ?_
    exact j_X10_ask_26 C hE t_a2 t_a1 h
  · have h := it1 h c3
    refine jB C [(.iconst 1, 1, 1)] 22 [(0, .ref (b + v0)), (1, .int v1)] [.int 1, .ref (b + a2), .ref (b + a1)] (by decide +kernel) rfl rfl ?_
    refine jGoto C 26 (by decide +kernel : decode cX10_ask 22 = .ok (.goto 4, 3)) rfl ?_
    refine jSub [] rfl ?_
    exact j_X10_ask_26 C hE t_a2 t_a1 h
set_option maxHeartbeats 4000000 in
set_option maxRecDepth 100000 in
theorem j_X10_ask {p : Program} {l : Launch} {e : Env} {s : State} {m : MethodId} {args : Array Value} {below : List Frame} {meth : Method} {c : Code} {b : Nat} {D : va_G} {cy : Nat → ClassId} {G : Gm} {v0 : Nat} {v1 : Int32} {S : St} {Q : Int32 → St → Prop} (C : CX p s m args meth c b D cy cX10_ask RX10 2 (some .int)) (hE : s.heap.size + 0 ≤ b + G.2.2) (t_v0 : ok G 9 v0) (h : f_X10_ask G v0 v1 Q S) : J p l e rm_X10_ask s m args below meth c b D cy 2 (zI b D cy below args s G Q) 0 0 G S 0 [(0, .ref (b + v0)), (1, .int v1)] [] := by
  unfold f_X10_ask at h
  refine jB C [(.iload_n 1, 1, 0)] 1 [(0, .ref (b + v0)), (1, .int v1)] [.int v1] (by decide +kernel) rfl rfl ?_
  refine jIf_eq C 4 9 (by decide +kernel : decode cX10_ask 1 = .ok (.ifCond .eq 8, 3)) rfl rfl (fun c1 => ?_) (fun c1 => ?_)
  · have h := it1 h c1
    refine jSub [0, 1] rfl ?_
    exact j_X10_ask_9 C hE t_v0 h
  · have h := it2 h c1
    refine jB C [(.iload_n 1, 1, 0), (.iconst 1, 1, 1)] 6 [(0, .ref (b + v0)), (1, .int v1)] [.int 1, .int v1] (by decide +kernel) rfl rfl ?_
    refine jIcmp_ne C 9 32 (by decide +kernel : decode cX10_ask 6 = .ok (.if_icmp .ne 26, 3)) rfl rfl (fun c2 => ?_) (fun c2 => ?_)
    · have h := it2 h c2
      refine jB C [(.iconst (-1), 1, (-1))] 33 [(0, .ref (b + v0)), (1, .int v1)] [.int (-1)] (by decide +kernel) rfl rfl ?_
      exact jRetI C (by decide +kernel : decode cX10_ask 33 = .ok (.ireturn, 1)) (Nat.le_refl _) (Nat.le_refl _) ⟨rfl, h⟩
    · have h := it1 h c2
      refine jSub [0, 1] rfl ?_
      exact j_X10_ask_9 C hE t_v0 h
theorem ok_X10_ask {G : Gm} {v0 : Nat} {v1 : Int32} {S : St} {Q : Int32 → St → Prop} (t_v0 : ok G 9 v0) (h : f_X10_ask G v0 v1 Q S) : MT yX10_ask cX10_ask 2 (some .int) rm_X10_ask 0 0 (fun b => [.ref (b + v0), .int v1]) G S (QI (fun r G1 S1 => G1 = G ∧ Q r S1)) := MT.ofJ (by decide) (fun b => [(0, .ref (b + v0)), (1, .int v1)]) (fun b => rfl) (fun b => Nat.le_of_ble_eq_true rfl) (fun l b D cy p e s m below meth c C hE hn => j_X10_ask C hE t_v0 h)
theorem hd_X10_ask : yX10_ask.cls ≠ "java/lang/invoke/MethodHandle" ∧ yX10_ask.cls ≠ "java/lang/invoke/VarHandle" ∧ (parseMethodDescriptor yX10_ask.desc).map (fun d => d.parameters.length) = some 1 := by decide +kernel
def f_X10_asks (G : Gm) (v0 : Nat) (v1 : Int32) (v2 : Int32) (v3 : Int32) (Q : Int32 → St → Prop) (S : St) : Prop :=
  (∃ a1, S.2.2 v0 0 = some a1 ∧ f_X5_has G a1 v1 (fun r3 S2 => (if r3 = 0 then Q (-100) S2 else f_X10_isKind G v2 (fun r6 S5 => (if r6 = 0 then Q (-100) S5 else (if v3 = 0 then (∃ a14, S5.2.2 v0 4 = some a14 ∧ (∃ a15, S5.2.2 v0 0 = some a15 ∧ (∃ a16, S5.2.2 v0 0 = some a16 ∧ f_X5_lawInForce G a16 (fun r18 S17 => (∀ z, r18 = some z → ok G 7 z) ∧ f_X2_lensFor G a14 a15 r18 v1 v2 (fun r21 S20 => Q r21 S20) S17) S5))) else (if v3 = 1 then (∃ a10, S5.2.2 v0 4 = some a10 ∧ (∃ a11, S5.2.2 v0 0 = some a11 ∧ f_X2_growth G a10 a11 v1 v2 (fun r13 S12 => Q r13 S12) S5)) else Q (-100) S5)))) S2)) S)
abbrev rm_X10_asks : Room := { frames := 4, cells := 0, slots := 0, locals := 107 }
set_option maxHeartbeats 4000000 in
set_option maxRecDepth 100000 in
theorem j_X10_asks {p : Program} {l : Launch} {e : Env} {s : State} {m : MethodId} {args : Array Value} {below : List Frame} {meth : Method} {c : Code} {b : Nat} {D : va_G} {cy : Nat → ClassId} {G : Gm} {v0 : Nat} {v1 : Int32} {v2 : Int32} {v3 : Int32} {S : St} {Q : Int32 → St → Prop} (C : CX p s m args meth c b D cy cX10_asks RX10 4 (some .int)) (hE : s.heap.size + 0 ≤ b + G.2.2) (t_v0 : ok G 9 v0) (h : f_X10_asks G v0 v1 v2 v3 Q S) : J p l e rm_X10_asks s m args below meth c b D cy 4 (zI b D cy below args s G Q) 0 0 G S 0 [(0, .ref (b + v0)), (1, .int v1), (2, .int v2), (3, .int v3)] [] := by
  unfold f_X10_asks at h
  refine jB C [(.aload_n 0, 1, 0)] 1 [(0, .ref (b + v0)), (1, .int v1), (2, .int v2), (3, .int v3)] [.ref (b + v0)] (by decide +kernel) rfl rfl ?_
  obtain ⟨a1, e_a1, h⟩ := h
  refine jGetR C 4 (by decide +kernel : decode cX10_asks 1 = .ok (.getfield 14, 3)) rfl t_v0 kX10 0 (by decide) rfl rfl (by decide) wd_311 e_a1 rfl (fun t_a1 => ?_)
  refine jB C [(.iload_n 1, 1, 0)] 5 [(0, .ref (b + v0)), (1, .int v1), (2, .int v2), (3, .int v3)] [.int v1, .ref (b + a1)] (by decide +kernel) rfl rfl ?_
  refine jcVN_I C 8 (rest := []) (ok_X5_has t_a1 h) (by decide +kernel : decode cX10_asks 5 = .ok (.invokevirtual 92, 3)) rfl wn_395 wd_373 wp_4 wd_2 wd_374 ⟨rfl, rfl⟩ hd_X5_has ⟨Nat.le_of_ble_eq_true rfl, Nat.le_of_ble_eq_true rfl⟩ t_a1 kX5 (by decide) rfl rfl rfl (Nat.le_of_ble_eq_true rfl) ⟨Nat.zero_le _, Nat.zero_le _⟩ (fun r3 S2 h => ?_)
  refine jIf_eq C 11 18 (by decide +kernel : decode cX10_asks 8 = .ok (.ifCond .eq 10, 3)) rfl rfl (fun c4 => ?_) (fun c4 => ?_)
  · have h := it1 h c4
    refine jB C [(.bipush (-100), 2, (-100))] 20 [(0, .ref (b + v0)), (1, .int v1), (2, .int v2), (3, .int v3)] [.int (-100)] (by decide +kernel) rfl rfl ?_
    exact jRetI C (by decide +kernel : decode cX10_asks 20 = .ok (.ireturn, 1)) (Nat.le_refl _) (Nat.le_refl _) ⟨rfl, h⟩
  · have h := it2 h c4
    refine jB C [(.iload_n 2, 1, 0)] 12 [(0, .ref (b + v0)), (1, .int v1), (2, .int v2), (3, .int v3)] [.int v2] (by decide +kernel) rfl rfl ?_
    refine jcS_I C 15 (rest := []) (ok_X10_isKind h) (by decide +kernel : decode cX10_asks 12 = .ok (.invokestatic 125, 3)) rfl wd_498 wd_376 wd_1 wd_377 ⟨rfl, rfl⟩ hd_X10_isKind ⟨Nat.le_of_ble_eq_true rfl, Nat.le_of_ble_eq_true rfl⟩ rfl rfl (Nat.le_of_ble_eq_true rfl) ⟨Nat.zero_le _, Nat.zero_le _⟩ (fun r6 S5 h => ?_)
    refine jIf_ne C 18 21 (by decide +kernel : decode cX10_asks 15 = .ok (.ifCond .ne 6, 3)) rfl rfl (fun c7 => ?_) (fun c7 => ?_)
    · have h := it2 h c7
      refine jB C [(.iload_n 3, 1, 0)] 22 [(0, .ref (b + v0)), (1, .int v1), (2, .int v2), (3, .int v3)] [.int v3] (by decide +kernel) rfl rfl ?_
      refine jIf_ne C 25 46 (by decide +kernel : decode cX10_asks 22 = .ok (.ifCond .ne 24, 3)) rfl rfl (fun c8 => ?_) (fun c8 => ?_)
      · have h := it2 h c8
        refine jB C [(.iload_n 3, 1, 0), (.iconst 1, 1, 1)] 48 [(0, .ref (b + v0)), (1, .int v1), (2, .int v2), (3, .int v3)] [.int 1, .int v3] (by decide +kernel) rfl rfl ?_
        refine jIcmp_ne C 51 67 (by decide +kernel : decode cX10_asks 48 = .ok (.if_icmp .ne 19, 3)) rfl rfl (fun c9 => ?_) (fun c9 => ?_)
        · have h := it2 h c9
          refine jB C [(.bipush (-100), 2, (-100))] 69 [(0, .ref (b + v0)), (1, .int v1), (2, .int v2), (3, .int v3)] [.int (-100)] (by decide +kernel) rfl rfl ?_
          exact jRetI C (by decide +kernel : decode cX10_asks 69 = .ok (.ireturn, 1)) (Nat.le_refl _) (Nat.le_refl _) ⟨rfl, h⟩
        · have h := it1 h c9
          refine jB C [(.aload_n 0, 1, 0)] 52 [(0, .ref (b + v0)), (1, .int v1), (2, .int v2), (3, .int v3)] [.ref (b + v0)] (by decide +kernel) rfl rfl ?_
          obtain ⟨a10, e_a10, h⟩ := h
          refine jGetR C 55 (by decide +kernel : decode cX10_asks 52 = .ok (.getfield 35, 3)) rfl t_v0 kX10 4 (by decide) rfl rfl (by decide) wd_315 e_a10 rfl (fun t_a10 => ?_)
          refine jB C [(.aload_n 0, 1, 0)] 56 [(0, .ref (b + v0)), (1, .int v1), (2, .int v2), (3, .int v3)] [.ref (b + v0), .ref (b + a10)] (by decide +kernel) rfl rfl ?_
          obtain ⟨a11, e_a11, h⟩ := h
          refine jGetR C 59 (by decide +kernel : decode cX10_asks 56 = .ok (.getfield 14, 3)) rfl t_v0 kX10 0 (by decide) rfl rfl (by decide) wd_311 e_a11 rfl (fun t_a11 => ?_)
          refine jB C [(.iload_n 1, 1, 0), (.iload_n 2, 1, 0)] 61 [(0, .ref (b + v0)), (1, .int v1), (2, .int v2), (3, .int v3)] [.int v2, .int v1, .ref (b + a11), .ref (b + a10)] (by decide +kernel) rfl rfl ?_
          refine jcVN_I C 64 (rest := []) (ok_X2_growth t_a10 t_a11 h) (by decide +kernel : decode cX10_asks 61 = .ok (.invokevirtual 136, 3)) rfl wn_509 wd_511 wp_26 wd_4 wd_512 ⟨rfl, rfl⟩ hd_X2_growth ⟨Nat.le_of_ble_eq_true rfl, Nat.le_of_ble_eq_true rfl⟩ t_a10 kX2 (by decide) rfl rfl rfl (Nat.le_of_ble_eq_true rfl) ⟨Nat.zero_le _, Nat.zero_le _⟩ (fun r13 S12 h => ?_)
          refine jGoto C 69 (by decide +kernel : decode cX10_asks 64 = .ok (.goto 5, 3)) rfl ?_
          exact jRetI C (by decide +kernel : decode cX10_asks 69 = .ok (.ireturn, 1)) (Nat.le_refl _) (Nat.le_refl _) ⟨rfl, h⟩
      · have h := it1 h c8
        refine jB C [(.aload_n 0, 1, 0)] 26 [(0, .ref (b + v0)), (1, .int v1), (2, .int v2), (3, .int v3)] [.ref (b + v0)] (by decide +kernel) rfl rfl ?_
        obtain ⟨a14, e_a14, h⟩ := h
        refine jGetR C 29 (by decide +kernel : decode cX10_asks 26 = .ok (.getfield 35, 3)) rfl t_v0 kX10 4 (by decide) rfl rfl (by decide) wd_315 e_a14 rfl (fun t_a14 => ?_)
        refine jB C [(.aload_n 0, 1, 0)] 30 [(0, .ref (b + v0)), (1, .int v1), (2, .int v2), (3, .int v3)] [.ref (b + v0), .ref (b + a14)] (by decide +kernel) rfl rfl ?_
        obtain ⟨a15, e_a15, h⟩ := h
        refine jGetR C 33 (by decide +kernel : decode cX10_asks 30 = .ok (.getfield 14, 3)) rfl t_v0 kX10 0 (by decide) rfl rfl (by decide) wd_311 e_a15 rfl (fun t_a15 => ?_)
        refine jB C [(.aload_n 0, 1, 0)] 34 [(0, .ref (b + v0)), (1, .int v1), (2, .int v2), (3, .int v3)] [.ref (b + v0), .ref (b + a15), .ref (b + a14)] (by decide +kernel) rfl rfl ?_
        obtain ⟨a16, e_a16, h⟩ := h
        refine jGetR C 37 (by decide +kernel : decode cX10_asks 34 = .ok (.getfield 14, 3)) rfl t_v0 kX10 0 (by decide) rfl rfl (by decide) wd_311 e_a16 rfl (fun t_a16 => ?_)
        refine jcVN_O C 40 (rest := [.ref (b + a15), .ref (b + a14)]) (ok_X5_lawInForce t_a16 h) (by decide +kernel : decode cX10_asks 37 = .ok (.invokevirtual 128, 3)) rfl wn_499 wd_447 wp_15 wd_2 wd_448 ⟨rfl, rfl⟩ hd_X5_lawInForce ⟨Nat.le_of_ble_eq_true rfl, Nat.le_of_ble_eq_true rfl⟩ t_a16 kX5 (by decide) rfl rfl rfl (Nat.le_of_ble_eq_true rfl) ⟨Nat.zero_le _, Nat.zero_le _⟩ (fun r18 S17 h => ?_)
        obtain ⟨t19, h⟩ := h
        refine jB C [(.iload_n 1, 1, 0), (.iload_n 2, 1, 0)] 42 [(0, .ref (b + v0)), (1, .int v1), (2, .int v2), (3, .int v3)] [.int v2, .int v1, rv b r18, .ref (b + a15), .ref (b + a14)] (by decide +kernel) rfl rfl ?_
        refine jcVN_I C 45 (rest := []) (ok_X2_lensFor t_a14 t_a15 t19 h) (by decide +kernel : decode cX10_asks 42 = .ok (.invokevirtual 132, 3)) rfl wn_500 wd_502 wp_24 wd_4 wd_503 ⟨rfl, rfl⟩ hd_X2_lensFor ⟨Nat.le_of_ble_eq_true rfl, Nat.le_of_ble_eq_true rfl⟩ t_a14 kX2 (by decide) rfl rfl rfl (Nat.le_of_ble_eq_true rfl) ⟨Nat.zero_le _, Nat.zero_le _⟩ (fun r21 S20 h => ?_)
        exact jRetI C (by decide +kernel : decode cX10_asks 45 = .ok (.ireturn, 1)) (Nat.le_refl _) (Nat.le_refl _) ⟨rfl, h⟩
    · have h := it1 h c7
      refine jB C [(.bipush (-100), 2, (-100))] 20 [(0, .ref (b + v0)), (1, .int v1), (2, .int v2), (3, .int v3)] [.int (-100)] (by decide +kernel) rfl rfl ?_
      exact jRetI C (by decide +kernel : decode cX10_asks 20 = .ok (.ireturn, 1)) (Nat.le_refl _) (Nat.le_refl _) ⟨rfl, h⟩
theorem ok_X10_asks {G : Gm} {v0 : Nat} {v1 : Int32} {v2 : Int32} {v3 : Int32} {S : St} {Q : Int32 → St → Prop} (t_v0 : ok G 9 v0) (h : f_X10_asks G v0 v1 v2 v3 Q S) : MT yX10_asks cX10_asks 4 (some .int) rm_X10_asks 0 0 (fun b => [.ref (b + v0), .int v1, .int v2, .int v3]) G S (QI (fun r G1 S1 => G1 = G ∧ Q r S1)) := MT.ofJ (by decide) (fun b => [(0, .ref (b + v0)), (1, .int v1), (2, .int v2), (3, .int v3)]) (fun b => rfl) (fun b => Nat.le_of_ble_eq_true rfl) (fun l b D cy p e s m below meth c C hE hn => j_X10_asks C hE t_v0 h)
theorem hd_X10_asks : yX10_asks.cls ≠ "java/lang/invoke/MethodHandle" ∧ yX10_asks.cls ≠ "java/lang/invoke/VarHandle" ∧ (parseMethodDescriptor yX10_asks.desc).map (fun d => d.parameters.length) = some 3 := by decide +kernel
