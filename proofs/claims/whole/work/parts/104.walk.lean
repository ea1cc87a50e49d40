def f_X4_learnBest_37_n (G : Gm) (k17 : Int32 → St → Prop) (v0 : Nat) (v1 : Int32) (v3 : Int32) (v4 : Int32) (Q : St → Prop) : Nat → Int32 → St → Prop
  | 0, _, _ => False
  | n + 1, v5, S => (if v1 ≤ v5 then k17 (v3 + (-1)) S else (∃ a2, S.2.2 v0 8 = some a2 ∧ (∃ a3, S.2.2 v0 8 = some a3 ∧ (vp_in v3 (G.2.1 a3) ∧ f_X4_bestWith G v0 v4 v5 v3 (fun r6 S5 => (vp_in v3 (G.2.1 a2) ∧ ∀ S8, S8 = uI S5 a2 v3.toNatClampNeg (mx (S.1 a3 v3.toNatClampNeg) r6) → (f_X4_learnBest_37_n G k17 v0 v1 v3 v4 Q n) (v5 + 1) S8)) S))))
def f_X4_learnBest_37 (G : Gm) (k17 : Int32 → St → Prop) (v0 : Nat) (v1 : Int32) (v3 : Int32) (v4 : Int32) (Q : St → Prop) (v5 : Int32) (S : St) : Prop := ∃ n, f_X4_learnBest_37_n G k17 v0 v1 v3 v4 Q n v5 S
def f_X4_learnBest_17_n (G : Gm) (v0 : Nat) (v1 : Int32) (Q : St → Prop) : Nat → Int32 → St → Prop
  | 0, _, _ => False
  | n + 1, v3, S => (if v3 < 0 then Q S else f_J6_bitCount_0f7a4 G v3 (fun r3 S2 => (∃ a4, S2.2.2 v0 8 = some a4 ∧ (vp_in v3 (G.2.1 a4) ∧ ∀ S6, S6 = uI S2 a4 v3.toNatClampNeg 0 → f_X4_learnBest_37 G (f_X4_learnBest_17_n G v0 v1 Q n) v0 v1 v3 r3 Q 0 S6))) S)
def f_X4_learnBest_17 (G : Gm) (v0 : Nat) (v1 : Int32) (Q : St → Prop) (v3 : Int32) (S : St) : Prop := ∃ n, f_X4_learnBest_17_n G v0 v1 Q n v3 S
def f_X4_learnBest (G : Gm) (v0 : Nat) (v1 : Int32) (Q : St → Prop) (S : St) : Prop :=
  (∀ x1 : Int32, x1 = (1 <<< ((v1 : Int32) &&& 31)) - 1 → (∃ a2, S.2.2 v0 8 = some a2 ∧ (vp_in x1 (G.2.1 a2) ∧ ∀ S4, S4 = uI S a2 x1.toNatClampNeg 0 → (∀ x5 : Int32, x5 = x1 - 1 → f_X4_learnBest_17 G v0 v1 Q x5 S4))))
abbrev rm_X4_learnBest : Room := { frames := 1, cells := 0, slots := 0, locals := 30 }
set_option maxHeartbeats 4000000 in
set_option maxRecDepth 100000 in
theorem j_X4_learnBest_37_n {p : Program} {l : Launch} {e : Env} {s : State} {m : MethodId} {args : Array Value} {below : List Frame} {meth : Method} {c : Code} {b : Nat} {D : va_G} {cy : Nat → ClassId} {G : Gm} {k17 : Int32 → St → Prop} {v0 : Nat} {v1 : Int32} {v3 : Int32} {v4 : Int32} {Q : St → Prop} (C : CX p s m args meth c b D cy cX4_learnBest RX4 6 none) (hE : s.heap.size + 0 ≤ b + G.2.2) (t_v0 : ok G 3 v0) (hk17 : ∀ v3' S, k17 v3' S → J p l e rm_X4_learnBest s m args below meth c b D cy 6 (zV b D cy below args s G Q) 0 0 G S 17 [(0, .ref (b + v0)), (1, .int v1), (3, .int (v3'))] []) : ∀ n (v5 : Int32) S, f_X4_learnBest_37_n G k17 v0 v1 v3 v4 Q n v5 S → J p l e rm_X4_learnBest s m args below meth c b D cy 6 (zV b D cy below args s G Q) 0 0 G S 37 [(0, .ref (b + v0)), (1, .int v1), (3, .int v3), (4, .int v4), (5, .int v5)] [] := by
  intro n
  induction n with
  | zero => intro v5 S h; exact h.elim
  | succ n ih =>
    intro v5 S h
    unfold f_X4_learnBest_37_n at h
    refine jB C [(.iload 5, 2, 0), (.iload_n 1, 1, 0)] 40 [(0, .ref (b + v0)), (1, .int v1), (3, .int v3), (4, .int v4), (5, .int v5)] [.int v1, .int v5] (by decide +kernel) rfl rfl ?_
    refine jIcmp_ge C 43 73 (by decide +kernel : decode cX4_learnBest 40 = .ok (.if_icmp .ge 33, 3)) rfl rfl (fun c1 => ?_) (fun c1 => ?_)
    · have h := it1 h c1
      refine jB C [(.iinc 3 (-1), 3, (-1))] 76 [(3, .int (v3 + (-1))), (0, .ref (b + v0)), (1, .int v1), (4, .int v4), (5, .int v5)] [] (by decide +kernel) rfl rfl ?_
      refine jGoto C 17 (by decide +kernel : decode cX4_learnBest 76 = .ok (.goto (-59), 3)) rfl ?_
      refine jSub [1, 2, 0] rfl ?_
      exact hk17 (v3 + (-1)) S h
    · have h := it2 h c1
      refine jB C [(.aload_n 0, 1, 0)] 44 [(0, .ref (b + v0)), (1, .int v1), (3, .int v3), (4, .int v4), (5, .int v5)] [.ref (b + v0)] (by decide +kernel) rfl rfl ?_
      obtain ⟨a2, e_a2, h⟩ := h
      refine jGetR C 47 (by decide +kernel : decode cX4_learnBest 44 = .ok (.getfield 40, 3)) rfl t_v0 kX4 8 (by decide) rfl rfl (by decide) wd_199 e_a2 rfl (fun t_a2 => ?_)
      refine jB C [(.iload_n 3, 1, 0), (.aload_n 0, 1, 0)] 49 [(0, .ref (b + v0)), (1, .int v1), (3, .int v3), (4, .int v4), (5, .int v5)] [.ref (b + v0), .int v3, .ref (b + a2)] (by decide +kernel) rfl rfl ?_
      obtain ⟨a3, e_a3, h⟩ := h
      refine jGetR C 52 (by decide +kernel : decode cX4_learnBest 49 = .ok (.getfield 40, 3)) rfl t_v0 kX4 8 (by decide) rfl rfl (by decide) wd_199 e_a3 rfl (fun t_a3 => ?_)
      refine jB C [(.iload_n 3, 1, 0)] 53 [(0, .ref (b + v0)), (1, .int v1), (3, .int v3), (4, .int v4), (5, .int v5)] [.int v3, .ref (b + a3), .int v3, .ref (b + a2)] (by decide +kernel) rfl rfl ?_
      obtain ⟨y4, h⟩ := h
      refine jIald C 54 (by decide +kernel : decode cX4_learnBest 53 = .ok (.iaload, 1)) rfl t_a3 y4 ?_
      refine jB C [(.aload_n 0, 1, 0), (.iload 4, 2, 0), (.iload 5, 2, 0), (.iload_n 3, 1, 0)] 60 [(0, .ref (b + v0)), (1, .int v1), (3, .int v3), (4, .int v4), (5, .int v5)] [.int v3, .int v5, .int v4, .ref (b + v0), .int (S.1 a3 v3.toNatClampNeg), .int v3, .ref (b + a2)] (by decide +kernel) rfl rfl ?_
      refine jcV_I C 63 (rest := [.int (S.1 a3 v3.toNatClampNeg), .int v3, .ref (b + a2)]) (ok_X4_bestWith t_v0 h) (by decide +kernel : decode cX4_learnBest 60 = .ok (.invokevirtual 146, 3)) rfl wd_1012 wd_1014 wp_89 wd_8 wd_1015 ⟨rfl, rfl⟩ hd_X4_bestWith ⟨Nat.le_of_ble_eq_true rfl, Nat.le_of_ble_eq_true rfl⟩ t_v0 kX4 (by decide) rfl rfl rfl (Nat.le_of_ble_eq_true rfl) ⟨Nat.zero_le _, Nat.zero_le _⟩ (fun r6 S5 h => ?_)
      refine jMax C 66 (by decide +kernel : decode cX4_learnBest 63 = .ok (.invokestatic 111, 3)) rfl wd_975 (Nat.le_of_ble_eq_true rfl) (Nat.le_of_ble_eq_true rfl) (Nat.le_of_ble_eq_true rfl) ?_
      obtain ⟨y7, h⟩ := h
      refine jIast C 67 (by decide +kernel : decode cX4_learnBest 66 = .ok (.iastore, 1)) rfl hE t_a2 y7 ?_
      refine jTopS (fun S8 e_S8 => ?_)
      have h := h S8 e_S8
      refine jB C [(.iinc 5 1, 3, 1)] 70 [(5, .int (v5 + 1)), (0, .ref (b + v0)), (1, .int v1), (3, .int v3), (4, .int v4)] [] (by decide +kernel) rfl rfl ?_
      refine jGoto C 37 (by decide +kernel : decode cX4_learnBest 70 = .ok (.goto (-33), 3)) rfl ?_
      refine jSub [1, 2, 3, 4, 0] rfl ?_
      exact ih (v5 + 1) S8 h
theorem j_X4_learnBest_37 {p : Program} {l : Launch} {e : Env} {s : State} {m : MethodId} {args : Array Value} {below : List Frame} {meth : Method} {c : Code} {b : Nat} {D : va_G} {cy : Nat → ClassId} {G : Gm} {k17 : Int32 → St → Prop} {v0 : Nat} {v1 : Int32} {v3 : Int32} {v4 : Int32} {v5 : Int32} {S : St} {Q : St → Prop} (C : CX p s m args meth c b D cy cX4_learnBest RX4 6 none) (hE : s.heap.size + 0 ≤ b + G.2.2) (t_v0 : ok G 3 v0) (hk17 : ∀ v3' S, k17 v3' S → J p l e rm_X4_learnBest s m args below meth c b D cy 6 (zV b D cy below args s G Q) 0 0 G S 17 [(0, .ref (b + v0)), (1, .int v1), (3, .int (v3'))] []) (h : f_X4_learnBest_37 G k17 v0 v1 v3 v4 Q v5 S) : J p l e rm_X4_learnBest s m args below meth c b D cy 6 (zV b D cy below args s G Q) 0 0 G S 37 [(0, .ref (b + v0)), (1, .int v1), (3, .int v3), (4, .int v4), (5, .int v5)] [] := by
  obtain ⟨n, h⟩ := h
  exact j_X4_learnBest_37_n C hE t_v0 hk17 n v5 S h
set_option maxHeartbeats 4000000 in
set_option maxRecDepth 100000 in
theorem j_X4_learnBest_17_n {p : Program} {l : Launch} {e : Env} {s : State} {m : MethodId} {args : Array Value} {below : List Frame} {meth : Method} {c : Code} {b : Nat} {D : va_G} {cy : Nat → ClassId} {G : Gm} {v0 : Nat} {v1 : Int32} {Q : St → Prop} (C : CX p s m args meth c b D cy cX4_learnBest RX4 6 none) (hE : s.heap.size + 0 ≤ b + G.2.2) (t_v0 : ok G 3 v0) : ∀ n (v3 : Int32) S, f_X4_learnBest_17_n G v0 v1 Q n v3 S → J p l e rm_X4_learnBest s m args below meth c b D cy 6 (zV b D cy below args s G Q) 0 0 G S 17 [(0, .ref (b + v0)), (1, .int v1), (3, .int v3)] [] := by
  intro n
  induction n with
  | zero => intro v3 S h; exact h.elim
  | succ n ih =>
    intro v3 S h
    unfold f_X4_learnBest_17_n at h
    refine jB C [(.iload_n 3, 1, 0)] 18 [(0, .ref (b + v0)), (1, .int v1), (3, .int v3)] [.int v3] (by decide +kernel) rfl rfl ?_
    refine jIf_lt C 21 79 (by decide +kernel : decode cX4_learnBest 18 = .ok (.ifCond .lt 61, 3)) rfl rfl (fun c1 => ?_) (fun c1 => ?_)
    · have h := it1 h c1
      exact jRetV C (by decide +kernel : decode cX4_learnBest 79 = .ok (.return_, 1)) (Nat.le_refl _) (Nat.le_refl _) ⟨rfl, h⟩
    · have h := it2 h c1
      refine jB C [(.iload_n 3, 1, 0)] 22 [(0, .ref (b + v0)), (1, .int v1), (3, .int v3)] [.int v3] (by decide +kernel) rfl rfl ?_
      refine jcS_I C 25 (rest := []) (ok_J6_bitCount_0f7a4 h) (by decide +kernel : decode cX4_learnBest 22 = .ok (.invokestatic 141, 3)) rfl wd_1006 wd_1007 wd_19 wd_1008 ⟨rfl, rfl⟩ hd_J6_bitCount_0f7a4 ⟨Nat.le_of_ble_eq_true rfl, Nat.le_of_ble_eq_true rfl⟩ rfl rfl (Nat.le_of_ble_eq_true rfl) ⟨Nat.zero_le _, Nat.zero_le _⟩ (fun r3 S2 h => ?_)
      refine jB C [(.istore 4, 2, 0), (.aload_n 0, 1, 0)] 28 [(4, .int r3), (0, .ref (b + v0)), (1, .int v1), (3, .int v3)] [.ref (b + v0)] (by decide +kernel) rfl rfl ?_
      obtain ⟨a4, e_a4, h⟩ := h
      refine jGetR C 31 (by decide +kernel : decode cX4_learnBest 28 = .ok (.getfield 40, 3)) rfl t_v0 kX4 8 (by decide) rfl rfl (by decide) wd_199 e_a4 rfl (fun t_a4 => ?_)
      refine jB C [(.iload_n 3, 1, 0), (.iconst 0, 1, 0)] 33 [(4, .int r3), (0, .ref (b + v0)), (1, .int v1), (3, .int v3)] [.int 0, .int v3, .ref (b + a4)] (by decide +kernel) rfl rfl ?_
      obtain ⟨y5, h⟩ := h
      refine jIast C 34 (by decide +kernel : decode cX4_learnBest 33 = .ok (.iastore, 1)) rfl hE t_a4 y5 ?_
      refine jTopS (fun S6 e_S6 => ?_)
      have h := h S6 e_S6
      refine jB C [(.iconst 0, 1, 0), (.istore 5, 2, 0)] 37 [(5, .int 0), (4, .int r3), (0, .ref (b + v0)), (1, .int v1), (3, .int v3)] [] (by decide +kernel) rfl rfl ?_
      refine jSub [2, 3, 4, 1, 0] rfl ?_
      exact j_X4_learnBest_37 C hE t_v0 ih h
theorem j_X4_learnBest_17 {p : Program} {l : Launch} {e : Env} {s : State} {m : MethodId} {args : Array Value} {below : List Frame} {meth : Method} {c : Code} {b : Nat} {D : va_G} {cy : Nat → ClassId} {G : Gm} {v0 : Nat} {v1 : Int32} {v3 : Int32} {S : St} {Q : St → Prop} (C : CX p s m args meth c b D cy cX4_learnBest RX4 6 none) (hE : s.heap.size + 0 ≤ b + G.2.2) (t_v0 : ok G 3 v0) (h : f_X4_learnBest_17 G v0 v1 Q v3 S) : J p l e rm_X4_learnBest s m args below meth c b D cy 6 (zV b D cy below args s G Q) 0 0 G S 17 [(0, .ref (b + v0)), (1, .int v1), (3, .int v3)] [] := by
  obtain ⟨n, h⟩ := h
  exact j_X4_learnBest_17_n C hE t_v0 n v3 S h
set_option maxHeartbeats 4000000 in
set_option maxRecDepth 100000 in
theorem j_X4_learnBest {p : Program} {l : Launch} {e : Env} {s : State} {m : MethodId} {args : Array Value} {below : List Frame} {meth : Method} {c : Code} {b : Nat} {D : va_G} {cy : Nat → ClassId} {G : Gm} {v0 : Nat} {v1 : Int32} {S : St} {Q : St → Prop} (C : CX p s m args meth c b D cy cX4_learnBest RX4 6 none) (hE : s.heap.size + 0 ≤ b + G.2.2) (t_v0 : ok G 3 v0) (h : f_X4_learnBest G v0 v1 Q S) : J p l e rm_X4_learnBest s m args below meth c b D cy 6 (zV b D cy below args s G Q) 0 0 G S 0 [(0, .ref (b + v0)), (1, .int v1)] [] := by
  unfold f_X4_learnBest at h
  refine jB C [(.iconst 1, 1, 1), (.iload_n 1, 1, 0), (.ishl, 1, 0), (.iconst 1, 1, 1), (.isub, 1, 0)] 5 [(0, .ref (b + v0)), (1, .int v1)] [.int ((1 <<< ((v1 : Int32) &&& 31)) - 1)] (by decide +kernel) rfl rfl ?_
  refine jTopI (fun x1 e_x1 => ?_)
  have h := h x1 e_x1
  refine jB C [(.istore_n 2, 1, 0), (.aload_n 0, 1, 0)] 7 [(2, .int x1), (0, .ref (b + v0)), (1, .int v1)] [.ref (b + v0)] (by decide +kernel) rfl rfl ?_
  obtain ⟨a2, e_a2, h⟩ := h
  refine jGetR C 10 (by decide +kernel : decode cX4_learnBest 7 = .ok (.getfield 40, 3)) rfl t_v0 kX4 8 (by decide) rfl rfl (by decide) wd_199 e_a2 rfl (fun t_a2 => ?_)
  refine jB C [(.iload_n 2, 1, 0), (.iconst 0, 1, 0)] 12 [(2, .int x1), (0, .ref (b + v0)), (1, .int v1)] [.int 0, .int x1, .ref (b + a2)] (by decide +kernel) rfl rfl ?_
  obtain ⟨y3, h⟩ := h
  refine jIast C 13 (by decide +kernel : decode cX4_learnBest 12 = .ok (.iastore, 1)) rfl hE t_a2 y3 ?_
  refine jTopS (fun S4 e_S4 => ?_)
  have h := h S4 e_S4
  refine jB C [(.iload_n 2, 1, 0), (.iconst 1, 1, 1), (.isub, 1, 0)] 16 [(2, .int x1), (0, .ref (b + v0)), (1, .int v1)] [.int (x1 - 1)] (by decide +kernel) rfl rfl ?_
  refine jTopI (fun x5 e_x5 => ?_)
  have h := h x5 e_x5
  refine jB C [(.istore_n 3, 1, 0)] 17 [(3, .int x5), (2, .int x1), (0, .ref (b + v0)), (1, .int v1)] [] (by decide +kernel) rfl rfl ?_
  refine jSub [2, 3, 0] rfl ?_
  exact j_X4_learnBest_17 C hE t_v0 h
theorem ok_X4_learnBest {G : Gm} {v0 : Nat} {v1 : Int32} {S : St} {Q : St → Prop} (t_v0 : ok G 3 v0) (h : f_X4_learnBest G v0 v1 Q S) : MT yX4_learnBest cX4_learnBest 6 none rm_X4_learnBest 0 0 (fun b => [.ref (b + v0), .int v1]) G S (QV (fun G1 S1 => G1 = G ∧ Q S1)) := MT.ofJ (by decide) (fun b => [(0, .ref (b + v0)), (1, .int v1)]) (fun b => rfl) (fun b => Nat.le_of_ble_eq_true rfl) (fun l b D cy p e s m below meth c C hE hn => j_X4_learnBest C hE t_v0 h)
theorem hd_X4_learnBest : yX4_learnBest.cls ≠ "java/lang/invoke/MethodHandle" ∧ yX4_learnBest.cls ≠ "java/lang/invoke/VarHandle" ∧ (parseMethodDescriptor yX4_learnBest.desc).map (fun d => d.parameters.length) = some 1 := by decide +kernel
def f_X4_firstBest_3_n (G : Gm) (v0 : Nat) (v1 : Int32) (v2 : Int32) (v3 : Int32) (Q : Int32 → St → Prop) : Nat → Int32 → St → Prop
  | 0, _, _ => False
  | n + 1, v4, S => (if v2 ≤ v4 then Q (-1) S else (if v3 < 0 then (f_X4_firstBest_3_n G v0 v1 v2 v3 Q n) (v4 + 1) S else (∃ a3, S.2.2 v0 8 = some a3 ∧ (if (nI (G.2.1 a3)) ≤ v3 then (f_X4_firstBest_3_n G v0 v1 v2 v3 Q n) (v4 + 1) S else f_X4_bestWith G v0 v1 v4 v3 (fun r6 S5 => (∃ a7, S5.2.2 v0 8 = some a7 ∧ (vp_in v3 (G.2.1 a7) ∧ (if r6 = (S5.1 a7 v3.toNatClampNeg) then Q v4 S5 else (f_X4_firstBest_3_n G v0 v1 v2 v3 Q n) (v4 + 1) S5)))) S))))
def f_X4_firstBest_3 (G : Gm) (v0 : Nat) (v1 : Int32) (v2 : Int32) (v3 : Int32) (Q : Int32 → St → Prop) (v4 : Int32) (S : St) : Prop := ∃ n, f_X4_firstBest_3_n G v0 v1 v2 v3 Q n v4 S
def f_X4_firstBest (G : Gm) (v0 : Nat) (v1 : Int32) (v2 : Int32) (v3 : Int32) (Q : Int32 → St → Prop) (S : St) : Prop :=
  f_X4_firstBest_3 G v0 v1 v2 v3 Q 0 S
abbrev rm_X4_firstBest : Room := { frames := 1, cells := 0, slots := 0, locals := 25 }
set_option maxHeartbeats 4000000 in
set_option maxRecDepth 100000 in
theorem j_X4_firstBest_3_n {p : Program} {l : Launch} {e : Env} {s : State} {m : MethodId} {args : Array Value} {below : List Frame} {meth : Method} {c : Code} {b : Nat} {D : va_G} {cy : Nat → ClassId} {G : Gm} {v0 : Nat} {v1 : Int32} {v2 : Int32} {v3 : Int32} {Q : Int32 → St → Prop} (C : CX p s m args meth c b D cy cX4_firstBest RX4 5 (some .int)) (hE : s.heap.size + 0 ≤ b + G.2.2) (t_v0 : ok G 3 v0) : ∀ n (v4 : Int32) S, f_X4_firstBest_3_n G v0 v1 v2 v3 Q n v4 S → J p l e rm_X4_firstBest s m args below meth c b D cy 5 (zI b D cy below args s G Q) 0 0 G S 3 [(0, .ref (b + v0)), (1, .int v1), (2, .int v2), (3, .int v3), (4, .int v4)] [] := by
  intro n
  induction n with
  | zero => intro v4 S h; exact h.elim
  | succ n ih =>
    intro v4 S h
    unfold f_X4_firstBest_3_n at h
    refine jB C [(.iload 4, 2, 0), (.iload_n 2, 1, 0)] 6 [(0, .ref (b + v0)), (1, .int v1), (2, .int v2), (3, .int v3), (4, .int v4)] [.int v2, .int v4] (by decide +kernel) rfl rfl ?_
    refine jIcmp_ge C 9 48 (by decide +kernel : decode cX4_firstBest 6 = .ok (.if_icmp .ge 42, 3)) rfl rfl (fun c1 => ?_) (fun c1 => ?_)
    · have h := it1 h c1
      refine jB C [(.iconst (-1), 1, (-1))] 49 [(0, .ref (b + v0)), (1, .int v1), (2, .int v2), (3, .int v3), (4, .int v4)] [.int (-1)] (by decide +kernel) rfl rfl ?_
      exact jRetI C (by decide +kernel : decode cX4_firstBest 49 = .ok (.ireturn, 1)) (Nat.le_refl _) (Nat.le_refl _) ⟨rfl, h⟩
    · have h := it2 h c1
      refine jB C [(.iload_n 3, 1, 0)] 10 [(0, .ref (b + v0)), (1, .int v1), (2, .int v2), (3, .int v3), (4, .int v4)] [.int v3] (by decide +kernel) rfl rfl ?_
      refine jIf_lt C 13 42 (by decide +kernel : decode cX4_firstBest 10 = .ok (.ifCond .lt 32, 3)) rfl rfl (fun c2 => ?_) (fun c2 => ?_)
      · have h := it1 h c2
        refine jB C [(.iinc 4 1, 3, 1)] 45 [(4, .int (v4 + 1)), (0, .ref (b + v0)), (1, .int v1), (2, .int v2), (3, .int v3)] [] (by decide +kernel) rfl rfl ?_
        refine jGoto C 3 (by decide +kernel : decode cX4_firstBest 45 = .ok (.goto (-42), 3)) rfl ?_
        refine jSub [1, 2, 3, 4, 0] rfl ?_
        exact ih (v4 + 1) S h
      · have h := it2 h c2
        refine jB C [(.iload_n 3, 1, 0), (.aload_n 0, 1, 0)] 15 [(0, .ref (b + v0)), (1, .int v1), (2, .int v2), (3, .int v3), (4, .int v4)] [.ref (b + v0), .int v3] (by decide +kernel) rfl rfl ?_
        obtain ⟨a3, e_a3, h⟩ := h
        refine jGetR C 18 (by decide +kernel : decode cX4_firstBest 15 = .ok (.getfield 40, 3)) rfl t_v0 kX4 8 (by decide) rfl rfl (by decide) wd_199 e_a3 rfl (fun t_a3 => ?_)
        refine jAlen11 C 19 (by decide +kernel : decode cX4_firstBest 18 = .ok (.arraylength, 1)) rfl t_a3 ?_
        refine jIcmp_ge C 22 42 (by decide +kernel : decode cX4_firstBest 19 = .ok (.if_icmp .ge 23, 3)) rfl rfl (fun c4 => ?_) (fun c4 => ?_)
        · have h := it1 h c4
          refine jB C [(.iinc 4 1, 3, 1)] 45 [(4, .int (v4 + 1)), (0, .ref (b + v0)), (1, .int v1), (2, .int v2), (3, .int v3)] [] (by decide +kernel) rfl rfl ?_
          refine jGoto C 3 (by decide +kernel : decode cX4_firstBest 45 = .ok (.goto (-42), 3)) rfl ?_
          refine jSub [1, 2, 3, 4, 0] rfl ?_
          exact ih (v4 + 1) S h
        · have h := it2 h c4
          refine jB C [(.aload_n 0, 1, 0), (.iload_n 1, 1, 0), (.iload 4, 2, 0), (.iload_n 3, 1, 0)] 27 [(0, .ref (b + v0)), (1, .int v1), (2, .int v2), (3, .int v3), (4, .int v4)] [.int v3, .int v4, .int v1, .ref (b + v0)] (by decide +kernel) rfl rfl ?_
          refine jcV_I C 30 (rest := []) (ok_X4_bestWith t_v0 h) (by decide +kernel : decode cX4_firstBest 27 = .ok (.invokevirtual 146, 3)) rfl wd_1012 wd_1014 wp_89 wd_8 wd_1015 ⟨rfl, rfl⟩ hd_X4_bestWith ⟨Nat.le_of_ble_eq_true rfl, Nat.le_of_ble_eq_true rfl⟩ t_v0 kX4 (by decide) rfl rfl rfl (Nat.le_of_ble_eq_true rfl) ⟨Nat.zero_le _, Nat.zero_le _⟩ (fun r6 S5 h => ?_)
          refine jB C [(.aload_n 0, 1, 0)] 31 [(0, .ref (b + v0)), (1, .int v1), (2, .int v2), (3, .int v3), (4, .int v4)] [.ref (b + v0), .int r6] (by decide +kernel) rfl rfl ?_
          obtain ⟨a7, e_a7, h⟩ := h
          refine jGetR C 34 (by decide +kernel : decode cX4_firstBest 31 = .ok (.getfield 40, 3)) rfl t_v0 kX4 8 (by decide) rfl rfl (by decide) wd_199 e_a7 rfl (fun t_a7 => ?_)
          refine jB C [(.iload_n 3, 1, 0)] 35 [(0, .ref (b + v0)), (1, .int v1), (2, .int v2), (3, .int v3), (4, .int v4)] [.int v3, .ref (b + a7), .int r6] (by decide +kernel) rfl rfl ?_
          obtain ⟨y8, h⟩ := h
          refine jIald C 36 (by decide +kernel : decode cX4_firstBest 35 = .ok (.iaload, 1)) rfl t_a7 y8 ?_
          refine jIcmp_ne C 39 42 (by decide +kernel : decode cX4_firstBest 36 = .ok (.if_icmp .ne 6, 3)) rfl rfl (fun c9 => ?_) (fun c9 => ?_)
          · have h := it2 h c9
            refine jB C [(.iinc 4 1, 3, 1)] 45 [(4, .int (v4 + 1)), (0, .ref (b + v0)), (1, .int v1), (2, .int v2), (3, .int v3)] [] (by decide +kernel) rfl rfl ?_
            refine jGoto C 3 (by decide +kernel : decode cX4_firstBest 45 = .ok (.goto (-42), 3)) rfl ?_
            refine jSub [1, 2, 3, 4, 0] rfl ?_
            exact ih (v4 + 1) S5 h
          · have h := it1 h c9
            refine jB C [(.iload 4, 2, 0)] 41 [(0, .ref (b + v0)), (1, .int v1), (2, .int v2), (3, .int v3), (4, .int v4)] [.int v4] (by decide +kernel) rfl rfl ?_
            exact jRetI C (by decide +kernel : decode cX4_firstBest 41 = .ok (.ireturn, 1)) (Nat.le_refl _) (Nat.le_refl _) ⟨rfl, h⟩
theorem j_X4_firstBest_3 {p : Program} {l : Launch} {e : Env} {s : State} {m : MethodId} {args : Array Value} {below : List Frame} {meth : Method} {c : Code} {b : Nat} {D : va_G} {cy : Nat → ClassId} {G : Gm} {v0 : Nat} {v1 : Int32} {v2 : Int32} {v3 : Int32} {v4 : Int32} {S : St} {Q : Int32 → St → Prop} (C : CX p s m args meth c b D cy cX4_firstBest RX4 5 (some .int)) (hE : s.heap.size + 0 ≤ b + G.2.2) (t_v0 : ok G 3 v0) (h : f_X4_firstBest_3 G v0 v1 v2 v3 Q v4 S) : J p l e rm_X4_firstBest s m args below meth c b D cy 5 (zI b D cy below args s G Q) 0 0 G S 3 [(0, .ref (b + v0)), (1, .int v1), (2, .int v2), (3, .int v3), (4, .int v4)] [] := by
  obtain ⟨n, h⟩ := h
  exact j_X4_firstBest_3_n C hE t_v0 n v4 S h
set_option maxHeartbeats 4000000 in
set_option maxRecDepth 100000 in
theorem j_X4_firstBest {p : Program} {l : Launch} {e : Env} {s : State} {m : MethodId} {args : Array Value} {below : List Frame} {meth : Method} {c : Code} {b : Nat} {D : va_G} {cy : Nat → ClassId} {G : Gm} {v0 : Nat} {v1 : Int32} {v2 : Int32} {v3 : Int32} {S : St} {Q : Int32 → St → Prop} (C : CX p s m args meth c b D cy cX4_firstBest RX4 5 (some .int)) (hE : s.heap.size + 0 ≤ b + G.2.2) (t_v0 : ok G 3 v0) (h : f_X4_firstBest G v0 v1 v2 v3 Q S) : J p l e rm_X4_firstBest s m args below meth c b D cy 5 (zI b D cy below args s G Q) 0 0 G S 0 [(0, .ref (b + v0)), (1, .int v1), (2, .int v2), (3, .int v3)] [] := by
  unfold f_X4_firstBest at h
  refine jB C [(.iconst 0, 1, 0), (.istore 4, 2, 0)] 3 [(4, .int 0), (0, .ref (b + v0)), (1, .int v1), (2, .int v2), (3, .int v3)] [] (by decide +kernel) rfl rfl ?_
  refine jSub [1, 2, 3, 4, 0] rfl ?_
  exact j_X4_firstBest_3 C hE t_v0 h
theorem ok_X4_firstBest {G : Gm} {v0 : Nat} {v1 : Int32} {v2 : Int32} {v3 : Int32} {S : St} {Q : Int32 → St → Prop} (t_v0 : ok G 3 v0) (h : f_X4_firstBest G v0 v1 v2 v3 Q S) : MT yX4_firstBest cX4_firstBest 5 (some .int) rm_X4_firstBest 0 0 (fun b => [.ref (b + v0), .int v1, .int v2, .int v3]) G S (QI (fun r G1 S1 => G1 = G ∧ Q r S1)) := MT.ofJ (by decide) (fun b => [(0, .ref (b + v0)), (1, .int v1), (2, .int v2), (3, .int v3)]) (fun b => rfl) (fun b => Nat.le_of_ble_eq_true rfl) (fun l b D cy p e s m below meth c C hE hn => j_X4_firstBest C hE t_v0 h)
theorem hd_X4_firstBest : yX4_firstBest.cls ≠ "java/lang/invoke/MethodHandle" ∧ yX4_firstBest.cls ≠ "java/lang/invoke/VarHandle" ∧ (parseMethodDescriptor yX4_firstBest.desc).map (fun d => d.parameters.length) = some 3 := by decide +kernel
def f_X4_fit_41_n (G : Gm) (v0 : Nat) (v2 : Int32) (v3 : Int32) (Q : Int32 → St → Prop) : Nat → Int32 → Int32 → Int32 → St → Prop
  | 0, _, _, _, _ => False
  | n + 1, v4, v5, v6, S => (if v3 ≤ v6 then Q v5 S else (if v2 ≤ v6 then Q v5 S else f_X4_firstBest G v0 v6 v3 v4 (fun r4 S3 => (∀ x5 : Int32, x5 = v4 ||| (1 <<< (((mx r4 0) : Int32) &&& 31)) → (f_X4_fit_41_n G v0 v2 v3 Q n) x5 r4 (v6 + 1) S3)) S))
def f_X4_fit_41 (G : Gm) (v0 : Nat) (v2 : Int32) (v3 : Int32) (Q : Int32 → St → Prop) (v4 : Int32) (v5 : Int32) (v6 : Int32) (S : St) : Prop := ∃ n, f_X4_fit_41_n G v0 v2 v3 Q n v4 v5 v6 S
def f_X4_fit (G : Gm) (v0 : Nat) (v1 : Nat) (v2 : Int32) (Q : Int32 → St → Prop) (S : St) : Prop :=
  (∀ x1 : Int32, x1 = mn (S.1 v1 0) 6 → f_X4_learnFits G v0 v1 x1 (fun S2 => f_X4_learnBest G v0 x1 (fun S3 => (if 0 < v2 then f_X4_fit_41 G v0 v2 x1 Q 0 (-1) 0 S3 else (∃ a5, S3.2.2 v0 8 = some a5 ∧ (vp_in 0 (G.2.1 a5) ∧ Q (S3.1 a5 0.toNatClampNeg) S3)))) S2) S)
abbrev rm_X4_fit : Room := { frames := 5, cells := 0, slots := 0, locals := 131 }
set_option maxHeartbeats 4000000 in
set_option maxRecDepth 100000 in
theorem j_X4_fit_41_n {p : Program} {l : Launch} {e : Env} {s : State} {m : MethodId} {args : Array Value} {below : List Frame} {meth : Method} {c : Code} {b : Nat} {D : va_G} {cy : Nat → ClassId} {G : Gm} {v0 : Nat} {v2 : Int32} {v3 : Int32} {Q : Int32 → St → Prop} (C : CX p s m args meth c b D cy cX4_fit RX4 7 (some .int)) (hE : s.heap.size + 0 ≤ b + G.2.2) (t_v0 : ok G 3 v0) : ∀ n (v4 : Int32) (v5 : Int32) (v6 : Int32) S, f_X4_fit_41_n G v0 v2 v3 Q n v4 v5 v6 S → J p l e rm_X4_fit s m args below meth c b D cy 7 (zI b D cy below args s G Q) 0 0 G S 41 [(0, .ref (b + v0)), (2, .int v2), (3, .int v3), (4, .int v4), (5, .int v5), (6, .int v6)] [] := by
  intro n
  induction n with
  | zero => intro v4 v5 v6 S h; exact h.elim
  | succ n ih =>
    intro v4 v5 v6 S h
    unfold f_X4_fit_41_n at h
    refine jB C [(.iload 6, 2, 0), (.iload_n 3, 1, 0)] 44 [(0, .ref (b + v0)), (2, .int v2), (3, .int v3), (4, .int v4), (5, .int v5), (6, .int v6)] [.int v3, .int v6] (by decide +kernel) rfl rfl ?_
    refine jIcmp_ge C 47 83 (by decide +kernel : decode cX4_fit 44 = .ok (.if_icmp .ge 39, 3)) rfl rfl (fun c1 => ?_) (fun c1 => ?_)
    · have h := it1 h c1
      refine jB C [(.iload 5, 2, 0)] 85 [(0, .ref (b + v0)), (2, .int v2), (3, .int v3), (4, .int v4), (5, .int v5), (6, .int v6)] [.int v5] (by decide +kernel) rfl rfl ?_
      exact jRetI C (by decide +kernel : decode cX4_fit 85 = .ok (.ireturn, 1)) (Nat.le_refl _) (Nat.le_refl _) ⟨rfl, h⟩
    · have h := it2 h c1
      refine jB C [(.iload 6, 2, 0), (.iload_n 2, 1, 0)] 50 [(0, .ref (b + v0)), (2, .int v2), (3, .int v3), (4, .int v4), (5, .int v5), (6, .int v6)] [.int v2, .int v6] (by decide +kernel) rfl rfl ?_
      refine jIcmp_ge C 53 83 (by decide +kernel : decode cX4_fit 50 = .ok (.if_icmp .ge 33, 3)) rfl rfl (fun c2 => ?_) (fun c2 => ?_)
      · have h := it1 h c2
        refine jB C [(.iload 5, 2, 0)] 85 [(0, .ref (b + v0)), (2, .int v2), (3, .int v3), (4, .int v4), (5, .int v5), (6, .int v6)] [.int v5] (by decide +kernel) rfl rfl ?_
        exact jRetI C (by decide +kernel : decode cX4_fit 85 = .ok (.ireturn, 1)) (Nat.le_refl _) (Nat.le_refl _) ⟨rfl, h⟩
      · have h := it2 h c2
        refine jB C [(.aload_n 0, 1, 0), (.iload 6, 2, 0), (.iload_n 3, 1, 0), (.iload 4, 2, 0)] 59 [(0, .ref (b + v0)), (2, .int v2), (3, .int v3), (4, .int v4), (5, .int v5), (6, .int v6)] [.int v4, .int v3, .int v6, .ref (b + v0)] (by decide +kernel) rfl rfl ?_
        refine jcV_I C 62 (rest := []) (ok_X4_firstBest t_v0 h) (by decide +kernel : decode cX4_fit 59 = .ok (.invokevirtual 130, 3)) rfl wd_1016 wd_1018 wp_90 wd_8 wd_1019 ⟨rfl, rfl⟩ hd_X4_firstBest ⟨Nat.le_of_ble_eq_true rfl, Nat.le_of_ble_eq_true rfl⟩ t_v0 kX4 (by decide) rfl rfl rfl (Nat.le_of_ble_eq_true rfl) ⟨Nat.zero_le _, Nat.zero_le _⟩ (fun r4 S3 h => ?_)
        refine jB C [(.istore 5, 2, 0), (.iload 4, 2, 0), (.iconst 1, 1, 1), (.iload 5, 2, 0), (.iconst 0, 1, 0)] 70 [(5, .int r4), (0, .ref (b + v0)), (2, .int v2), (3, .int v3), (4, .int v4), (6, .int v6)] [.int 0, .int r4, .int 1, .int v4] (by decide +kernel) rfl rfl ?_
        refine jMax C 73 (by decide +kernel : decode cX4_fit 70 = .ok (.invokestatic 111, 3)) rfl wd_975 (Nat.le_of_ble_eq_true rfl) (Nat.le_of_ble_eq_true rfl) (Nat.le_of_ble_eq_true rfl) ?_
        refine jB C [(.ishl, 1, 0), (.ior, 1, 0)] 75 [(5, .int r4), (0, .ref (b + v0)), (2, .int v2), (3, .int v3), (4, .int v4), (6, .int v6)] [.int (v4 ||| (1 <<< (((mx r4 0) : Int32) &&& 31)))] (by decide +kernel) rfl rfl ?_
        refine jTopI (fun x5 e_x5 => ?_)
        have h := h x5 e_x5
        refine jB C [(.istore 4, 2, 0), (.iinc 6 1, 3, 1)] 80 [(6, .int (v6 + 1)), (4, .int x5), (5, .int r4), (0, .ref (b + v0)), (2, .int v2), (3, .int v3)] [] (by decide +kernel) rfl rfl ?_
        refine jGoto C 41 (by decide +kernel : decode cX4_fit 80 = .ok (.goto (-39), 3)) rfl ?_
        refine jSub [3, 4, 5, 1, 2, 0] rfl ?_
        exact ih x5 r4 (v6 + 1) S3 h
theorem j_X4_fit_41 {p : Program} {l : Launch} {e : Env} {s : State} {m : MethodId} {args : Array Value} {below : List Frame} {meth : Method} {c : Code} {b : Nat} {D : va_G} {cy : Nat → ClassId} {G : Gm} {v0 : Nat} {v2 : Int32} {v3 : Int32} {v4 : Int32} {v5 : Int32} {v6 : Int32} {S : St} {Q : Int32 → St → Prop} (C : CX p s m args meth c b D cy cX4_fit RX4 7 (some .int)) (hE : s.heap.size + 0 ≤ b + G.2.2) (t_v0 : ok G 3 v0) (h : f_X4_fit_41 G v0 v2 v3 Q v4 v5 v6 S) : J p l e rm_X4_fit s m args below meth c b D cy 7 (zI b D cy below args s G Q) 0 0 G S 41 [(0, .ref (b + v0)), (2, .int v2), (3, .int v3), (4, .int v4), (5, .int v5), (6, .int v6)] [] := by
  obtain ⟨n, h⟩ := h
  exact j_X4_fit_41_n C hE t_v0 n v4 v5 v6 S h
set_option maxHeartbeats 4000000 in
set_option maxRecDepth 100000 in
theorem j_X4_fit {p : Program} {l : Launch} {e : Env} {s : State} {m : MethodId} {args : Array Value} {below : List Frame} {meth : Method} {c : Code} {b : Nat} {D : va_G} {cy : Nat → ClassId} {G : Gm} {v0 : Nat} {v1 : Nat} {v2 : Int32} {S : St} {Q : Int32 → St → Prop} (C : CX p s m args meth c b D cy cX4_fit RX4 7 (some .int)) (hE : s.heap.size + 0 ≤ b + G.2.2) (t_v0 : ok G 3 v0) (t_v1 : ok G 4 v1) (h : f_X4_fit G v0 v1 v2 Q S) : J p l e rm_X4_fit s m args below meth c b D cy 7 (zI b D cy below args s G Q) 0 0 G S 0 [(0, .ref (b + v0)), (1, .ref (b + v1)), (2, .int v2)] [] := by
  unfold f_X4_fit at h
  refine jB C [(.aload_n 1, 1, 0)] 1 [(0, .ref (b + v0)), (1, .ref (b + v1)), (2, .int v2)] [.ref (b + v1)] (by decide +kernel) rfl rfl ?_
  refine jGetIN C 4 (by decide +kernel : decode cX4_fit 1 = .ok (.getfield 105, 3)) rfl t_v1 kX5 0 (by decide) rfl rfl (by decide) wn_39 ?_
  refine jB C [(.bipush 6, 2, 6)] 6 [(0, .ref (b + v0)), (1, .ref (b + v1)), (2, .int v2)] [.int 6, .int (S.1 v1 0)] (by decide +kernel) rfl rfl ?_
  refine jMin C 9 (by decide +kernel : decode cX4_fit 6 = .ok (.invokestatic 120, 3)) rfl wd_995 (Nat.le_of_ble_eq_true rfl) (Nat.le_of_ble_eq_true rfl) (Nat.le_of_ble_eq_true rfl) ?_
  refine jTopI (fun x1 e_x1 => ?_)
  have h := h x1 e_x1
  refine jB C [(.istore_n 3, 1, 0), (.aload_n 0, 1, 0), (.aload_n 1, 1, 0), (.iload_n 3, 1, 0)] 13 [(3, .int x1), (0, .ref (b + v0)), (1, .ref (b + v1)), (2, .int v2)] [.int x1, .ref (b + v1), .ref (b + v0)] (by decide +kernel) rfl rfl ?_
  refine jcV_V C 16 (rest := []) (ok_X4_learnFits t_v0 t_v1 h) (by decide +kernel : decode cX4_fit 13 = .ok (.invokevirtual 123, 3)) rfl wd_996 wd_998 wp_87 wd_8 wd_999 ⟨rfl, rfl⟩ hd_X4_learnFits ⟨Nat.le_of_ble_eq_true rfl, Nat.le_of_ble_eq_true rfl⟩ t_v0 kX4 (by decide) rfl rfl rfl (Nat.le_of_ble_eq_true rfl) ⟨Nat.zero_le _, Nat.zero_le _⟩ (fun S2 h => ?_)
  refine jB C [(.aload_n 0, 1, 0), (.iload_n 3, 1, 0)] 18 [(3, .int x1), (0, .ref (b + v0)), (1, .ref (b + v1)), (2, .int v2)] [.int x1, .ref (b + v0)] (by decide +kernel) rfl rfl ?_
  refine jcV_V C 21 (rest := []) (ok_X4_learnBest t_v0 h) (by decide +kernel : decode cX4_fit 18 = .ok (.invokevirtual 127, 3)) rfl wd_1002 wd_1004 wp_88 wd_8 wd_1005 ⟨rfl, rfl⟩ hd_X4_learnBest ⟨Nat.le_of_ble_eq_true rfl, Nat.le_of_ble_eq_true rfl⟩ t_v0 kX4 (by decide) rfl rfl rfl (Nat.le_of_ble_eq_true rfl) ⟨Nat.zero_le _, Nat.zero_le _⟩ (fun S3 h => ?_)
  refine jB C [(.iload_n 2, 1, 0)] 22 [(3, .int x1), (0, .ref (b + v0)), (1, .ref (b + v1)), (2, .int v2)] [.int v2] (by decide +kernel) rfl rfl ?_
  refine jIf_gt C 25 32 (by decide +kernel : decode cX4_fit 22 = .ok (.ifCond .gt 10, 3)) rfl rfl (fun c4 => ?_) (fun c4 => ?_)
  · have h := it1 h c4
    refine jB C [(.iconst 0, 1, 0), (.istore 4, 2, 0), (.iconst (-1), 1, (-1)), (.istore 5, 2, 0), (.iconst 0, 1, 0), (.istore 6, 2, 0)] 41 [(6, .int 0), (5, .int (-1)), (4, .int 0), (3, .int x1), (0, .ref (b + v0)), (1, .ref (b + v1)), (2, .int v2)] [] (by decide +kernel) rfl rfl ?_
    refine jSub [4, 6, 3, 2, 1, 0] rfl ?_
    exact j_X4_fit_41 C hE t_v0 h
  · have h := it2 h c4
    refine jB C [(.aload_n 0, 1, 0)] 26 [(3, .int x1), (0, .ref (b + v0)), (1, .ref (b + v1)), (2, .int v2)] [.ref (b + v0)] (by decide +kernel) rfl rfl ?_
    obtain ⟨a5, e_a5, h⟩ := h
    refine jGetR C 29 (by decide +kernel : decode cX4_fit 26 = .ok (.getfield 40, 3)) rfl t_v0 kX4 8 (by decide) rfl rfl (by decide) wd_199 e_a5 rfl (fun t_a5 => ?_)
    refine jB C [(.iconst 0, 1, 0)] 30 [(3, .int x1), (0, .ref (b + v0)), (1, .ref (b + v1)), (2, .int v2)] [.int 0, .ref (b + a5)] (by decide +kernel) rfl rfl ?_
    obtain ⟨y6, h⟩ := h
    refine jIald C 31 (by decide +kernel : decode cX4_fit 30 = .ok (.iaload, 1)) rfl t_a5 y6 ?_
    exact jRetI C (by decide +kernel : decode cX4_fit 31 = .ok (.ireturn, 1)) (Nat.le_refl _) (Nat.le_refl _) ⟨rfl, h⟩
theorem ok_X4_fit {G : Gm} {v0 : Nat} {v1 : Nat} {v2 : Int32} {S : St} {Q : Int32 → St → Prop} (t_v0 : ok G 3 v0) (t_v1 : ok G 4 v1) (h : f_X4_fit G v0 v1 v2 Q S) : MT yX4_fit cX4_fit 7 (some .int) rm_X4_fit 0 0 (fun b => [.ref (b + v0), .ref (b + v1), .int v2]) G S (QI (fun r G1 S1 => G1 = G ∧ Q r S1)) := MT.ofJ (by decide) (fun b => [(0, .ref (b + v0)), (1, .ref (b + v1)), (2, .int v2)]) (fun b => rfl) (fun b => Nat.le_of_ble_eq_true rfl) (fun l b D cy p e s m below meth c C hE hn => j_X4_fit C hE t_v0 t_v1 h)
theorem hd_X4_fit : yX4_fit.cls ≠ "java/lang/invoke/MethodHandle" ∧ yX4_fit.cls ≠ "java/lang/invoke/VarHandle" ∧ (parseMethodDescriptor yX4_fit.desc).map (fun d => d.parameters.length) = some 2 := by decide +kernel
def f_X10_fitted_19 (G : Gm) (v0 : Nat) (v1 : Int32) (Q : Int32 → St → Prop) (S : St) : Prop :=
  (∃ a1, S.2.2 v0 7 = some a1 ∧ (∃ a2, S.2.2 v0 0 = some a2 ∧ f_X4_fit G a1 a2 v1 (fun r4 S3 => Q r4 S3) S))
def f_X10_fitted (G : Gm) (v0 : Nat) (v1 : Int32) (Q : Int32 → St → Prop) (S : St) : Prop :=
  (if v1 = 0 then f_X10_fitted_19 G v0 v1 Q S else (∃ a2, S.2.2 v0 0 = some a2 ∧ f_X5_has G a2 (v1 - 1) (fun r4 S3 => (if r4 = 0 then Q (-1) S3 else f_X10_fitted_19 G v0 v1 Q S3)) S))
abbrev rm_X10_fitted : Room := { frames := 6, cells := 0, slots := 0, locals := 157 }
set_option maxHeartbeats 4000000 in
set_option maxRecDepth 100000 in
theorem j_X10_fitted_19 {p : Program} {l : Launch} {e : Env} {s : State} {m : MethodId} {args : Array Value} {below : List Frame} {meth : Method} {c : Code} {b : Nat} {D : va_G} {cy : Nat → ClassId} {G : Gm} {v0 : Nat} {v1 : Int32} {S : St} {Q : Int32 → St → Prop} (C : CX p s m args meth c b D cy cX10_fitted RX10 2 (some .int)) (hE : s.heap.size + 0 ≤ b + G.2.2) (t_v0 : ok G 9 v0) (h : f_X10_fitted_19 G v0 v1 Q S) : J p l e rm_X10_fitted s m args below meth c b D cy 2 (zI b D cy below args s G Q) 0 0 G S 19 [(0, .ref (b + v0)), (1, .int v1)] [] := by
  unfold f_X10_fitted_19 at h
  refine jB C [(.aload_n 0, 1, 0)] 20 [(0, .ref (b + v0)), (1, .int v1)] [.ref (b + v0)] (by decide +kernel) rfl rfl ?_
  obtain ⟨a1, e_a1, h⟩ := h
  refine jGetR C 23 (by decide +kernel : decode cX10_fitted 20 = .ok (.getfield 56, 3)) rfl t_v0 kX10 7 (by decide) rfl rfl (by decide) wd_318 e_a1 rfl (fun t_a1 => ?_)
  refine jB C [(.aload_n 0, 1, 0)] 24 [(0, .ref (b + v0)), (1, .int v1)] [.ref (b + v0), .ref (b + a1)] (by decide +kernel) rfl rfl ?_
  obtain ⟨a2, e_a2, h⟩ := h
  refine jGetR C 27 (by decide +kernel : decode cX10_fitted 24 = .ok (.getfield 14, 3)) rfl t_v0 kX10 0 (by decide) rfl rfl (by decide) wd_311 e_a2 rfl (fun t_a2 => ?_)
  refine jB C [(.iload_n 1, 1, 0)] 28 [(0, .ref (b + v0)), (1, .int v1)] [.int v1, .ref (b + a2), .ref (b + a1)] (by decide +kernel) rfl rfl ?_
  refine jcVN_I C 31 (rest := []) (ok_X4_fit t_a1 t_a2 h) (by decide +kernel : decode cX10_fitted 28 = .ok (.invokevirtual 273, 3)) rfl wn_991 wd_993 wp_86 wd_8 wd_994 ⟨rfl, rfl⟩ hd_X4_fit ⟨Nat.le_of_ble_eq_true rfl, Nat.le_of_ble_eq_true rfl⟩ t_a1 kX4 (by decide) rfl rfl rfl (Nat.le_of_ble_eq_true rfl) ⟨Nat.zero_le _, Nat.zero_le _⟩ (fun r4 S3 h => ?_)
  exact jRetI C (by decide +kernel : decode cX10_fitted 31 = .ok (.ireturn, 1)) (Nat.le_refl _) (Nat.le_refl _) ⟨rfl, h⟩
set_option maxHeartbeats 4000000 in
set_option maxRecDepth 100000 in
theorem j_X10_fitted {p : Program} {l : Launch} {e : Env} {s : State} {m : MethodId} {args : Array Value} {below : List Frame} {meth : Method} {c : Code} {b : Nat} {D : va_G} {cy : Nat → ClassId} {G : Gm} {v0 : Nat} {v1 : Int32} {S : St} {Q : Int32 → St → Prop} (C : CX p s m args meth c b D cy cX10_fitted RX10 2 (some .int)) (hE : s.heap.size + 0 ≤ b + G.2.2) (t_v0 : ok G 9 v0) (h : f_X10_fitted G v0 v1 Q S) : J p l e rm_X10_fitted s m args below meth c b D cy 2 (zI b D cy below args s G Q) 0 0 G S 0 [(0, .ref (b + v0)), (1, .int v1)] [] := by
  unfold f_X10_fitted at h
  refine jB C [(.iload_n 1, 1, 0)] 1 [(0, .ref (b + v0)), (1, .int v1)] [.int v1] (by decide +kernel) rfl rfl ?_
  refine jIf_eq C 4 19 (by decide +kernel : decode cX10_fitted 1 = .ok (.ifCond .eq 18, 3)) rfl rfl (fun c1 => ?_) (fun c1 => ?_)
  · have h := it1 h c1
    refine jSub [0, 1] rfl ?_
    exact j_X10_fitted_19 C hE t_v0 h
  · have h := it2 h c1
    refine jB C [(.aload_n 0, 1, 0)] 5 [(0, .ref (b + v0)), (1, .int v1)] [.ref (b + v0)] (by decide +kernel) rfl rfl ?_
    obtain ⟨a2, e_a2, h⟩ := h
    refine jGetR C 8 (by decide +kernel : decode cX10_fitted 5 = .ok (.getfield 14, 3)) rfl t_v0 kX10 0 (by decide) rfl rfl (by decide) wd_311 e_a2 rfl (fun t_a2 => ?_)
    refine jB C [(.iload_n 1, 1, 0), (.iconst 1, 1, 1), (.isub, 1, 0)] 11 [(0, .ref (b + v0)), (1, .int v1)] [.int (v1 - 1), .ref (b + a2)] (by decide +kernel) rfl rfl ?_
    refine jcVN_I C 14 (rest := []) (ok_X5_has t_a2 h) (by decide +kernel : decode cX10_fitted 11 = .ok (.invokevirtual 92, 3)) rfl wn_395 wd_373 wp_4 wd_2 wd_374 ⟨rfl, rfl⟩ hd_X5_has ⟨Nat.le_of_ble_eq_true rfl, Nat.le_of_ble_eq_true rfl⟩ t_a2 kX5 (by decide) rfl rfl rfl (Nat.le_of_ble_eq_true rfl) ⟨Nat.zero_le _, Nat.zero_le _⟩ (fun r4 S3 h => ?_)
    refine jIf_ne C 17 19 (by decide +kernel : decode cX10_fitted 14 = .ok (.ifCond .ne 5, 3)) rfl rfl (fun c5 => ?_) (fun c5 => ?_)
    · have h := it2 h c5
      refine jSub [0, 1] rfl ?_
      exact j_X10_fitted_19 C hE t_v0 h
    · have h := it1 h c5
      refine jB C [(.iconst (-1), 1, (-1))] 18 [(0, .ref (b + v0)), (1, .int v1)] [.int (-1)] (by decide +kernel) rfl rfl ?_
      exact jRetI C (by decide +kernel : decode cX10_fitted 18 = .ok (.ireturn, 1)) (Nat.le_refl _) (Nat.le_refl _) ⟨rfl, h⟩
theorem ok_X10_fitted {G : Gm} {v0 : Nat} {v1 : Int32} {S : St} {Q : Int32 → St → Prop} (t_v0 : ok G 9 v0) (h : f_X10_fitted G v0 v1 Q S) : MT yX10_fitted cX10_fitted 2 (some .int) rm_X10_fitted 0 0 (fun b => [.ref (b + v0), .int v1]) G S (QI (fun r G1 S1 => G1 = G ∧ Q r S1)) := MT.ofJ (by decide) (fun b => [(0, .ref (b + v0)), (1, .int v1)]) (fun b => rfl) (fun b => Nat.le_of_ble_eq_true rfl) (fun l b D cy p e s m below meth c C hE hn => j_X10_fitted C hE t_v0 h)
theorem hd_X10_fitted : yX10_fitted.cls ≠ "java/lang/invoke/MethodHandle" ∧ yX10_fitted.cls ≠ "java/lang/invoke/VarHandle" ∧ (parseMethodDescriptor yX10_fitted.desc).map (fun d => d.parameters.length) = some 1 := by decide +kernel
def f_X10_force_23 (G : Gm) (v0 : Nat) (v1 : Int32) (Q : Int32 → St → Prop) (S : St) : Prop :=
  (∃ a1, S.2.2 v0 0 = some a1 ∧ (∀ x2 : Int32, x2 = S.1 a1 10 → (∃ a3, S.2.2 v0 0 = some a3 ∧ (∀ S4, S4 = uI S a3 10 v1 → f_X10_accept G v0 x2 (fun r6 S5 => Q r6 S5) S4))))
def f_X10_force (G : Gm) (v0 : Nat) (v1 : Int32) (Q : Int32 → St → Prop) (S : St) : Prop :=
  (if v1 = (-1) then f_X10_force_23 G v0 v1 Q S else (∃ a2, S.2.2 v0 0 = some a2 ∧ f_X5_hasLaw G a2 v1 (fun r4 S3 => (if r4 = 0 then f_X10_refuse G v0 (-2) (fun r7 S6 => Q r7 S6) S3 else f_X10_force_23 G v0 v1 Q S3)) S))
abbrev rm_X10_force : Room := { frames := 1, cells := 0, slots := 0, locals := 21 }
set_option maxHeartbeats 4000000 in
set_option maxRecDepth 100000 in
theorem j_X10_force_23 {p : Program} {l : Launch} {e : Env} {s : State} {m : MethodId} {args : Array Value} {below : List Frame} {meth : Method} {c : Code} {b : Nat} {D : va_G} {cy : Nat → ClassId} {G : Gm} {v0 : Nat} {v1 : Int32} {S : St} {Q : Int32 → St → Prop} (C : CX p s m args meth c b D cy cX10_force RX10 3 (some .int)) (hE : s.heap.size + 0 ≤ b + G.2.2) (t_v0 : ok G 9 v0) (h : f_X10_force_23 G v0 v1 Q S) : J p l e rm_X10_force s m args below meth c b D cy 3 (zI b D cy below args s G Q) 0 0 G S 23 [(0, .ref (b + v0)), (1, .int v1)] [] := by
  unfold f_X10_force_23 at h
  refine jB C [(.aload_n 0, 1, 0)] 24 [(0, .ref (b + v0)), (1, .int v1)] [.ref (b + v0)] (by decide +kernel) rfl rfl ?_
  obtain ⟨a1, e_a1, h⟩ := h
  refine jGetR C 27 (by decide +kernel : decode cX10_force 24 = .ok (.getfield 14, 3)) rfl t_v0 kX10 0 (by decide) rfl rfl (by decide) wd_311 e_a1 rfl (fun t_a1 => ?_)
  refine jGetIN C 30 (by decide +kernel : decode cX10_force 27 = .ok (.getfield 236, 3)) rfl t_a1 kX5 10 (by decide) rfl rfl (by decide) wn_57 ?_
  refine jTopI (fun x2 e_x2 => ?_)
  have h := h x2 e_x2
  refine jB C [(.istore_n 2, 1, 0), (.aload_n 0, 1, 0)] 32 [(2, .int x2), (0, .ref (b + v0)), (1, .int v1)] [.ref (b + v0)] (by decide +kernel) rfl rfl ?_
  obtain ⟨a3, e_a3, h⟩ := h
  refine jGetR C 35 (by decide +kernel : decode cX10_force 32 = .ok (.getfield 14, 3)) rfl t_v0 kX10 0 (by decide) rfl rfl (by decide) wd_311 e_a3 rfl (fun t_a3 => ?_)
  refine jB C [(.iload_n 1, 1, 0)] 36 [(2, .int x2), (0, .ref (b + v0)), (1, .int v1)] [.int v1, .ref (b + a3)] (by decide +kernel) rfl rfl ?_
  refine jPutIN C 39 (by decide +kernel : decode cX10_force 36 = .ok (.putfield 236, 3)) rfl hE t_a3 kX5 10 (by decide) rfl rfl (by decide) rfl wn_57 rfl rfl rfl ?_
  refine jTopS (fun S4 e_S4 => ?_)
  have h := h S4 e_S4
  refine jB C [(.aload_n 0, 1, 0), (.iload_n 2, 1, 0)] 41 [(2, .int x2), (0, .ref (b + v0)), (1, .int v1)] [.int x2, .ref (b + v0)] (by decide +kernel) rfl rfl ?_
  refine jcV_I C 44 (rest := []) (ok_X10_accept t_v0 h) (by decide +kernel : decode cX10_force 41 = .ok (.invokevirtual 89, 3)) rfl wd_387 wd_389 wp_7 wd_1 wd_390 ⟨rfl, rfl⟩ hd_X10_accept ⟨Nat.le_of_ble_eq_true rfl, Nat.le_of_ble_eq_true rfl⟩ t_v0 kX10 (by decide) rfl rfl rfl (Nat.le_of_ble_eq_true rfl) ⟨Nat.zero_le _, Nat.zero_le _⟩ (fun r6 S5 h => ?_)
  exact jRetI C (by decide +kernel : decode cX10_force 44 = .ok (.ireturn, 1)) (Nat.le_refl _) (Nat.le_refl _) ⟨rfl, h⟩
set_option maxHeartbeats 4000000 in
set_option maxRecDepth 100000 in
theorem j_X10_force {p : Program} {l : Launch} {e : Env} {s : State} {m : MethodId} {args : Array Value} {below : List Frame} {meth : Method} {c : Code} {b : Nat} {D : va_G} {cy : Nat → ClassId} {G : Gm} {v0 : Nat} {v1 : Int32} {S : St} {Q : Int32 → St → Prop} (C : CX p s m args meth c b D cy cX10_force RX10 3 (some .int)) (hE : s.heap.size + 0 ≤ b + G.2.2) (t_v0 : ok G 9 v0) (h : f_X10_force G v0 v1 Q S) : J p l e rm_X10_force s m args below meth c b D cy 3 (zI b D cy below args s G Q) 0 0 G S 0 [(0, .ref (b + v0)), (1, .int v1)] [] := by
  unfold f_X10_force at h
  refine jB C [(.iload_n 1, 1, 0), (.iconst (-1), 1, (-1))] 2 [(0, .ref (b + v0)), (1, .int v1)] [.int (-1), .int v1] (by decide +kernel) rfl rfl ?_
  refine jIcmp_eq C 5 23 (by decide +kernel : decode cX10_force 2 = .ok (.if_icmp .eq 21, 3)) rfl rfl (fun c1 => ?_) (fun c1 => ?_)
  · have h := it1 h c1
    refine jSub [0, 1] rfl ?_
    exact j_X10_force_23 C hE t_v0 h
  · have h := it2 h c1
    refine jB C [(.aload_n 0, 1, 0)] 6 [(0, .ref (b + v0)), (1, .int v1)] [.ref (b + v0)] (by decide +kernel) rfl rfl ?_
    obtain ⟨a2, e_a2, h⟩ := h
    refine jGetR C 9 (by decide +kernel : decode cX10_force 6 = .ok (.getfield 14, 3)) rfl t_v0 kX10 0 (by decide) rfl rfl (by decide) wd_311 e_a2 rfl (fun t_a2 => ?_)
    refine jB C [(.iload_n 1, 1, 0)] 10 [(0, .ref (b + v0)), (1, .int v1)] [.int v1, .ref (b + a2)] (by decide +kernel) rfl rfl ?_
    refine jcVN_I C 13 (rest := []) (ok_X5_hasLaw t_a2 h) (by decide +kernel : decode cX10_force 10 = .ok (.invokevirtual 233, 3)) rfl wn_878 wd_455 wp_17 wd_2 wd_456 ⟨rfl, rfl⟩ hd_X5_hasLaw ⟨Nat.le_of_ble_eq_true rfl, Nat.le_of_ble_eq_true rfl⟩ t_a2 kX5 (by decide) rfl rfl rfl (Nat.le_of_ble_eq_true rfl) ⟨Nat.zero_le _, Nat.zero_le _⟩ (fun r4 S3 h => ?_)
    refine jIf_ne C 16 23 (by decide +kernel : decode cX10_force 13 = .ok (.ifCond .ne 10, 3)) rfl rfl (fun c5 => ?_) (fun c5 => ?_)
    · have h := it2 h c5
      refine jSub [0, 1] rfl ?_
      exact j_X10_force_23 C hE t_v0 h
    · have h := it1 h c5
      refine jB C [(.aload_n 0, 1, 0), (.bipush (-2), 2, (-2))] 19 [(0, .ref (b + v0)), (1, .int v1)] [.int (-2), .ref (b + v0)] (by decide +kernel) rfl rfl ?_
      refine jcV_I C 22 (rest := []) (ok_X10_refuse t_v0 h) (by decide +kernel : decode cX10_force 19 = .ok (.invokevirtual 78, 3)) rfl wd_355 wd_357 wp_0 wd_1 wd_358 ⟨rfl, rfl⟩ hd_X10_refuse ⟨Nat.le_of_ble_eq_true rfl, Nat.le_of_ble_eq_true rfl⟩ t_v0 kX10 (by decide) rfl rfl rfl (Nat.le_of_ble_eq_true rfl) ⟨Nat.zero_le _, Nat.zero_le _⟩ (fun r7 S6 h => ?_)
      exact jRetI C (by decide +kernel : decode cX10_force 22 = .ok (.ireturn, 1)) (Nat.le_refl _) (Nat.le_refl _) ⟨rfl, h⟩
theorem ok_X10_force {G : Gm} {v0 : Nat} {v1 : Int32} {S : St} {Q : Int32 → St → Prop} (t_v0 : ok G 9 v0) (h : f_X10_force G v0 v1 Q S) : MT yX10_force cX10_force 3 (some .int) rm_X10_force 0 0 (fun b => [.ref (b + v0), .int v1]) G S (QI (fun r G1 S1 => G1 = G ∧ Q r S1)) := MT.ofJ (by decide) (fun b => [(0, .ref (b + v0)), (1, .int v1)]) (fun b => rfl) (fun b => Nat.le_of_ble_eq_true rfl) (fun l b D cy p e s m below meth c C hE hn => j_X10_force C hE t_v0 h)
theorem hd_X10_force : yX10_force.cls ≠ "java/lang/invoke/MethodHandle" ∧ yX10_force.cls ≠ "java/lang/invoke/VarHandle" ∧ (parseMethodDescriptor yX10_force.desc).map (fun d => d.parameters.length) = some 1 := by decide +kernel
def f_X10_forget (G : Gm) (v0 : Nat) (Q : Int32 → St → Prop) (S : St) : Prop :=
  (∃ a1, S.2.2 v0 0 = some a1 ∧ (∀ x2 : Int32, x2 = S.1 a1 5 → (∃ a3, S.2.2 v0 0 = some a3 ∧ (∀ S4, S4 = uI S a3 5 0 → Q x2 S4))))
abbrev rm_X10_forget : Room := { frames := 0, cells := 0, slots := 0, locals := 0 }
set_option maxHeartbeats 4000000 in
set_option maxRecDepth 100000 in
theorem j_X10_forget {p : Program} {l : Launch} {e : Env} {s : State} {m : MethodId} {args : Array Value} {below : List Frame} {meth : Method} {c : Code} {b : Nat} {D : va_G} {cy : Nat → ClassId} {G : Gm} {v0 : Nat} {S : St} {Q : Int32 → St → Prop} (C : CX p s m args meth c b D cy cX10_forget RX10 2 (some .int)) (hE : s.heap.size + 0 ≤ b + G.2.2) (t_v0 : ok G 9 v0) (h : f_X10_forget G v0 Q S) : J p l e rm_X10_forget s m args below meth c b D cy 2 (zI b D cy below args s G Q) 0 0 G S 0 [(0, .ref (b + v0))] [] := by
  unfold f_X10_forget at h
  refine jB C [(.aload_n 0, 1, 0)] 1 [(0, .ref (b + v0))] [.ref (b + v0)] (by decide +kernel) rfl rfl ?_
  obtain ⟨a1, e_a1, h⟩ := h
  refine jGetR C 4 (by decide +kernel : decode cX10_forget 1 = .ok (.getfield 14, 3)) rfl t_v0 kX10 0 (by decide) rfl rfl (by decide) wd_311 e_a1 rfl (fun t_a1 => ?_)
  refine jGetIN C 7 (by decide +kernel : decode cX10_forget 4 = .ok (.getfield 256, 3)) rfl t_a1 kX5 5 (by decide) rfl rfl (by decide) wn_48 ?_
  refine jTopI (fun x2 e_x2 => ?_)
  have h := h x2 e_x2
  refine jB C [(.istore_n 1, 1, 0), (.aload_n 0, 1, 0)] 9 [(1, .int x2), (0, .ref (b + v0))] [.ref (b + v0)] (by decide +kernel) rfl rfl ?_
  obtain ⟨a3, e_a3, h⟩ := h
  refine jGetR C 12 (by decide +kernel : decode cX10_forget 9 = .ok (.getfield 14, 3)) rfl t_v0 kX10 0 (by decide) rfl rfl (by decide) wd_311 e_a3 rfl (fun t_a3 => ?_)
  refine jB C [(.iconst 0, 1, 0)] 13 [(1, .int x2), (0, .ref (b + v0))] [.int 0, .ref (b + a3)] (by decide +kernel) rfl rfl ?_
  refine jPutIN C 16 (by decide +kernel : decode cX10_forget 13 = .ok (.putfield 256, 3)) rfl hE t_a3 kX5 5 (by decide) rfl rfl (by decide) rfl wn_48 rfl rfl rfl ?_
  refine jTopS (fun S4 e_S4 => ?_)
  have h := h S4 e_S4
  refine jB C [(.iload_n 1, 1, 0)] 17 [(1, .int x2), (0, .ref (b + v0))] [.int x2] (by decide +kernel) rfl rfl ?_
  exact jRetI C (by decide +kernel : decode cX10_forget 17 = .ok (.ireturn, 1)) (Nat.le_refl _) (Nat.le_refl _) ⟨rfl, h⟩
theorem ok_X10_forget {G : Gm} {v0 : Nat} {S : St} {Q : Int32 → St → Prop} (t_v0 : ok G 9 v0) (h : f_X10_forget G v0 Q S) : MT yX10_forget cX10_forget 2 (some .int) rm_X10_forget 0 0 (fun b => [.ref (b + v0)]) G S (QI (fun r G1 S1 => G1 = G ∧ Q r S1)) := MT.ofJ (by decide) (fun b => [(0, .ref (b + v0))]) (fun b => rfl) (fun b => Nat.le_of_ble_eq_true rfl) (fun l b D cy p e s m below meth c C hE hn => j_X10_forget C hE t_v0 h)
theorem hd_X10_forget : yX10_forget.cls ≠ "java/lang/invoke/MethodHandle" ∧ yX10_forget.cls ≠ "java/lang/invoke/VarHandle" ∧ (parseMethodDescriptor yX10_forget.desc).map (fun d => d.parameters.length) = some 0 := by decide +kernel
def f_X10_glass (G : Gm) (v0 : Nat) (v1 : Int32) (v2 : Int32) (Q : Int32 → St → Prop) (S : St) : Prop :=
  f_X3_lensesIn G v2 (fun r2 S1 => (if r2 = (-1) then f_X10_refuse G v0 (-1) (fun r17 S16 => Q r17 S16) S1 else (∃ a4, S1.2.2 v0 0 = some a4 ∧ f_X5_has G a4 v1 (fun r6 S5 => (if r6 = 0 then f_X10_refuse G v0 (-2) (fun r15 S14 => Q r15 S14) S5 else (∃ a8, S5.2.2 v0 3 = some a8 ∧ f_X9_empty G a8 (fun S9 => (∃ a10, S9.2.2 v0 0 = some a10 ∧ f_X5_setGlass G a10 v1 v2 (fun S11 => f_X10_accept G v0 r2 (fun r13 S12 => Q r13 S12) S11) S9)) S5))) S1))) S
abbrev rm_X10_glass : Room := { frames := 2, cells := 0, slots := 0, locals := 43 }
set_option maxHeartbeats 4000000 in
set_option maxRecDepth 100000 in
theorem j_X10_glass {p : Program} {l : Launch} {e : Env} {s : State} {m : MethodId} {args : Array Value} {below : List Frame} {meth : Method} {c : Code} {b : Nat} {D : va_G} {cy : Nat → ClassId} {G : Gm} {v0 : Nat} {v1 : Int32} {v2 : Int32} {S : St} {Q : Int32 → St → Prop} (C : CX p s m args meth c b D cy cX10_glass RX10 4 (some .int)) (hE : s.heap.size + 0 ≤ b + G.2.2) (t_v0 : ok G 9 v0) (h : f_X10_glass G v0 v1 v2 Q S) : J p l e rm_X10_glass s m args below meth c b D cy 4 (zI b D cy below args s G Q) 0 0 G S 0 [(0, .ref (b + v0)), (1, .int v1), (2, .int v2)] [] := by
  unfold f_X10_glass at h
  refine jB C [(.iload_n 2, 1, 0)] 1 [(0, .ref (b + v0)), (1, .int v1), (2, .int v2)] [.int v2] (by decide +kernel) rfl rfl ?_
  refine jcSN_I C 4 (rest := []) (ok_X3_lensesIn h) (by decide +kernel : decode cX10_glass 1 = .ok (.invokestatic 108, 3)) rfl wn_410 wd_408 wd_13 wd_409 ⟨rfl, rfl⟩ hd_X3_lensesIn ⟨Nat.le_of_ble_eq_true rfl, Nat.le_of_ble_eq_true rfl⟩ rfl rfl (Nat.le_of_ble_eq_true rfl) ⟨Nat.zero_le _, Nat.zero_le _⟩ (fun r2 S1 h => ?_)
  refine jB C [(.istore_n 3, 1, 0), (.iload_n 3, 1, 0), (.iconst (-1), 1, (-1))] 7 [(3, .int r2), (0, .ref (b + v0)), (1, .int v1), (2, .int v2)] [.int (-1), .int r2] (by decide +kernel) rfl rfl ?_
  refine jIcmp_ne C 10 16 (by decide +kernel : decode cX10_glass 7 = .ok (.if_icmp .ne 9, 3)) rfl rfl (fun c3 => ?_) (fun c3 => ?_)
  · have h := it2 h c3
    refine jB C [(.aload_n 0, 1, 0)] 17 [(3, .int r2), (0, .ref (b + v0)), (1, .int v1), (2, .int v2)] [.ref (b + v0)] (by decide +kernel) rfl rfl ?_
    obtain ⟨a4, e_a4, h⟩ := h
    refine jGetR C 20 (by decide +kernel : decode cX10_glass 17 = .ok (.getfield 14, 3)) rfl t_v0 kX10 0 (by decide) rfl rfl (by decide) wd_311 e_a4 rfl (fun t_a4 => ?_)
    refine jB C [(.iload_n 1, 1, 0)] 21 [(3, .int r2), (0, .ref (b + v0)), (1, .int v1), (2, .int v2)] [.int v1, .ref (b + a4)] (by decide +kernel) rfl rfl ?_
    refine jcVN_I C 24 (rest := []) (ok_X5_has t_a4 h) (by decide +kernel : decode cX10_glass 21 = .ok (.invokevirtual 92, 3)) rfl wn_395 wd_373 wp_4 wd_2 wd_374 ⟨rfl, rfl⟩ hd_X5_has ⟨Nat.le_of_ble_eq_true rfl, Nat.le_of_ble_eq_true rfl⟩ t_a4 kX5 (by decide) rfl rfl rfl (Nat.le_of_ble_eq_true rfl) ⟨Nat.zero_le _, Nat.zero_le _⟩ (fun r6 S5 h => ?_)
    refine jIf_ne C 27 34 (by decide +kernel : decode cX10_glass 24 = .ok (.ifCond .ne 10, 3)) rfl rfl (fun c7 => ?_) (fun c7 => ?_)
    · have h := it2 h c7
      refine jB C [(.aload_n 0, 1, 0)] 35 [(3, .int r2), (0, .ref (b + v0)), (1, .int v1), (2, .int v2)] [.ref (b + v0)] (by decide +kernel) rfl rfl ?_
      obtain ⟨a8, e_a8, h⟩ := h
      refine jGetR C 38 (by decide +kernel : decode cX10_glass 35 = .ok (.getfield 28, 3)) rfl t_v0 kX10 3 (by decide) rfl rfl (by decide) wd_314 e_a8 rfl (fun t_a8 => ?_)
      refine jcVN_V C 41 (rest := []) (ok_X9_empty t_a8 h) (by decide +kernel : decode cX10_glass 38 = .ok (.invokevirtual 82, 3)) rfl wn_359 wd_361 wp_1 wd_3 wd_362 ⟨rfl, rfl⟩ hd_X9_empty ⟨Nat.le_of_ble_eq_true rfl, Nat.le_of_ble_eq_true rfl⟩ t_a8 kX9 (by decide) rfl rfl rfl (Nat.le_of_ble_eq_true rfl) ⟨Nat.zero_le _, Nat.zero_le _⟩ (fun S9 h => ?_)
      refine jB C [(.aload_n 0, 1, 0)] 42 [(3, .int r2), (0, .ref (b + v0)), (1, .int v1), (2, .int v2)] [.ref (b + v0)] (by decide +kernel) rfl rfl ?_
      obtain ⟨a10, e_a10, h⟩ := h
      refine jGetR C 45 (by decide +kernel : decode cX10_glass 42 = .ok (.getfield 14, 3)) rfl t_v0 kX10 0 (by decide) rfl rfl (by decide) wd_311 e_a10 rfl (fun t_a10 => ?_)
      refine jB C [(.iload_n 1, 1, 0), (.iload_n 2, 1, 0)] 47 [(3, .int r2), (0, .ref (b + v0)), (1, .int v1), (2, .int v2)] [.int v2, .int v1, .ref (b + a10)] (by decide +kernel) rfl rfl ?_
      refine jcVN_V C 50 (rest := []) (ok_X5_setGlass t_a10 h) (by decide +kernel : decode cX10_glass 47 = .ok (.invokevirtual 139, 3)) rfl wn_517 wd_381 wp_5 wd_2 wd_382 ⟨rfl, rfl⟩ hd_X5_setGlass ⟨Nat.le_of_ble_eq_true rfl, Nat.le_of_ble_eq_true rfl⟩ t_a10 kX5 (by decide) rfl rfl rfl (Nat.le_of_ble_eq_true rfl) ⟨Nat.zero_le _, Nat.zero_le _⟩ (fun S11 h => ?_)
      refine jB C [(.aload_n 0, 1, 0), (.iload_n 3, 1, 0)] 52 [(3, .int r2), (0, .ref (b + v0)), (1, .int v1), (2, .int v2)] [.int r2, .ref (b + v0)] (by decide +kernel) rfl rfl ?_
      refine jcV_I C 55 (rest := []) (ok_X10_accept t_v0 h) (by decide +kernel : decode cX10_glass 52 = .ok (.invokevirtual 89, 3)) rfl wd_387 wd_389 wp_7 wd_1 wd_390 ⟨rfl, rfl⟩ hd_X10_accept ⟨Nat.le_of_ble_eq_true rfl, Nat.le_of_ble_eq_true rfl⟩ t_v0 kX10 (by decide) rfl rfl rfl (Nat.le_of_ble_eq_true rfl) ⟨Nat.zero_le _, Nat.zero_le _⟩ (fun r13 S12 h => ?_)
      exact jRetI C (by decide +kernel : decode cX10_glass 55 = .ok (.ireturn, 1)) (Nat.le_refl _) (Nat.le_refl _) ⟨rfl, h⟩
    · have h := it1 h c7
      refine jB C [(.aload_n 0, 1, 0), (.bipush (-2), 2, (-2))] 30 [(3, .int r2), (0, .ref (b + v0)), (1, .int v1), (2, .int v2)] [.int (-2), .ref (b + v0)] (by decide +kernel) rfl rfl ?_
      refine jcV_I C 33 (rest := []) (ok_X10_refuse t_v0 h) (by decide +kernel : decode cX10_glass 30 = .ok (.invokevirtual 78, 3)) rfl wd_355 wd_357 wp_0 wd_1 wd_358 ⟨rfl, rfl⟩ hd_X10_refuse ⟨Nat.le_of_ble_eq_true rfl, Nat.le_of_ble_eq_true rfl⟩ t_v0 kX10 (by decide) rfl rfl rfl (Nat.le_of_ble_eq_true rfl) ⟨Nat.zero_le _, Nat.zero_le _⟩ (fun r15 S14 h => ?_)
      exact jRetI C (by decide +kernel : decode cX10_glass 33 = .ok (.ireturn, 1)) (Nat.le_refl _) (Nat.le_refl _) ⟨rfl, h⟩
  · have h := it1 h c3
    refine jB C [(.aload_n 0, 1, 0), (.iconst (-1), 1, (-1))] 12 [(3, .int r2), (0, .ref (b + v0)), (1, .int v1), (2, .int v2)] [.int (-1), .ref (b + v0)] (by decide +kernel) rfl rfl ?_
    refine jcV_I C 15 (rest := []) (ok_X10_refuse t_v0 h) (by decide +kernel : decode cX10_glass 12 = .ok (.invokevirtual 78, 3)) rfl wd_355 wd_357 wp_0 wd_1 wd_358 ⟨rfl, rfl⟩ hd_X10_refuse ⟨Nat.le_of_ble_eq_true rfl, Nat.le_of_ble_eq_true rfl⟩ t_v0 kX10 (by decide) rfl rfl rfl (Nat.le_of_ble_eq_true rfl) ⟨Nat.zero_le _, Nat.zero_le _⟩ (fun r17 S16 h => ?_)
    exact jRetI C (by decide +kernel : decode cX10_glass 15 = .ok (.ireturn, 1)) (Nat.le_refl _) (Nat.le_refl _) ⟨rfl, h⟩
theorem ok_X10_glass {G : Gm} {v0 : Nat} {v1 : Int32} {v2 : Int32} {S : St} {Q : Int32 → St → Prop} (t_v0 : ok G 9 v0) (h : f_X10_glass G v0 v1 v2 Q S) : MT yX10_glass cX10_glass 4 (some .int) rm_X10_glass 0 0 (fun b => [.ref (b + v0), .int v1, .int v2]) G S (QI (fun r G1 S1 => G1 = G ∧ Q r S1)) := MT.ofJ (by decide) (fun b => [(0, .ref (b + v0)), (1, .int v1), (2, .int v2)]) (fun b => rfl) (fun b => Nat.le_of_ble_eq_true rfl) (fun l b D cy p e s m below meth c C hE hn => j_X10_glass C hE t_v0 h)
theorem hd_X10_glass : yX10_glass.cls ≠ "java/lang/invoke/MethodHandle" ∧ yX10_glass.cls ≠ "java/lang/invoke/VarHandle" ∧ (parseMethodDescriptor yX10_glass.desc).map (fun d => d.parameters.length) = some 2 := by decide +kernel
def f_X10_grind (G : Gm) (v0 : Nat) (v1 : Int32) (Q : Int32 → St → Prop) (S : St) : Prop :=
  (∃ a1, S.2.2 v0 5 = some a1 ∧ (∃ a2, S.2.2 v0 0 = some a2 ∧ (∃ a3, S.2.2 v0 3 = some a3 ∧ f_X1_act G a1 a2 a3 1 v1 0 0 (fun r5 S4 => f_X10_judged G v0 r5 (fun r7 S6 => Q r7 S6) S4) S)))
abbrev rm_X10_grind : Room := { frames := 6, cells := 0, slots := 0, locals := 160 }
set_option maxHeartbeats 4000000 in
set_option maxRecDepth 100000 in
theorem j_X10_grind {p : Program} {l : Launch} {e : Env} {s : State} {m : MethodId} {args : Array Value} {below : List Frame} {meth : Method} {c : Code} {b : Nat} {D : va_G} {cy : Nat → ClassId} {G : Gm} {v0 : Nat} {v1 : Int32} {S : St} {Q : Int32 → St → Prop} (C : CX p s m args meth c b D cy cX10_grind RX10 2 (some .int)) (hE : s.heap.size + 0 ≤ b + G.2.2) (t_v0 : ok G 9 v0) (h : f_X10_grind G v0 v1 Q S) : J p l e rm_X10_grind s m args below meth c b D cy 2 (zI b D cy below args s G Q) 0 0 G S 0 [(0, .ref (b + v0)), (1, .int v1)] [] := by
  unfold f_X10_grind at h
  refine jB C [(.aload_n 0, 1, 0), (.aload_n 0, 1, 0)] 2 [(0, .ref (b + v0)), (1, .int v1)] [.ref (b + v0), .ref (b + v0)] (by decide +kernel) rfl rfl ?_
  obtain ⟨a1, e_a1, h⟩ := h
  refine jGetR C 5 (by decide +kernel : decode cX10_grind 2 = .ok (.getfield 42, 3)) rfl t_v0 kX10 5 (by decide) rfl rfl (by decide) wd_316 e_a1 rfl (fun t_a1 => ?_)
  refine jB C [(.aload_n 0, 1, 0)] 6 [(0, .ref (b + v0)), (1, .int v1)] [.ref (b + v0), .ref (b + a1), .ref (b + v0)] (by decide +kernel) rfl rfl ?_
  obtain ⟨a2, e_a2, h⟩ := h
  refine jGetR C 9 (by decide +kernel : decode cX10_grind 6 = .ok (.getfield 14, 3)) rfl t_v0 kX10 0 (by decide) rfl rfl (by decide) wd_311 e_a2 rfl (fun t_a2 => ?_)
  refine jB C [(.aload_n 0, 1, 0)] 10 [(0, .ref (b + v0)), (1, .int v1)] [.ref (b + v0), .ref (b + a2), .ref (b + a1), .ref (b + v0)] (by decide +kernel) rfl rfl ?_
  obtain ⟨a3, e_a3, h⟩ := h
  refine jGetR C 13 (by decide +kernel : decode cX10_grind 10 = .ok (.getfield 28, 3)) rfl t_v0 kX10 3 (by decide) rfl rfl (by decide) wd_314 e_a3 rfl (fun t_a3 => ?_)
  refine jB C [(.iconst 1, 1, 1), (.iload_n 1, 1, 0), (.iconst 0, 1, 0), (.iconst 0, 1, 0)] 17 [(0, .ref (b + v0)), (1, .int v1)] [.int 0, .int 0, .int v1, .int 1, .ref (b + a3), .ref (b + a2), .ref (b + a1), .ref (b + v0)] (by decide +kernel) rfl rfl ?_
  refine jcVN_I C 20 (rest := [.ref (b + v0)]) (ok_X1_act t_a1 t_a2 t_a3 h) (by decide +kernel : decode cX10_grind 17 = .ok (.invokevirtual 239, 3)) rfl wn_883 wd_817 wp_69 wd_6 wd_818 ⟨rfl, rfl⟩ hd_X1_act ⟨Nat.le_of_ble_eq_true rfl, Nat.le_of_ble_eq_true rfl⟩ t_a1 kX1 (by decide) rfl rfl rfl (Nat.le_of_ble_eq_true rfl) ⟨Nat.zero_le _, Nat.zero_le _⟩ (fun r5 S4 h => ?_)
  refine jcV_I C 23 (rest := []) (ok_X10_judged t_v0 h) (by decide +kernel : decode cX10_grind 20 = .ok (.invokevirtual 243, 3)) rfl wd_884 wd_886 wp_75 wd_1 wd_887 ⟨rfl, rfl⟩ hd_X10_judged ⟨Nat.le_of_ble_eq_true rfl, Nat.le_of_ble_eq_true rfl⟩ t_v0 kX10 (by decide) rfl rfl rfl (Nat.le_of_ble_eq_true rfl) ⟨Nat.zero_le _, Nat.zero_le _⟩ (fun r7 S6 h => ?_)
  exact jRetI C (by decide +kernel : decode cX10_grind 23 = .ok (.ireturn, 1)) (Nat.le_refl _) (Nat.le_refl _) ⟨rfl, h⟩
theorem ok_X10_grind {G : Gm} {v0 : Nat} {v1 : Int32} {S : St} {Q : Int32 → St → Prop} (t_v0 : ok G 9 v0) (h : f_X10_grind G v0 v1 Q S) : MT yX10_grind cX10_grind 2 (some .int) rm_X10_grind 0 0 (fun b => [.ref (b + v0), .int v1]) G S (QI (fun r G1 S1 => G1 = G ∧ Q r S1)) := MT.ofJ (by decide) (fun b => [(0, .ref (b + v0)), (1, .int v1)]) (fun b => rfl) (fun b => Nat.le_of_ble_eq_true rfl) (fun l b D cy p e s m below meth c C hE hn => j_X10_grind C hE t_v0 h)
theorem hd_X10_grind : yX10_grind.cls ≠ "java/lang/invoke/MethodHandle" ∧ yX10_grind.cls ≠ "java/lang/invoke/VarHandle" ∧ (parseMethodDescriptor yX10_grind.desc).map (fun d => d.parameters.length) = some 1 := by decide +kernel
def f_X10_ground_29 (G : Gm) (v0 : Nat) (v1 : Int32) (v2 : Int32) (Q : Int32 → St → Prop) (S : St) : Prop :=
  (∃ a1, S.2.2 v0 4 = some a1 ∧ (∃ a2, S.2.2 v0 0 = some a2 ∧ (∃ a3, S.2.2 v0 0 = some a3 ∧ f_X5_lawAt G a3 v1 (fun r5 S4 => (∀ z, r5 = some z → ok G 7 z) ∧ f_X2_glassBy G a1 a2 r5 v2 (fun r8 S7 => f_X3_lensesIn G r8 (fun r10 S9 => Q r10 S9) S7) S4) S)))
def f_X10_ground (G : Gm) (v0 : Nat) (v1 : Int32) (v2 : Int32) (Q : Int32 → St → Prop) (S : St) : Prop :=
  (∃ a1, S.2.2 v0 0 = some a1 ∧ f_X5_has G a1 v2 (fun r3 S2 => (if r3 = 0 then Q (-1) S2 else (if v1 = (-1) then f_X10_ground_29 G v0 v1 v2 Q S2 else (∃ a6, S2.2.2 v0 0 = some a6 ∧ f_X5_hasLaw G a6 v1 (fun r8 S7 => (if r8 = 0 then Q (-1) S7 else f_X10_ground_29 G v0 v1 v2 Q S7)) S2)))) S)
abbrev rm_X10_ground : Room := { frames := 5, cells := 0, slots := 0, locals := 133 }
set_option maxHeartbeats 4000000 in
set_option maxRecDepth 100000 in
theorem j_X10_ground_29 {p : Program} {l : Launch} {e : Env} {s : State} {m : MethodId} {args : Array Value} {below : List Frame} {meth : Method} {c : Code} {b : Nat} {D : va_G} {cy : Nat → ClassId} {G : Gm} {v0 : Nat} {v1 : Int32} {v2 : Int32} {S : St} {Q : Int32 → St → Prop} (C : CX p s m args meth c b D cy cX10_ground RX10 3 (some .int)) (hE : s.heap.size + 0 ≤ b + G.2.2) (t_v0 : ok G 9 v0) (h : f_X10_ground_29 G v0 v1 v2 Q S) : J p l e rm_X10_ground s m args below meth c b D cy 3 (zI b D cy below args s G Q) 0 0 G S 29 [(0, .ref (b + v0)), (1, .int v1), (2, .int v2)] [] := by
  unfold f_X10_ground_29 at h
  refine jB C [(.aload_n 0, 1, 0)] 30 [(0, .ref (b + v0)), (1, .int v1), (2, .int v2)] [.ref (b + v0)] (by decide +kernel) rfl rfl ?_
  obtain ⟨a1, e_a1, h⟩ := h
  refine jGetR C 33 (by decide +kernel : decode cX10_ground 30 = .ok (.getfield 35, 3)) rfl t_v0 kX10 4 (by decide) rfl rfl (by decide) wd_315 e_a1 rfl (fun t_a1 => ?_)
  refine jB C [(.aload_n 0, 1, 0)] 34 [(0, .ref (b + v0)), (1, .int v1), (2, .int v2)] [.ref (b + v0), .ref (b + a1)] (by decide +kernel) rfl rfl ?_
  obtain ⟨a2, e_a2, h⟩ := h
  refine jGetR C 37 (by decide +kernel : decode cX10_ground 34 = .ok (.getfield 14, 3)) rfl t_v0 kX10 0 (by decide) rfl rfl (by decide) wd_311 e_a2 rfl (fun t_a2 => ?_)
  refine jB C [(.aload_n 0, 1, 0)] 38 [(0, .ref (b + v0)), (1, .int v1), (2, .int v2)] [.ref (b + v0), .ref (b + a2), .ref (b + a1)] (by decide +kernel) rfl rfl ?_
  obtain ⟨a3, e_a3, h⟩ := h
  refine jGetR C 41 (by decide +kernel : decode cX10_ground 38 = .ok (.getfield 14, 3)) rfl t_v0 kX10 0 (by decide) rfl rfl (by decide) wd_311 e_a3 rfl (fun t_a3 => ?_)
  refine jB C [(.iload_n 1, 1, 0)] 42 [(0, .ref (b + v0)), (1, .int v1), (2, .int v2)] [.int v1, .ref (b + a3), .ref (b + a2), .ref (b + a1)] (by decide +kernel) rfl rfl ?_
  refine jcVN_O C 45 (rest := [.ref (b + a2), .ref (b + a1)]) (ok_X5_lawAt t_a3 h) (by decide +kernel : decode cX10_ground 42 = .ok (.invokevirtual 283, 3)) rfl wn_1058 wd_451 wp_16 wd_2 wd_452 ⟨rfl, rfl⟩ hd_X5_lawAt ⟨Nat.le_of_ble_eq_true rfl, Nat.le_of_ble_eq_true rfl⟩ t_a3 kX5 (by decide) rfl rfl rfl (Nat.le_of_ble_eq_true rfl) ⟨Nat.zero_le _, Nat.zero_le _⟩ (fun r5 S4 h => ?_)
  obtain ⟨t6, h⟩ := h
  refine jB C [(.iload_n 2, 1, 0)] 46 [(0, .ref (b + v0)), (1, .int v1), (2, .int v2)] [.int v2, rv b r5, .ref (b + a2), .ref (b + a1)] (by decide +kernel) rfl rfl ?_
  refine jcVN_I C 49 (rest := []) (ok_X2_glassBy t_a1 t_a2 t6 h) (by decide +kernel : decode cX10_ground 46 = .ok (.invokevirtual 287, 3)) rfl wn_1059 wd_845 wp_72 wd_4 wd_846 ⟨rfl, rfl⟩ hd_X2_glassBy ⟨Nat.le_of_ble_eq_true rfl, Nat.le_of_ble_eq_true rfl⟩ t_a1 kX2 (by decide) rfl rfl rfl (Nat.le_of_ble_eq_true rfl) ⟨Nat.zero_le _, Nat.zero_le _⟩ (fun r8 S7 h => ?_)
  refine jcSN_I C 52 (rest := []) (ok_X3_lensesIn h) (by decide +kernel : decode cX10_ground 49 = .ok (.invokestatic 108, 3)) rfl wn_410 wd_408 wd_13 wd_409 ⟨rfl, rfl⟩ hd_X3_lensesIn ⟨Nat.le_of_ble_eq_true rfl, Nat.le_of_ble_eq_true rfl⟩ rfl rfl (Nat.le_of_ble_eq_true rfl) ⟨Nat.zero_le _, Nat.zero_le _⟩ (fun r10 S9 h => ?_)
  exact jRetI C (by decide +kernel : decode cX10_ground 52 = .ok (.ireturn, 1)) (Nat.le_refl _) (Nat.le_refl _) ⟨rfl, h⟩
set_option maxHeartbeats 4000000 in
set_option maxRecDepth 100000 in
theorem j_X10_ground {p : Program} {l : Launch} {e : Env} {s : State} {m : MethodId} {args : Array Value} {below : List Frame} {meth : Method} {c : Code} {b : Nat} {D : va_G} {cy : Nat → ClassId} {G : Gm} {v0 : Nat} {v1 : Int32} {v2 : Int32} {S : St} {Q : Int32 → St → Prop} (C : CX p s m args meth c b D cy cX10_ground RX10 3 (some .int)) (hE : s.heap.size + 0 ≤ b + G.2.2) (t_v0 : ok G 9 v0) (h : f_X10_ground G v0 v1 v2 Q S) : J p l e rm_X10_ground s m args below meth c b D cy 3 (zI b D cy below args s G Q) 0 0 G S 0 [(0, .ref (b + v0)), (1, .int v1), (2, .int v2)] [] := by
  unfold f_X10_ground at h
  refine jB C [(.aload_n 0, 1, 0)] 1 [(0, .ref (b + v0)), (1, .int v1), (2, .int v2)] [.ref (b + v0)] (by decide +kernel) rfl rfl ?_
  obtain ⟨a1, e_a1, h⟩ := h
  refine jGetR C 4 (by decide +kernel : decode cX10_ground 1 = .ok (.getfield 14, 3)) rfl t_v0 kX10 0 (by decide) rfl rfl (by decide) wd_311 e_a1 rfl (fun t_a1 => ?_)
  refine jB C [(.iload_n 2, 1, 0)] 5 [(0, .ref (b + v0)), (1, .int v1), (2, .int v2)] [.int v2, .ref (b + a1)] (by decide +kernel) rfl rfl ?_
  refine jcVN_I C 8 (rest := []) (ok_X5_has t_a1 h) (by decide +kernel : decode cX10_ground 5 = .ok (.invokevirtual 92, 3)) rfl wn_395 wd_373 wp_4 wd_2 wd_374 ⟨rfl, rfl⟩ hd_X5_has ⟨Nat.le_of_ble_eq_true rfl, Nat.le_of_ble_eq_true rfl⟩ t_a1 kX5 (by decide) rfl rfl rfl (Nat.le_of_ble_eq_true rfl) ⟨Nat.zero_le _, Nat.zero_le _⟩ (fun r3 S2 h => ?_)
  refine jIf_eq C 11 27 (by decide +kernel : decode cX10_ground 8 = .ok (.ifCond .eq 19, 3)) rfl rfl (fun c4 => ?_) (fun c4 => ?_)
  · have h := it1 h c4
    refine jB C [(.iconst (-1), 1, (-1))] 28 [(0, .ref (b + v0)), (1, .int v1), (2, .int v2)] [.int (-1)] (by decide +kernel) rfl rfl ?_
    exact jRetI C (by decide +kernel : decode cX10_ground 28 = .ok (.ireturn, 1)) (Nat.le_refl _) (Nat.le_refl _) ⟨rfl, h⟩
  · have h := it2 h c4
    refine jB C [(.iload_n 1, 1, 0), (.iconst (-1), 1, (-1))] 13 [(0, .ref (b + v0)), (1, .int v1), (2, .int v2)] [.int (-1), .int v1] (by decide +kernel) rfl rfl ?_
    refine jIcmp_eq C 16 29 (by decide +kernel : decode cX10_ground 13 = .ok (.if_icmp .eq 16, 3)) rfl rfl (fun c5 => ?_) (fun c5 => ?_)
    · have h := it1 h c5
      refine jSub [0, 1, 2] rfl ?_
      exact j_X10_ground_29 C hE t_v0 h
    · have h := it2 h c5
      refine jB C [(.aload_n 0, 1, 0)] 17 [(0, .ref (b + v0)), (1, .int v1), (2, .int v2)] [.ref (b + v0)] (by decide +kernel) rfl rfl ?_
      obtain ⟨a6, e_a6, h⟩ := h
      refine jGetR C 20 (by decide +kernel : decode cX10_ground 17 = .ok (.getfield 14, 3)) rfl t_v0 kX10 0 (by decide) rfl rfl (by decide) wd_311 e_a6 rfl (fun t_a6 => ?_)
      refine jB C [(.iload_n 1, 1, 0)] 21 [(0, .ref (b + v0)), (1, .int v1), (2, .int v2)] [.int v1, .ref (b + a6)] (by decide +kernel) rfl rfl ?_
      refine jcVN_I C 24 (rest := []) (ok_X5_hasLaw t_a6 h) (by decide +kernel : decode cX10_ground 21 = .ok (.invokevirtual 233, 3)) rfl wn_878 wd_455 wp_17 wd_2 wd_456 ⟨rfl, rfl⟩ hd_X5_hasLaw ⟨Nat.le_of_ble_eq_true rfl, Nat.le_of_ble_eq_true rfl⟩ t_a6 kX5 (by decide) rfl rfl rfl (Nat.le_of_ble_eq_true rfl) ⟨Nat.zero_le _, Nat.zero_le _⟩ (fun r8 S7 h => ?_)
      refine jIf_ne C 27 29 (by decide +kernel : decode cX10_ground 24 = .ok (.ifCond .ne 5, 3)) rfl rfl (fun c9 => ?_) (fun c9 => ?_)
      · have h := it2 h c9
        refine jSub [0, 1, 2] rfl ?_
        exact j_X10_ground_29 C hE t_v0 h
      · have h := it1 h c9
        refine jB C [(.iconst (-1), 1, (-1))] 28 [(0, .ref (b + v0)), (1, .int v1), (2, .int v2)] [.int (-1)] (by decide +kernel) rfl rfl ?_
        exact jRetI C (by decide +kernel : decode cX10_ground 28 = .ok (.ireturn, 1)) (Nat.le_refl _) (Nat.le_refl _) ⟨rfl, h⟩
theorem ok_X10_ground {G : Gm} {v0 : Nat} {v1 : Int32} {v2 : Int32} {S : St} {Q : Int32 → St → Prop} (t_v0 : ok G 9 v0) (h : f_X10_ground G v0 v1 v2 Q S) : MT yX10_ground cX10_ground 3 (some .int) rm_X10_ground 0 0 (fun b => [.ref (b + v0), .int v1, .int v2]) G S (QI (fun r G1 S1 => G1 = G ∧ Q r S1)) := MT.ofJ (by decide) (fun b => [(0, .ref (b + v0)), (1, .int v1), (2, .int v2)]) (fun b => rfl) (fun b => Nat.le_of_ble_eq_true rfl) (fun l b D cy p e s m below meth c C hE hn => j_X10_ground C hE t_v0 h)
theorem hd_X10_ground : yX10_ground.cls ≠ "java/lang/invoke/MethodHandle" ∧ yX10_ground.cls ≠ "java/lang/invoke/VarHandle" ∧ (parseMethodDescriptor yX10_ground.desc).map (fun d => d.parameters.length) = some 2 := by decide +kernel
def f_X4_rowOf_10_n (G : Gm) (v1 : Int32) (Q : Int32 → St → Prop) : Nat → Int32 → Int32 → Int32 → Int32 → St → Prop
  | 0, _, _, _, _, _ => False
  | n + 1, v2, v3, v4, v5, S => (if v1 ≤ v5 then Q v2 S else (∀ x2 : Int32, x2 = v2 + (((v3 - v3 / 7 * 7) + 1) * v4) → (∀ x3 : Int32, x3 = v3 / 7 → (∀ x4 : Int32, x4 = v4 * 10 → (f_X4_rowOf_10_n G v1 Q n) x2 x3 x4 (v5 + 1) S))))
def f_X4_rowOf_10 (G : Gm) (v1 : Int32) (Q : Int32 → St → Prop) (v2 : Int32) (v3 : Int32) (v4 : Int32) (v5 : Int32) (S : St) : Prop := ∃ n, f_X4_rowOf_10_n G v1 Q n v2 v3 v4 v5 S
def f_X4_rowOf (G : Gm) (v0 : Int32) (v1 : Int32) (Q : Int32 → St → Prop) (S : St) : Prop :=
  f_X4_rowOf_10 G v1 Q 0 v0 1 0 S
abbrev rm_X4_rowOf : Room := { frames := 0, cells := 0, slots := 0, locals := 0 }
set_option maxHeartbeats 4000000 in
set_option maxRecDepth 100000 in
theorem j_X4_rowOf_10_n {p : Program} {l : Launch} {e : Env} {s : State} {m : MethodId} {args : Array Value} {below : List Frame} {meth : Method} {c : Code} {b : Nat} {D : va_G} {cy : Nat → ClassId} {G : Gm} {v1 : Int32} {Q : Int32 → St → Prop} (C : CX p s m args meth c b D cy cX4_rowOf RX4 6 (some .int)) (hE : s.heap.size + 0 ≤ b + G.2.2) : ∀ n (v2 : Int32) (v3 : Int32) (v4 : Int32) (v5 : Int32) S, f_X4_rowOf_10_n G v1 Q n v2 v3 v4 v5 S → J p l e rm_X4_rowOf s m args below meth c b D cy 6 (zI b D cy below args s G Q) 0 0 G S 10 [(1, .int v1), (2, .int v2), (3, .int v3), (4, .int v4), (5, .int v5)] [] := by
  intro n
  induction n with
  | zero => intro v2 v3 v4 v5 S h; exact h.elim
  | succ n ih =>
    intro v2 v3 v4 v5 S h
    unfold f_X4_rowOf_10_n at h
    refine jB C [(.iload 5, 2, 0), (.iload_n 1, 1, 0)] 13 [(1, .int v1), (2, .int v2), (3, .int v3), (4, .int v4), (5, .int v5)] [.int v1, .int v5] (by decide +kernel) rfl rfl ?_
    refine jIcmp_ge C 16 46 (by decide +kernel : decode cX4_rowOf 13 = .ok (.if_icmp .ge 33, 3)) rfl rfl (fun c1 => ?_) (fun c1 => ?_)
    · have h := it1 h c1
      refine jB C [(.iload_n 2, 1, 0)] 47 [(1, .int v1), (2, .int v2), (3, .int v3), (4, .int v4), (5, .int v5)] [.int v2] (by decide +kernel) rfl rfl ?_
      exact jRetI C (by decide +kernel : decode cX4_rowOf 47 = .ok (.ireturn, 1)) (Nat.le_refl _) (Nat.le_refl _) ⟨rfl, h⟩
    · have h := it2 h c1
      refine jB C [(.iload_n 2, 1, 0), (.iload_n 3, 1, 0), (.bipush 7, 2, 7)] 20 [(1, .int v1), (2, .int v2), (3, .int v3), (4, .int v4), (5, .int v5)] [.int 7, .int v3, .int v2] (by decide +kernel) rfl rfl ?_
      refine jIrem C 21 (by decide +kernel : decode cX4_rowOf 20 = .ok (.irem, 1)) rfl (by decide) ?_
      refine jB C [(.iconst 1, 1, 1), (.iadd, 1, 0), (.iload 4, 2, 0), (.imul, 1, 0), (.iadd, 1, 0)] 27 [(1, .int v1), (2, .int v2), (3, .int v3), (4, .int v4), (5, .int v5)] [.int (v2 + (((v3 - v3 / 7 * 7) + 1) * v4))] (by decide +kernel) rfl rfl ?_
      refine jTopI (fun x2 e_x2 => ?_)
      have h := h x2 e_x2
      refine jB C [(.istore_n 2, 1, 0), (.iload_n 3, 1, 0), (.bipush 7, 2, 7)] 31 [(2, .int x2), (1, .int v1), (3, .int v3), (4, .int v4), (5, .int v5)] [.int 7, .int v3] (by decide +kernel) rfl rfl ?_
      refine jIdiv C 32 (by decide +kernel : decode cX4_rowOf 31 = .ok (.idiv, 1)) rfl (by decide) ?_
      refine jTopI (fun x3 e_x3 => ?_)
      have h := h x3 e_x3
      refine jB C [(.istore_n 3, 1, 0), (.iload 4, 2, 0), (.bipush 10, 2, 10), (.imul, 1, 0)] 38 [(3, .int x3), (2, .int x2), (1, .int v1), (4, .int v4), (5, .int v5)] [.int (v4 * 10)] (by decide +kernel) rfl rfl ?_
      refine jTopI (fun x4 e_x4 => ?_)
      have h := h x4 e_x4
      refine jB C [(.istore 4, 2, 0), (.iinc 5 1, 3, 1)] 43 [(5, .int (v5 + 1)), (4, .int x4), (3, .int x3), (2, .int x2), (1, .int v1)] [] (by decide +kernel) rfl rfl ?_
      refine jGoto C 10 (by decide +kernel : decode cX4_rowOf 43 = .ok (.goto (-33), 3)) rfl ?_
      refine jSub [4, 3, 2, 1, 0] rfl ?_
      exact ih x2 x3 x4 (v5 + 1) S h
theorem j_X4_rowOf_10 {p : Program} {l : Launch} {e : Env} {s : State} {m : MethodId} {args : Array Value} {below : List Frame} {meth : Method} {c : Code} {b : Nat} {D : va_G} {cy : Nat → ClassId} {G : Gm} {v1 : Int32} {v2 : Int32} {v3 : Int32} {v4 : Int32} {v5 : Int32} {S : St} {Q : Int32 → St → Prop} (C : CX p s m args meth c b D cy cX4_rowOf RX4 6 (some .int)) (hE : s.heap.size + 0 ≤ b + G.2.2) (h : f_X4_rowOf_10 G v1 Q v2 v3 v4 v5 S) : J p l e rm_X4_rowOf s m args below meth c b D cy 6 (zI b D cy below args s G Q) 0 0 G S 10 [(1, .int v1), (2, .int v2), (3, .int v3), (4, .int v4), (5, .int v5)] [] := by
  obtain ⟨n, h⟩ := h
  exact j_X4_rowOf_10_n C hE n v2 v3 v4 v5 S h
set_option maxHeartbeats 4000000 in
set_option maxRecDepth 100000 in
theorem j_X4_rowOf {p : Program} {l : Launch} {e : Env} {s : State} {m : MethodId} {args : Array Value} {below : List Frame} {meth : Method} {c : Code} {b : Nat} {D : va_G} {cy : Nat → ClassId} {G : Gm} {v0 : Int32} {v1 : Int32} {S : St} {Q : Int32 → St → Prop} (C : CX p s m args meth c b D cy cX4_rowOf RX4 6 (some .int)) (hE : s.heap.size + 0 ≤ b + G.2.2) (h : f_X4_rowOf G v0 v1 Q S) : J p l e rm_X4_rowOf s m args below meth c b D cy 6 (zI b D cy below args s G Q) 0 0 G S 0 [(0, .int v0), (1, .int v1)] [] := by
  unfold f_X4_rowOf at h
  refine jB C [(.iconst 0, 1, 0), (.istore_n 2, 1, 0), (.iload_n 0, 1, 0), (.istore_n 3, 1, 0), (.iconst 1, 1, 1), (.istore 4, 2, 0), (.iconst 0, 1, 0), (.istore 5, 2, 0)] 10 [(5, .int 0), (4, .int 1), (3, .int v0), (2, .int 0), (0, .int v0), (1, .int v1)] [] (by decide +kernel) rfl rfl ?_
  refine jSub [5, 3, 2, 1, 0] rfl ?_
  exact j_X4_rowOf_10 C hE h
theorem ok_X4_rowOf {G : Gm} {v0 : Int32} {v1 : Int32} {S : St} {Q : Int32 → St → Prop} (h : f_X4_rowOf G v0 v1 Q S) : MT yX4_rowOf cX4_rowOf 6 (some .int) rm_X4_rowOf 0 0 (fun b => [.int v0, .int v1]) G S (QI (fun r G1 S1 => G1 = G ∧ Q r S1)) := MT.ofJ (by decide) (fun b => [(0, .int v0), (1, .int v1)]) (fun b => rfl) (fun b => Nat.le_of_ble_eq_true rfl) (fun l b D cy p e s m below meth c C hE hn => j_X4_rowOf C hE h)
theorem hd_X4_rowOf : yX4_rowOf.cls ≠ "java/lang/invoke/MethodHandle" ∧ yX4_rowOf.cls ≠ "java/lang/invoke/VarHandle" ∧ (parseMethodDescriptor yX4_rowOf.desc).map (fun d => d.parameters.length) = some 2 := by decide +kernel
def f_X4_changesNothing_2_n (G : Gm) (v0 : Int32) (Q : Int32 → St → Prop) : Nat → Int32 → St → Prop
  | 0, _, _ => False
  | n + 1, v1, S => (if 256 ≤ v1 then Q 1 S else f_X3_through G v0 v1 (fun r3 S2 => (if r3 = v1 then (f_X4_changesNothing_2_n G v0 Q n) (v1 + 1) S2 else Q 0 S2)) S)
def f_X4_changesNothing_2 (G : Gm) (v0 : Int32) (Q : Int32 → St → Prop) (v1 : Int32) (S : St) : Prop := ∃ n, f_X4_changesNothing_2_n G v0 Q n v1 S
def f_X4_changesNothing (G : Gm) (v0 : Int32) (Q : Int32 → St → Prop) (S : St) : Prop :=
  f_X4_changesNothing_2 G v0 Q 0 S
abbrev rm_X4_changesNothing : Room := { frames := 2, cells := 0, slots := 0, locals := 47 }
set_option maxHeartbeats 4000000 in
set_option maxRecDepth 100000 in
theorem j_X4_changesNothing_2_n {p : Program} {l : Launch} {e : Env} {s : State} {m : MethodId} {args : Array Value} {below : List Frame} {meth : Method} {c : Code} {b : Nat} {D : va_G} {cy : Nat → ClassId} {G : Gm} {v0 : Int32} {Q : Int32 → St → Prop} (C : CX p s m args meth c b D cy cX4_changesNothing RX4 2 (some .boolean)) (hE : s.heap.size + 0 ≤ b + G.2.2) : ∀ n (v1 : Int32) S, f_X4_changesNothing_2_n G v0 Q n v1 S → J p l e rm_X4_changesNothing s m args below meth c b D cy 2 (zI b D cy below args s G Q) 0 0 G S 2 [(0, .int v0), (1, .int v1)] [] := by
  intro n
  induction n with
  | zero => intro v1 S h; exact h.elim
  | succ n ih =>
    intro v1 S h
    unfold f_X4_changesNothing_2_n at h
    refine jB C [(.iload_n 1, 1, 0), (.sipush 256, 3, 256)] 6 [(0, .int v0), (1, .int v1)] [.int 256, .int v1] (by decide +kernel) rfl rfl ?_
    refine jIcmp_ge C 9 26 (by decide +kernel : decode cX4_changesNothing 6 = .ok (.if_icmp .ge 20, 3)) rfl rfl (fun c1 => ?_) (fun c1 => ?_)
    · have h := it1 h c1
      refine jB C [(.iconst 1, 1, 1)] 27 [(0, .int v0), (1, .int v1)] [.int 1] (by decide +kernel) rfl rfl ?_
      exact jRetZ C (by decide +kernel : decode cX4_changesNothing 27 = .ok (.ireturn, 1)) (Nat.le_refl _) (Nat.le_refl _) (by decide) ⟨rfl, h⟩
    · have h := it2 h c1
      refine jB C [(.iload_n 0, 1, 0), (.iload_n 1, 1, 0)] 11 [(0, .int v0), (1, .int v1)] [.int v1, .int v0] (by decide +kernel) rfl rfl ?_
      refine jcSN_I C 14 (rest := []) (ok_X3_through h) (by decide +kernel : decode cX4_changesNothing 11 = .ok (.invokestatic 99, 3)) rfl wn_962 wd_421 wd_13 wd_422 ⟨rfl, rfl⟩ hd_X3_through ⟨Nat.le_of_ble_eq_true rfl, Nat.le_of_ble_eq_true rfl⟩ rfl rfl (Nat.le_of_ble_eq_true rfl) ⟨Nat.zero_le _, Nat.zero_le _⟩ (fun r3 S2 h => ?_)
      refine jB C [(.iload_n 1, 1, 0)] 15 [(0, .int v0), (1, .int v1)] [.int v1, .int r3] (by decide +kernel) rfl rfl ?_
      refine jIcmp_eq C 18 20 (by decide +kernel : decode cX4_changesNothing 15 = .ok (.if_icmp .eq 5, 3)) rfl rfl (fun c4 => ?_) (fun c4 => ?_)
      · have h := it1 h c4
        refine jB C [(.iinc 1 1, 3, 1)] 23 [(1, .int (v1 + 1)), (0, .int v0)] [] (by decide +kernel) rfl rfl ?_
        refine jGoto C 2 (by decide +kernel : decode cX4_changesNothing 23 = .ok (.goto (-21), 3)) rfl ?_
        refine jSub [1, 0] rfl ?_
        exact ih (v1 + 1) S2 h
      · have h := it2 h c4
        refine jB C [(.iconst 0, 1, 0)] 19 [(0, .int v0), (1, .int v1)] [.int 0] (by decide +kernel) rfl rfl ?_
        exact jRetZ C (by decide +kernel : decode cX4_changesNothing 19 = .ok (.ireturn, 1)) (Nat.le_refl _) (Nat.le_refl _) (by decide) ⟨rfl, h⟩
theorem j_X4_changesNothing_2 {p : Program} {l : Launch} {e : Env} {s : State} {m : MethodId} {args : Array Value} {below : List Frame} {meth : Method} {c : Code} {b : Nat} {D : va_G} {cy : Nat → ClassId} {G : Gm} {v0 : Int32} {v1 : Int32} {S : St} {Q : Int32 → St → Prop} (C : CX p s m args meth c b D cy cX4_changesNothing RX4 2 (some .boolean)) (hE : s.heap.size + 0 ≤ b + G.2.2) (h : f_X4_changesNothing_2 G v0 Q v1 S) : J p l e rm_X4_changesNothing s m args below meth c b D cy 2 (zI b D cy below args s G Q) 0 0 G S 2 [(0, .int v0), (1, .int v1)] [] := by
  obtain ⟨n, h⟩ := h
  exact j_X4_changesNothing_2_n C hE n v1 S h
set_option maxHeartbeats 4000000 in
set_option maxRecDepth 100000 in
theorem j_X4_changesNothing {p : Program} {l : Launch} {e : Env} {s : State} {m : MethodId} {args : Array Value} {below : List Frame} {meth : Method} {c : Code} {b : Nat} {D : va_G} {cy : Nat → ClassId} {G : Gm} {v0 : Int32} {S : St} {Q : Int32 → St → Prop} (C : CX p s m args meth c b D cy cX4_changesNothing RX4 2 (some .boolean)) (hE : s.heap.size + 0 ≤ b + G.2.2) (h : f_X4_changesNothing G v0 Q S) : J p l e rm_X4_changesNothing s m args below meth c b D cy 2 (zI b D cy below args s G Q) 0 0 G S 0 [(0, .int v0)] [] := by
  unfold f_X4_changesNothing at h
  refine jB C [(.iconst 0, 1, 0), (.istore_n 1, 1, 0)] 2 [(1, .int 0), (0, .int v0)] [] (by decide +kernel) rfl rfl ?_
  refine jSub [1, 0] rfl ?_
  exact j_X4_changesNothing_2 C hE h
theorem ok_X4_changesNothing {G : Gm} {v0 : Int32} {S : St} {Q : Int32 → St → Prop} (h : f_X4_changesNothing G v0 Q S) : MT yX4_changesNothing cX4_changesNothing 2 (some .boolean) rm_X4_changesNothing 0 0 (fun b => [.int v0]) G S (QI (fun r G1 S1 => G1 = G ∧ Q r S1)) := MT.ofJ (by decide) (fun b => [(0, .int v0)]) (fun b => rfl) (fun b => Nat.le_of_ble_eq_true rfl) (fun l b D cy p e s m below meth c C hE hn => j_X4_changesNothing C hE h)
theorem hd_X4_changesNothing : yX4_changesNothing.cls ≠ "java/lang/invoke/MethodHandle" ∧ yX4_changesNothing.cls ≠ "java/lang/invoke/VarHandle" ∧ (parseMethodDescriptor yX4_changesNothing.desc).map (fun d => d.parameters.length) = some 1 := by decide +kernel
def f_X8_empty (G : Gm) (v0 : Nat) (Q : St → Prop) (S : St) : Prop :=
  (∀ S1, S1 = uI S v0 5 0 → (∀ S2, S2 = uI S1 v0 6 0 → Q S2))
abbrev rm_X8_empty : Room := { frames := 0, cells := 0, slots := 0, locals := 0 }
set_option maxHeartbeats 4000000 in
set_option maxRecDepth 100000 in
theorem j_X8_empty {p : Program} {l : Launch} {e : Env} {s : State} {m : MethodId} {args : Array Value} {below : List Frame} {meth : Method} {c : Code} {b : Nat} {D : va_G} {cy : Nat → ClassId} {G : Gm} {v0 : Nat} {S : St} {Q : St → Prop} (C : CX p s m args meth c b D cy cX8_empty RX8 1 none) (hE : s.heap.size + 0 ≤ b + G.2.2) (t_v0 : ok G 7 v0) (h : f_X8_empty G v0 Q S) : J p l e rm_X8_empty s m args below meth c b D cy 1 (zV b D cy below args s G Q) 0 0 G S 0 [(0, .ref (b + v0))] [] := by
  unfold f_X8_empty at h
  refine jB C [(.aload_n 0, 1, 0), (.iconst 0, 1, 0)] 2 [(0, .ref (b + v0))] [.int 0, .ref (b + v0)] (by decide +kernel) rfl rfl ?_
  refine jPutI C 5 (by decide +kernel : decode cX8_empty 2 = .ok (.putfield 31, 3)) rfl hE t_v0 kX8 5 (by decide) rfl rfl (by decide) rfl wd_255 rfl rfl rfl ?_
  refine jTopS (fun S1 e_S1 => ?_)
  have h := h S1 e_S1
  refine jB C [(.aload_n 0, 1, 0), (.iconst 0, 1, 0)] 7 [(0, .ref (b + v0))] [.int 0, .ref (b + v0)] (by decide +kernel) rfl rfl ?_
  refine jPutI C 10 (by decide +kernel : decode cX8_empty 7 = .ok (.putfield 35, 3)) rfl hE t_v0 kX8 6 (by decide) rfl rfl (by decide) rfl wd_258 rfl rfl rfl ?_
  refine jTopS (fun S2 e_S2 => ?_)
  have h := h S2 e_S2
  exact jRetV C (by decide +kernel : decode cX8_empty 10 = .ok (.return_, 1)) (Nat.le_refl _) (Nat.le_refl _) ⟨rfl, h⟩
theorem ok_X8_empty {G : Gm} {v0 : Nat} {S : St} {Q : St → Prop} (t_v0 : ok G 7 v0) (h : f_X8_empty G v0 Q S) : MT yX8_empty cX8_empty 1 none rm_X8_empty 0 0 (fun b => [.ref (b + v0)]) G S (QV (fun G1 S1 => G1 = G ∧ Q S1)) := MT.ofJ (by decide) (fun b => [(0, .ref (b + v0))]) (fun b => rfl) (fun b => Nat.le_of_ble_eq_true rfl) (fun l b D cy p e s m below meth c C hE hn => j_X8_empty C hE t_v0 h)
theorem hd_X8_empty : yX8_empty.cls ≠ "java/lang/invoke/MethodHandle" ∧ yX8_empty.cls ≠ "java/lang/invoke/VarHandle" ∧ (parseMethodDescriptor yX8_empty.desc).map (fun d => d.parameters.length) = some 0 := by decide +kernel
def f_X6_sortOf_14 (G : Gm) (v0 : Int32) (Q : Int32 → St → Prop) (S : St) : Prop :=
  (if v0 < 48 then Q 0 S else (if 57 < v0 then Q 0 S else Q 2 S))
def f_X6_sortOf (G : Gm) (v0 : Int32) (Q : Int32 → St → Prop) (S : St) : Prop :=
  (if v0 < 97 then f_X6_sortOf_14 G v0 Q S else (if 122 < v0 then f_X6_sortOf_14 G v0 Q S else Q 1 S))
abbrev rm_X6_sortOf : Room := { frames := 0, cells := 0, slots := 0, locals := 0 }
set_option maxHeartbeats 4000000 in
set_option maxRecDepth 100000 in
theorem j_X6_sortOf_14 {p : Program} {l : Launch} {e : Env} {s : State} {m : MethodId} {args : Array Value} {below : List Frame} {meth : Method} {c : Code} {b : Nat} {D : va_G} {cy : Nat → ClassId} {G : Gm} {v0 : Int32} {S : St} {Q : Int32 → St → Prop} (C : CX p s m args meth c b D cy cX6_sortOf RX6 1 (some .int)) (hE : s.heap.size + 0 ≤ b + G.2.2) (h : f_X6_sortOf_14 G v0 Q S) : J p l e rm_X6_sortOf s m args below meth c b D cy 1 (zI b D cy below args s G Q) 0 0 G S 14 [(0, .int v0)] [] := by
  unfold f_X6_sortOf_14 at h
  refine jB C [(.iload_n 0, 1, 0), (.bipush 48, 2, 48)] 17 [(0, .int v0)] [.int 48, .int v0] (by decide +kernel) rfl rfl ?_
  refine jIcmp_lt C 20 30 (by decide +kernel : decode cX6_sortOf 17 = .ok (.if_icmp .lt 13, 3)) rfl rfl (fun c1 => ?_) (fun c1 => ?_)
  · have h := it1 h c1
    refine jB C [(.iconst 0, 1, 0)] 31 [(0, .int v0)] [.int 0] (by decide +kernel) rfl rfl ?_
    exact jRetI C (by decide +kernel : decode cX6_sortOf 31 = .ok (.ireturn, 1)) (Nat.le_refl _) (Nat.le_refl _) ⟨rfl, h⟩
  · have h := it2 h c1
    refine jB C [(.iload_n 0, 1, 0), (.bipush 57, 2, 57)] 23 [(0, .int v0)] [.int 57, .int v0] (by decide +kernel) rfl rfl ?_
    refine jIcmp_gt C 26 30 (by decide +kernel : decode cX6_sortOf 23 = .ok (.if_icmp .gt 7, 3)) rfl rfl (fun c2 => ?_) (fun c2 => ?_)
    · have h := it1 h c2
      refine jB C [(.iconst 0, 1, 0)] 31 [(0, .int v0)] [.int 0] (by decide +kernel) rfl rfl ?_
      exact jRetI C (by decide +kernel : decode cX6_sortOf 31 = .ok (.ireturn, 1)) (Nat.le_refl _) (Nat.le_refl _) ⟨rfl, h⟩
    · have h := it2 h c2
      refine jB C [(.iconst 2, 1, 2)] 27 [(0, .int v0)] [.int 2] (by decide +kernel) rfl rfl ?_
      refine jGoto C 31 (by decide +kernel : decode cX6_sortOf 27 = .ok (.goto 4, 3)) rfl ?_
      exact jRetI C (by decide +kernel : decode cX6_sortOf 31 = .ok (.ireturn, 1)) (Nat.le_refl _) (Nat.le_refl _) ⟨rfl, h⟩
set_option maxHeartbeats 4000000 in
set_option maxRecDepth 100000 in
theorem j_X6_sortOf {p : Program} {l : Launch} {e : Env} {s : State} {m : MethodId} {args : Array Value} {below : List Frame} {meth : Method} {c : Code} {b : Nat} {D : va_G} {cy : Nat → ClassId} {G : Gm} {v0 : Int32} {S : St} {Q : Int32 → St → Prop} (C : CX p s m args meth c b D cy cX6_sortOf RX6 1 (some .int)) (hE : s.heap.size + 0 ≤ b + G.2.2) (h : f_X6_sortOf G v0 Q S) : J p l e rm_X6_sortOf s m args below meth c b D cy 1 (zI b D cy below args s G Q) 0 0 G S 0 [(0, .int v0)] [] := by
  unfold f_X6_sortOf at h
  refine jB C [(.iload_n 0, 1, 0), (.bipush 97, 2, 97)] 3 [(0, .int v0)] [.int 97, .int v0] (by decide +kernel) rfl rfl ?_
  refine jIcmp_lt C 6 14 (by decide +kernel : decode cX6_sortOf 3 = .ok (.if_icmp .lt 11, 3)) rfl rfl (fun c1 => ?_) (fun c1 => ?_)
  · have h := it1 h c1
    refine jSub [0] rfl ?_
    exact j_X6_sortOf_14 C hE h
  · have h := it2 h c1
    refine jB C [(.iload_n 0, 1, 0), (.bipush 122, 2, 122)] 9 [(0, .int v0)] [.int 122, .int v0] (by decide +kernel) rfl rfl ?_
    refine jIcmp_gt C 12 14 (by decide +kernel : decode cX6_sortOf 9 = .ok (.if_icmp .gt 5, 3)) rfl rfl (fun c2 => ?_) (fun c2 => ?_)
    · have h := it1 h c2
      refine jSub [0] rfl ?_
      exact j_X6_sortOf_14 C hE h
    · have h := it2 h c2
      refine jB C [(.iconst 1, 1, 1)] 13 [(0, .int v0)] [.int 1] (by decide +kernel) rfl rfl ?_
      exact jRetI C (by decide +kernel : decode cX6_sortOf 13 = .ok (.ireturn, 1)) (Nat.le_refl _) (Nat.le_refl _) ⟨rfl, h⟩
theorem ok_X6_sortOf {G : Gm} {v0 : Int32} {S : St} {Q : Int32 → St → Prop} (h : f_X6_sortOf G v0 Q S) : MT yX6_sortOf cX6_sortOf 1 (some .int) rm_X6_sortOf 0 0 (fun b => [.int v0]) G S (QI (fun r G1 S1 => G1 = G ∧ Q r S1)) := MT.ofJ (by decide) (fun b => [(0, .int v0)]) (fun b => rfl) (fun b => Nat.le_of_ble_eq_true rfl) (fun l b D cy p e s m below meth c C hE hn => j_X6_sortOf C hE h)
theorem hd_X6_sortOf : yX6_sortOf.cls ≠ "java/lang/invoke/MethodHandle" ∧ yX6_sortOf.cls ≠ "java/lang/invoke/VarHandle" ∧ (parseMethodDescriptor yX6_sortOf.desc).map (fun d => d.parameters.length) = some 1 := by decide +kernel
def f_X6_startsToken (G : Gm) (v0 : Nat) (v1 : Int32) (Q : Int32 → St → Prop) (S : St) : Prop :=
  f_X6_byteAt G v0 v1 (fun r2 S1 => f_X6_sortOf G r2 (fun r4 S3 => (if r4 = 0 then f_X6_byteAt G v0 v1 (fun r12 S11 => (if r12 = 32 then Q 0 S11 else Q 1 S11)) S3 else f_X6_byteAt G v0 (v1 - 1) (fun r7 S6 => f_X6_sortOf G r7 (fun r9 S8 => (if r9 = r4 then Q 0 S8 else Q 1 S8)) S6) S3)) S1) S
abbrev rm_X6_startsToken : Room := { frames := 1, cells := 0, slots := 0, locals := 21 }
set_option maxHeartbeats 4000000 in
set_option maxRecDepth 100000 in
theorem j_X6_startsToken {p : Program} {l : Launch} {e : Env} {s : State} {m : MethodId} {args : Array Value} {below : List Frame} {meth : Method} {c : Code} {b : Nat} {D : va_G} {cy : Nat → ClassId} {G : Gm} {v0 : Nat} {v1 : Int32} {S : St} {Q : Int32 → St → Prop} (C : CX p s m args meth c b D cy cX6_startsToken RX6 3 (some .boolean)) (hE : s.heap.size + 0 ≤ b + G.2.2) (t_v0 : ok G 5 v0) (h : f_X6_startsToken G v0 v1 Q S) : J p l e rm_X6_startsToken s m args below meth c b D cy 3 (zI b D cy below args s G Q) 0 0 G S 0 [(0, .ref (b + v0)), (1, .int v1)] [] := by
  unfold f_X6_startsToken at h
  refine jB C [(.aload_n 0, 1, 0), (.iload_n 1, 1, 0)] 2 [(0, .ref (b + v0)), (1, .int v1)] [.int v1, .ref (b + v0)] (by decide +kernel) rfl rfl ?_
  refine jcV_I C 5 (rest := []) (ok_X6_byteAt t_v0 h) (by decide +kernel : decode cX6_startsToken 2 = .ok (.invokevirtual 40, 3)) rfl wd_569 wd_571 wp_31 wd_9 wd_572 ⟨rfl, rfl⟩ hd_X6_byteAt ⟨Nat.le_of_ble_eq_true rfl, Nat.le_of_ble_eq_true rfl⟩ t_v0 kX6 (by decide) rfl rfl rfl (Nat.le_of_ble_eq_true rfl) ⟨Nat.zero_le _, Nat.zero_le _⟩ (fun r2 S1 h => ?_)
  refine jcS_I C 8 (rest := []) (ok_X6_sortOf h) (by decide +kernel : decode cX6_startsToken 5 = .ok (.invokestatic 77, 3)) rfl wd_603 wd_604 wd_9 wd_605 ⟨rfl, rfl⟩ hd_X6_sortOf ⟨Nat.le_of_ble_eq_true rfl, Nat.le_of_ble_eq_true rfl⟩ rfl rfl (Nat.le_of_ble_eq_true rfl) ⟨Nat.zero_le _, Nat.zero_le _⟩ (fun r4 S3 h => ?_)
  refine jB C [(.istore_n 2, 1, 0), (.iload_n 2, 1, 0)] 10 [(2, .int r4), (0, .ref (b + v0)), (1, .int v1)] [.int r4] (by decide +kernel) rfl rfl ?_
  refine jIf_ne C 13 31 (by decide +kernel : decode cX6_startsToken 10 = .ok (.ifCond .ne 21, 3)) rfl rfl (fun c5 => ?_) (fun c5 => ?_)
  · have h := it2 h c5
    refine jB C [(.aload_n 0, 1, 0), (.iload_n 1, 1, 0), (.iconst 1, 1, 1), (.isub, 1, 0)] 35 [(2, .int r4), (0, .ref (b + v0)), (1, .int v1)] [.int (v1 - 1), .ref (b + v0)] (by decide +kernel) rfl rfl ?_
    refine jcV_I C 38 (rest := []) (ok_X6_byteAt t_v0 h) (by decide +kernel : decode cX6_startsToken 35 = .ok (.invokevirtual 40, 3)) rfl wd_569 wd_571 wp_31 wd_9 wd_572 ⟨rfl, rfl⟩ hd_X6_byteAt ⟨Nat.le_of_ble_eq_true rfl, Nat.le_of_ble_eq_true rfl⟩ t_v0 kX6 (by decide) rfl rfl rfl (Nat.le_of_ble_eq_true rfl) ⟨Nat.zero_le _, Nat.zero_le _⟩ (fun r7 S6 h => ?_)
    refine jcS_I C 41 (rest := []) (ok_X6_sortOf h) (by decide +kernel : decode cX6_startsToken 38 = .ok (.invokestatic 77, 3)) rfl wd_603 wd_604 wd_9 wd_605 ⟨rfl, rfl⟩ hd_X6_sortOf ⟨Nat.le_of_ble_eq_true rfl, Nat.le_of_ble_eq_true rfl⟩ rfl rfl (Nat.le_of_ble_eq_true rfl) ⟨Nat.zero_le _, Nat.zero_le _⟩ (fun r9 S8 h => ?_)
    refine jB C [(.iload_n 2, 1, 0)] 42 [(2, .int r4), (0, .ref (b + v0)), (1, .int v1)] [.int r4, .int r9] (by decide +kernel) rfl rfl ?_
    refine jIcmp_eq C 45 49 (by decide +kernel : decode cX6_startsToken 42 = .ok (.if_icmp .eq 7, 3)) rfl rfl (fun c10 => ?_) (fun c10 => ?_)
    · have h := it1 h c10
      refine jB C [(.iconst 0, 1, 0)] 50 [(2, .int r4), (0, .ref (b + v0)), (1, .int v1)] [.int 0] (by decide +kernel) rfl rfl ?_
      exact jRetZ C (by decide +kernel : decode cX6_startsToken 50 = .ok (.ireturn, 1)) (Nat.le_refl _) (Nat.le_refl _) (by decide) ⟨rfl, h⟩
    · have h := it2 h c10
      refine jB C [(.iconst 1, 1, 1)] 46 [(2, .int r4), (0, .ref (b + v0)), (1, .int v1)] [.int 1] (by decide +kernel) rfl rfl ?_
      refine jGoto C 50 (by decide +kernel : decode cX6_startsToken 46 = .ok (.goto 4, 3)) rfl ?_
      exact jRetZ C (by decide +kernel : decode cX6_startsToken 50 = .ok (.ireturn, 1)) (Nat.le_refl _) (Nat.le_refl _) (by decide) ⟨rfl, h⟩
  · have h := it1 h c5
    refine jB C [(.aload_n 0, 1, 0), (.iload_n 1, 1, 0)] 15 [(2, .int r4), (0, .ref (b + v0)), (1, .int v1)] [.int v1, .ref (b + v0)] (by decide +kernel) rfl rfl ?_
    refine jcV_I C 18 (rest := []) (ok_X6_byteAt t_v0 h) (by decide +kernel : decode cX6_startsToken 15 = .ok (.invokevirtual 40, 3)) rfl wd_569 wd_571 wp_31 wd_9 wd_572 ⟨rfl, rfl⟩ hd_X6_byteAt ⟨Nat.le_of_ble_eq_true rfl, Nat.le_of_ble_eq_true rfl⟩ t_v0 kX6 (by decide) rfl rfl rfl (Nat.le_of_ble_eq_true rfl) ⟨Nat.zero_le _, Nat.zero_le _⟩ (fun r12 S11 h => ?_)
    refine jB C [(.bipush 32, 2, 32)] 20 [(2, .int r4), (0, .ref (b + v0)), (1, .int v1)] [.int 32, .int r12] (by decide +kernel) rfl rfl ?_
    refine jIcmp_eq C 23 27 (by decide +kernel : decode cX6_startsToken 20 = .ok (.if_icmp .eq 7, 3)) rfl rfl (fun c13 => ?_) (fun c13 => ?_)
    · have h := it1 h c13
      refine jB C [(.iconst 0, 1, 0)] 28 [(2, .int r4), (0, .ref (b + v0)), (1, .int v1)] [.int 0] (by decide +kernel) rfl rfl ?_
      refine jGoto C 50 (by decide +kernel : decode cX6_startsToken 28 = .ok (.goto 22, 3)) rfl ?_
      exact jRetZ C (by decide +kernel : decode cX6_startsToken 50 = .ok (.ireturn, 1)) (Nat.le_refl _) (Nat.le_refl _) (by decide) ⟨rfl, h⟩
    · have h := it2 h c13
      refine jB C [(.iconst 1, 1, 1)] 24 [(2, .int r4), (0, .ref (b + v0)), (1, .int v1)] [.int 1] (by decide +kernel) rfl rfl ?_
      refine jGoto C 50 (by decide +kernel : decode cX6_startsToken 24 = .ok (.goto 26, 3)) rfl ?_
      exact jRetZ C (by decide +kernel : decode cX6_startsToken 50 = .ok (.ireturn, 1)) (Nat.le_refl _) (Nat.le_refl _) (by decide) ⟨rfl, h⟩
theorem ok_X6_startsToken {G : Gm} {v0 : Nat} {v1 : Int32} {S : St} {Q : Int32 → St → Prop} (t_v0 : ok G 5 v0) (h : f_X6_startsToken G v0 v1 Q S) : MT yX6_startsToken cX6_startsToken 3 (some .boolean) rm_X6_startsToken 0 0 (fun b => [.ref (b + v0), .int v1]) G S (QI (fun r G1 S1 => G1 = G ∧ Q r S1)) := MT.ofJ (by decide) (fun b => [(0, .ref (b + v0)), (1, .int v1)]) (fun b => rfl) (fun b => Nat.le_of_ble_eq_true rfl) (fun l b D cy p e s m below meth c C hE hn => j_X6_startsToken C hE t_v0 h)
theorem hd_X6_startsToken : yX6_startsToken.cls ≠ "java/lang/invoke/MethodHandle" ∧ yX6_startsToken.cls ≠ "java/lang/invoke/VarHandle" ∧ (parseMethodDescriptor yX6_startsToken.desc).map (fun d => d.parameters.length) = some 1 := by decide +kernel
def f_X6_pastToken_4_n (G : Gm) (v0 : Nat) (Q : Int32 → St → Prop) : Nat → Int32 → St → Prop
  | 0, _, _ => False
  | n + 1, v2, S => (if (S.1 v0 1) ≤ v2 then Q v2 S else f_X6_startsToken G v0 v2 (fun r3 S2 => (if r3 = 0 then f_X6_byteAt G v0 v2 (fun r6 S5 => (if r6 = 32 then Q v2 S5 else (f_X6_pastToken_4_n G v0 Q n) (v2 + 1) S5)) S2 else Q v2 S2)) S)
def f_X6_pastToken_4 (G : Gm) (v0 : Nat) (Q : Int32 → St → Prop) (v2 : Int32) (S : St) : Prop := ∃ n, f_X6_pastToken_4_n G v0 Q n v2 S
def f_X6_pastToken (G : Gm) (v0 : Nat) (v1 : Int32) (Q : Int32 → St → Prop) (S : St) : Prop :=
  (∀ x1 : Int32, x1 = v1 + 1 → f_X6_pastToken_4 G v0 Q x1 S)
abbrev rm_X6_pastToken : Room := { frames := 2, cells := 0, slots := 0, locals := 43 }
set_option maxHeartbeats 4000000 in
set_option maxRecDepth 100000 in
theorem j_X6_pastToken_4_n {p : Program} {l : Launch} {e : Env} {s : State} {m : MethodId} {args : Array Value} {below : List Frame} {meth : Method} {c : Code} {b : Nat} {D : va_G} {cy : Nat → ClassId} {G : Gm} {v0 : Nat} {Q : Int32 → St → Prop} (C : CX p s m args meth c b D cy cX6_pastToken RX6 3 (some .int)) (hE : s.heap.size + 0 ≤ b + G.2.2) (t_v0 : ok G 5 v0) : ∀ n (v2 : Int32) S, f_X6_pastToken_4_n G v0 Q n v2 S → J p l e rm_X6_pastToken s m args below meth c b D cy 3 (zI b D cy below args s G Q) 0 0 G S 4 [(0, .ref (b + v0)), (2, .int v2)] [] := by
  intro n
  induction n with
  | zero => intro v2 S h; exact h.elim
  | succ n ih =>
    intro v2 S h
    unfold f_X6_pastToken_4_n at h
    refine jB C [(.iload_n 2, 1, 0), (.aload_n 0, 1, 0)] 6 [(0, .ref (b + v0)), (2, .int v2)] [.ref (b + v0), .int v2] (by decide +kernel) rfl rfl ?_
    refine jGetI C 9 (by decide +kernel : decode cX6_pastToken 6 = .ok (.getfield 37, 3)) rfl t_v0 kX6 1 (by decide) rfl rfl (by decide) wd_275 ?_
    refine jIcmp_ge C 12 36 (by decide +kernel : decode cX6_pastToken 9 = .ok (.if_icmp .ge 27, 3)) rfl rfl (fun c1 => ?_) (fun c1 => ?_)
    · have h := it1 h c1
      refine jB C [(.iload_n 2, 1, 0)] 37 [(0, .ref (b + v0)), (2, .int v2)] [.int v2] (by decide +kernel) rfl rfl ?_
      exact jRetI C (by decide +kernel : decode cX6_pastToken 37 = .ok (.ireturn, 1)) (Nat.le_refl _) (Nat.le_refl _) ⟨rfl, h⟩
    · have h := it2 h c1
      refine jB C [(.aload_n 0, 1, 0), (.iload_n 2, 1, 0)] 14 [(0, .ref (b + v0)), (2, .int v2)] [.int v2, .ref (b + v0)] (by decide +kernel) rfl rfl ?_
      refine jcV_I C 17 (rest := []) (ok_X6_startsToken t_v0 h) (by decide +kernel : decode cX6_pastToken 14 = .ok (.invokevirtual 73, 3)) rfl wd_599 wd_601 wp_36 wd_9 wd_602 ⟨rfl, rfl⟩ hd_X6_startsToken ⟨Nat.le_of_ble_eq_true rfl, Nat.le_of_ble_eq_true rfl⟩ t_v0 kX6 (by decide) rfl rfl rfl (Nat.le_of_ble_eq_true rfl) ⟨Nat.zero_le _, Nat.zero_le _⟩ (fun r3 S2 h => ?_)
      refine jIf_ne C 20 36 (by decide +kernel : decode cX6_pastToken 17 = .ok (.ifCond .ne 19, 3)) rfl rfl (fun c4 => ?_) (fun c4 => ?_)
      · have h := it2 h c4
        refine jB C [(.iload_n 2, 1, 0)] 37 [(0, .ref (b + v0)), (2, .int v2)] [.int v2] (by decide +kernel) rfl rfl ?_
        exact jRetI C (by decide +kernel : decode cX6_pastToken 37 = .ok (.ireturn, 1)) (Nat.le_refl _) (Nat.le_refl _) ⟨rfl, h⟩
      · have h := it1 h c4
        refine jB C [(.aload_n 0, 1, 0), (.iload_n 2, 1, 0)] 22 [(0, .ref (b + v0)), (2, .int v2)] [.int v2, .ref (b + v0)] (by decide +kernel) rfl rfl ?_
        refine jcV_I C 25 (rest := []) (ok_X6_byteAt t_v0 h) (by decide +kernel : decode cX6_pastToken 22 = .ok (.invokevirtual 40, 3)) rfl wd_569 wd_571 wp_31 wd_9 wd_572 ⟨rfl, rfl⟩ hd_X6_byteAt ⟨Nat.le_of_ble_eq_true rfl, Nat.le_of_ble_eq_true rfl⟩ t_v0 kX6 (by decide) rfl rfl rfl (Nat.le_of_ble_eq_true rfl) ⟨Nat.zero_le _, Nat.zero_le _⟩ (fun r6 S5 h => ?_)
        refine jB C [(.bipush 32, 2, 32)] 27 [(0, .ref (b + v0)), (2, .int v2)] [.int 32, .int r6] (by decide +kernel) rfl rfl ?_
        refine jIcmp_eq C 30 36 (by decide +kernel : decode cX6_pastToken 27 = .ok (.if_icmp .eq 9, 3)) rfl rfl (fun c7 => ?_) (fun c7 => ?_)
        · have h := it1 h c7
          refine jB C [(.iload_n 2, 1, 0)] 37 [(0, .ref (b + v0)), (2, .int v2)] [.int v2] (by decide +kernel) rfl rfl ?_
          exact jRetI C (by decide +kernel : decode cX6_pastToken 37 = .ok (.ireturn, 1)) (Nat.le_refl _) (Nat.le_refl _) ⟨rfl, h⟩
        · have h := it2 h c7
          refine jB C [(.iinc 2 1, 3, 1)] 33 [(2, .int (v2 + 1)), (0, .ref (b + v0))] [] (by decide +kernel) rfl rfl ?_
          refine jGoto C 4 (by decide +kernel : decode cX6_pastToken 33 = .ok (.goto (-29), 3)) rfl ?_
          refine jSub [1, 0] rfl ?_
          exact ih (v2 + 1) S5 h
theorem j_X6_pastToken_4 {p : Program} {l : Launch} {e : Env} {s : State} {m : MethodId} {args : Array Value} {below : List Frame} {meth : Method} {c : Code} {b : Nat} {D : va_G} {cy : Nat → ClassId} {G : Gm} {v0 : Nat} {v2 : Int32} {S : St} {Q : Int32 → St → Prop} (C : CX p s m args meth c b D cy cX6_pastToken RX6 3 (some .int)) (hE : s.heap.size + 0 ≤ b + G.2.2) (t_v0 : ok G 5 v0) (h : f_X6_pastToken_4 G v0 Q v2 S) : J p l e rm_X6_pastToken s m args below meth c b D cy 3 (zI b D cy below args s G Q) 0 0 G S 4 [(0, .ref (b + v0)), (2, .int v2)] [] := by
  obtain ⟨n, h⟩ := h
  exact j_X6_pastToken_4_n C hE t_v0 n v2 S h
set_option maxHeartbeats 4000000 in
set_option maxRecDepth 100000 in
theorem j_X6_pastToken {p : Program} {l : Launch} {e : Env} {s : State} {m : MethodId} {args : Array Value} {below : List Frame} {meth : Method} {c : Code} {b : Nat} {D : va_G} {cy : Nat → ClassId} {G : Gm} {v0 : Nat} {v1 : Int32} {S : St} {Q : Int32 → St → Prop} (C : CX p s m args meth c b D cy cX6_pastToken RX6 3 (some .int)) (hE : s.heap.size + 0 ≤ b + G.2.2) (t_v0 : ok G 5 v0) (h : f_X6_pastToken G v0 v1 Q S) : J p l e rm_X6_pastToken s m args below meth c b D cy 3 (zI b D cy below args s G Q) 0 0 G S 0 [(0, .ref (b + v0)), (1, .int v1)] [] := by
  unfold f_X6_pastToken at h
  refine jB C [(.iload_n 1, 1, 0), (.iconst 1, 1, 1), (.iadd, 1, 0)] 3 [(0, .ref (b + v0)), (1, .int v1)] [.int (v1 + 1)] (by decide +kernel) rfl rfl ?_
  refine jTopI (fun x1 e_x1 => ?_)
  have h := h x1 e_x1
  refine jB C [(.istore_n 2, 1, 0)] 4 [(2, .int x1), (0, .ref (b + v0)), (1, .int v1)] [] (by decide +kernel) rfl rfl ?_
  refine jSub [1, 0] rfl ?_
  exact j_X6_pastToken_4 C hE t_v0 h
theorem ok_X6_pastToken {G : Gm} {v0 : Nat} {v1 : Int32} {S : St} {Q : Int32 → St → Prop} (t_v0 : ok G 5 v0) (h : f_X6_pastToken G v0 v1 Q S) : MT yX6_pastToken cX6_pastToken 3 (some .int) rm_X6_pastToken 0 0 (fun b => [.ref (b + v0), .int v1]) G S (QI (fun r G1 S1 => G1 = G ∧ Q r S1)) := MT.ofJ (by decide) (fun b => [(0, .ref (b + v0)), (1, .int v1)]) (fun b => rfl) (fun b => Nat.le_of_ble_eq_true rfl) (fun l b D cy p e s m below meth c C hE hn => j_X6_pastToken C hE t_v0 h)
theorem hd_X6_pastToken : yX6_pastToken.cls ≠ "java/lang/invoke/MethodHandle" ∧ yX6_pastToken.cls ≠ "java/lang/invoke/VarHandle" ∧ (parseMethodDescriptor yX6_pastToken.desc).map (fun d => d.parameters.length) = some 1 := by decide +kernel
def f_X6_numberOf_5_n (G : Gm) (v0 : Nat) (v2 : Int32) (Q : Int32 → St → Prop) : Nat → Int32 → Int32 → St → Prop
  | 0, _, _, _ => False
  | n + 1, v3, v4, S => (if v2 ≤ v4 then Q v3 S else f_X6_byteAt G v0 v4 (fun r3 S2 => (∀ x4 : Int32, x4 = mn (((v3 * 10) + r3) - 48) 1001 → (f_X6_numberOf_5_n G v0 v2 Q n) x4 (v4 + 1) S2)) S)
def f_X6_numberOf_5 (G : Gm) (v0 : Nat) (v2 : Int32) (Q : Int32 → St → Prop) (v3 : Int32) (v4 : Int32) (S : St) : Prop := ∃ n, f_X6_numberOf_5_n G v0 v2 Q n v3 v4 S
def f_X6_numberOf (G : Gm) (v0 : Nat) (v1 : Int32) (v2 : Int32) (Q : Int32 → St → Prop) (S : St) : Prop :=
  f_X6_numberOf_5 G v0 v2 Q 0 v1 S
abbrev rm_X6_numberOf : Room := { frames := 1, cells := 0, slots := 0, locals := 30 }
set_option maxHeartbeats 4000000 in
set_option maxRecDepth 100000 in
theorem j_X6_numberOf_5_n {p : Program} {l : Launch} {e : Env} {s : State} {m : MethodId} {args : Array Value} {below : List Frame} {meth : Method} {c : Code} {b : Nat} {D : va_G} {cy : Nat → ClassId} {G : Gm} {v0 : Nat} {v2 : Int32} {Q : Int32 → St → Prop} (C : CX p s m args meth c b D cy cX6_numberOf RX6 5 (some .int)) (hE : s.heap.size + 0 ≤ b + G.2.2) (t_v0 : ok G 5 v0) : ∀ n (v3 : Int32) (v4 : Int32) S, f_X6_numberOf_5_n G v0 v2 Q n v3 v4 S → J p l e rm_X6_numberOf s m args below meth c b D cy 5 (zI b D cy below args s G Q) 0 0 G S 5 [(0, .ref (b + v0)), (2, .int v2), (3, .int v3), (4, .int v4)] [] := by
  intro n
  induction n with
  | zero => intro v3 v4 S h; exact h.elim
  | succ n ih =>
    intro v3 v4 S h
    unfold f_X6_numberOf_5_n at h
    refine jB C [(.iload 4, 2, 0), (.iload_n 2, 1, 0)] 8 [(0, .ref (b + v0)), (2, .int v2), (3, .int v3), (4, .int v4)] [.int v2, .int v4] (by decide +kernel) rfl rfl ?_
    refine jIcmp_ge C 11 38 (by decide +kernel : decode cX6_numberOf 8 = .ok (.if_icmp .ge 30, 3)) rfl rfl (fun c1 => ?_) (fun c1 => ?_)
    · have h := it1 h c1
      refine jB C [(.iload_n 3, 1, 0)] 39 [(0, .ref (b + v0)), (2, .int v2), (3, .int v3), (4, .int v4)] [.int v3] (by decide +kernel) rfl rfl ?_
      exact jRetI C (by decide +kernel : decode cX6_numberOf 39 = .ok (.ireturn, 1)) (Nat.le_refl _) (Nat.le_refl _) ⟨rfl, h⟩
    · have h := it2 h c1
      refine jB C [(.iload_n 3, 1, 0), (.bipush 10, 2, 10), (.imul, 1, 0), (.aload_n 0, 1, 0), (.iload 4, 2, 0)] 18 [(0, .ref (b + v0)), (2, .int v2), (3, .int v3), (4, .int v4)] [.int v4, .ref (b + v0), .int (v3 * 10)] (by decide +kernel) rfl rfl ?_
      refine jcV_I C 21 (rest := [.int (v3 * 10)]) (ok_X6_byteAt t_v0 h) (by decide +kernel : decode cX6_numberOf 18 = .ok (.invokevirtual 40, 3)) rfl wd_569 wd_571 wp_31 wd_9 wd_572 ⟨rfl, rfl⟩ hd_X6_byteAt ⟨Nat.le_of_ble_eq_true rfl, Nat.le_of_ble_eq_true rfl⟩ t_v0 kX6 (by decide) rfl rfl rfl (Nat.le_of_ble_eq_true rfl) ⟨Nat.zero_le _, Nat.zero_le _⟩ (fun r3 S2 h => ?_)
      refine jB C [(.iadd, 1, 0), (.bipush 48, 2, 48), (.isub, 1, 0), (.sipush 1001, 3, 1001)] 28 [(0, .ref (b + v0)), (2, .int v2), (3, .int v3), (4, .int v4)] [.int 1001, .int (((v3 * 10) + r3) - 48)] (by decide +kernel) rfl rfl ?_
      refine jMin C 31 (by decide +kernel : decode cX6_numberOf 28 = .ok (.invokestatic 104, 3)) rfl wd_671 (Nat.le_of_ble_eq_true rfl) (Nat.le_of_ble_eq_true rfl) (Nat.le_of_ble_eq_true rfl) ?_
      refine jTopI (fun x4 e_x4 => ?_)
      have h := h x4 e_x4
      refine jB C [(.istore_n 3, 1, 0), (.iinc 4 1, 3, 1)] 35 [(4, .int (v4 + 1)), (3, .int x4), (0, .ref (b + v0)), (2, .int v2)] [] (by decide +kernel) rfl rfl ?_
      refine jGoto C 5 (by decide +kernel : decode cX6_numberOf 35 = .ok (.goto (-30), 3)) rfl ?_
      refine jSub [2, 3, 1, 0] rfl ?_
      exact ih x4 (v4 + 1) S2 h
theorem j_X6_numberOf_5 {p : Program} {l : Launch} {e : Env} {s : State} {m : MethodId} {args : Array Value} {below : List Frame} {meth : Method} {c : Code} {b : Nat} {D : va_G} {cy : Nat → ClassId} {G : Gm} {v0 : Nat} {v2 : Int32} {v3 : Int32} {v4 : Int32} {S : St} {Q : Int32 → St → Prop} (C : CX p s m args meth c b D cy cX6_numberOf RX6 5 (some .int)) (hE : s.heap.size + 0 ≤ b + G.2.2) (t_v0 : ok G 5 v0) (h : f_X6_numberOf_5 G v0 v2 Q v3 v4 S) : J p l e rm_X6_numberOf s m args below meth c b D cy 5 (zI b D cy below args s G Q) 0 0 G S 5 [(0, .ref (b + v0)), (2, .int v2), (3, .int v3), (4, .int v4)] [] := by
  obtain ⟨n, h⟩ := h
  exact j_X6_numberOf_5_n C hE t_v0 n v3 v4 S h
set_option maxHeartbeats 4000000 in
set_option maxRecDepth 100000 in
theorem j_X6_numberOf {p : Program} {l : Launch} {e : Env} {s : State} {m : MethodId} {args : Array Value} {below : List Frame} {meth : Method} {c : Code} {b : Nat} {D : va_G} {cy : Nat → ClassId} {G : Gm} {v0 : Nat} {v1 : Int32} {v2 : Int32} {S : St} {Q : Int32 → St → Prop} (C : CX p s m args meth c b D cy cX6_numberOf RX6 5 (some .int)) (hE : s.heap.size + 0 ≤ b + G.2.2) (t_v0 : ok G 5 v0) (h : f_X6_numberOf G v0 v1 v2 Q S) : J p l e rm_X6_numberOf s m args below meth c b D cy 5 (zI b D cy below args s G Q) 0 0 G S 0 [(0, .ref (b + v0)), (1, .int v1), (2, .int v2)] [] := by
  unfold f_X6_numberOf at h
  refine jB C [(.iconst 0, 1, 0), (.istore_n 3, 1, 0), (.iload_n 1, 1, 0), (.istore 4, 2, 0)] 5 [(4, .int v1), (3, .int 0), (0, .ref (b + v0)), (1, .int v1), (2, .int v2)] [] (by decide +kernel) rfl rfl ?_
  refine jSub [2, 4, 1, 0] rfl ?_
  exact j_X6_numberOf_5 C hE t_v0 h
theorem ok_X6_numberOf {G : Gm} {v0 : Nat} {v1 : Int32} {v2 : Int32} {S : St} {Q : Int32 → St → Prop} (t_v0 : ok G 5 v0) (h : f_X6_numberOf G v0 v1 v2 Q S) : MT yX6_numberOf cX6_numberOf 5 (some .int) rm_X6_numberOf 0 0 (fun b => [.ref (b + v0), .int v1, .int v2]) G S (QI (fun r G1 S1 => G1 = G ∧ Q r S1)) := MT.ofJ (by decide) (fun b => [(0, .ref (b + v0)), (1, .int v1), (2, .int v2)]) (fun b => rfl) (fun b => Nat.le_of_ble_eq_true rfl) (fun l b D cy p e s m below meth c C hE hn => j_X6_numberOf C hE t_v0 h)
theorem hd_X6_numberOf : yX6_numberOf.cls ≠ "java/lang/invoke/MethodHandle" ∧ yX6_numberOf.cls ≠ "java/lang/invoke/VarHandle" ∧ (parseMethodDescriptor yX6_numberOf.desc).map (fun d => d.parameters.length) = some 2 := by decide +kernel
def f_X6_here (G : Gm) (v0 : Nat) (Q : Int32 → St → Prop) (S : St) : Prop :=
  (if (S.1 v0 6) < 0 then Q 51 S else (if (S.1 v0 5) ≤ (S.1 v0 6) then Q 51 S else (∃ a3, S.2.2 v0 2 = some a3 ∧ (vp_in (S.1 v0 6) (G.2.1 a3) ∧ Q (S.1 a3 (S.1 v0 6).toNatClampNeg) S))))
abbrev rm_X6_here : Room := { frames := 0, cells := 0, slots := 0, locals := 0 }
set_option maxHeartbeats 4000000 in
set_option maxRecDepth 100000 in
theorem j_X6_here {p : Program} {l : Launch} {e : Env} {s : State} {m : MethodId} {args : Array Value} {below : List Frame} {meth : Method} {c : Code} {b : Nat} {D : va_G} {cy : Nat → ClassId} {G : Gm} {v0 : Nat} {S : St} {Q : Int32 → St → Prop} (C : CX p s m args meth c b D cy cX6_here RX6 1 (some .int)) (hE : s.heap.size + 0 ≤ b + G.2.2) (t_v0 : ok G 5 v0) (h : f_X6_here G v0 Q S) : J p l e rm_X6_here s m args below meth c b D cy 1 (zI b D cy below args s G Q) 0 0 G S 0 [(0, .ref (b + v0))] [] := by
  unfold f_X6_here at h
  refine jB C [(.aload_n 0, 1, 0)] 1 [(0, .ref (b + v0))] [.ref (b + v0)] (by decide +kernel) rfl rfl ?_
  refine jGetI C 4 (by decide +kernel : decode cX6_here 1 = .ok (.getfield 51, 3)) rfl t_v0 kX6 6 (by decide) rfl rfl (by decide) wd_281 ?_
  refine jIf_lt C 7 30 (by decide +kernel : decode cX6_here 4 = .ok (.ifCond .lt 26, 3)) rfl rfl (fun c1 => ?_) (fun c1 => ?_)
  · have h := it1 h c1
    refine jB C [(.bipush 51, 2, 51)] 32 [(0, .ref (b + v0))] [.int 51] (by decide +kernel) rfl rfl ?_
    exact jRetI C (by decide +kernel : decode cX6_here 32 = .ok (.ireturn, 1)) (Nat.le_refl _) (Nat.le_refl _) ⟨rfl, h⟩
  · have h := it2 h c1
    refine jB C [(.aload_n 0, 1, 0)] 8 [(0, .ref (b + v0))] [.ref (b + v0)] (by decide +kernel) rfl rfl ?_
    refine jGetI C 11 (by decide +kernel : decode cX6_here 8 = .ok (.getfield 51, 3)) rfl t_v0 kX6 6 (by decide) rfl rfl (by decide) wd_281 ?_
    refine jB C [(.aload_n 0, 1, 0)] 12 [(0, .ref (b + v0))] [.ref (b + v0), .int (S.1 v0 6)] (by decide +kernel) rfl rfl ?_
    refine jGetI C 15 (by decide +kernel : decode cX6_here 12 = .ok (.getfield 70, 3)) rfl t_v0 kX6 5 (by decide) rfl rfl (by decide) wd_280 ?_
    refine jIcmp_ge C 18 30 (by decide +kernel : decode cX6_here 15 = .ok (.if_icmp .ge 15, 3)) rfl rfl (fun c2 => ?_) (fun c2 => ?_)
    · have h := it1 h c2
      refine jB C [(.bipush 51, 2, 51)] 32 [(0, .ref (b + v0))] [.int 51] (by decide +kernel) rfl rfl ?_
      exact jRetI C (by decide +kernel : decode cX6_here 32 = .ok (.ireturn, 1)) (Nat.le_refl _) (Nat.le_refl _) ⟨rfl, h⟩
    · have h := it2 h c2
      refine jB C [(.aload_n 0, 1, 0)] 19 [(0, .ref (b + v0))] [.ref (b + v0)] (by decide +kernel) rfl rfl ?_
      obtain ⟨a3, e_a3, h⟩ := h
      refine jGetR C 22 (by decide +kernel : decode cX6_here 19 = .ok (.getfield 15, 3)) rfl t_v0 kX6 2 (by decide) rfl rfl (by decide) wd_277 e_a3 rfl (fun t_a3 => ?_)
      refine jB C [(.aload_n 0, 1, 0)] 23 [(0, .ref (b + v0))] [.ref (b + v0), .ref (b + a3)] (by decide +kernel) rfl rfl ?_
      refine jGetI C 26 (by decide +kernel : decode cX6_here 23 = .ok (.getfield 51, 3)) rfl t_v0 kX6 6 (by decide) rfl rfl (by decide) wd_281 ?_
      obtain ⟨y4, h⟩ := h
      refine jIald C 27 (by decide +kernel : decode cX6_here 26 = .ok (.iaload, 1)) rfl t_a3 y4 ?_
      refine jGoto C 32 (by decide +kernel : decode cX6_here 27 = .ok (.goto 5, 3)) rfl ?_
      exact jRetI C (by decide +kernel : decode cX6_here 32 = .ok (.ireturn, 1)) (Nat.le_refl _) (Nat.le_refl _) ⟨rfl, h⟩
theorem ok_X6_here {G : Gm} {v0 : Nat} {S : St} {Q : Int32 → St → Prop} (t_v0 : ok G 5 v0) (h : f_X6_here G v0 Q S) : MT yX6_here cX6_here 1 (some .int) rm_X6_here 0 0 (fun b => [.ref (b + v0)]) G S (QI (fun r G1 S1 => G1 = G ∧ Q r S1)) := MT.ofJ (by decide) (fun b => [(0, .ref (b + v0))]) (fun b => rfl) (fun b => Nat.le_of_ble_eq_true rfl) (fun l b D cy p e s m below meth c C hE hn => j_X6_here C hE t_v0 h)
theorem hd_X6_here : yX6_here.cls ≠ "java/lang/invoke/MethodHandle" ∧ yX6_here.cls ≠ "java/lang/invoke/VarHandle" ∧ (parseMethodDescriptor yX6_here.desc).map (fun d => d.parameters.length) = some 0 := by decide +kernel
def f_X6_fail_38 (G : Gm) (v0 : Nat) (Q : St → Prop) (S : St) : Prop :=
  (∀ S1, S1 = uI S v0 6 (S.1 v0 5) → Q S1)
def f_X6_fail (G : Gm) (v0 : Nat) (Q : St → Prop) (S : St) : Prop :=
  (if (S.1 v0 9) = (-1) then (if (S.1 v0 6) < 0 then f_X6_fail_38 G v0 Q S else (if 400 < (S.1 v0 6) then f_X6_fail_38 G v0 Q S else (∃ a4, S.2.2 v0 3 = some a4 ∧ (vp_in (S.1 v0 6) (G.2.1 a4) ∧ (∀ S6, S6 = uI S v0 9 (S.1 a4 (S.1 v0 6).toNatClampNeg) → f_X6_fail_38 G v0 Q S6))))) else f_X6_fail_38 G v0 Q S)
abbrev rm_X6_fail : Room := { frames := 0, cells := 0, slots := 0, locals := 0 }
set_option maxHeartbeats 4000000 in
set_option maxRecDepth 100000 in
theorem j_X6_fail_38 {p : Program} {l : Launch} {e : Env} {s : State} {m : MethodId} {args : Array Value} {below : List Frame} {meth : Method} {c : Code} {b : Nat} {D : va_G} {cy : Nat → ClassId} {G : Gm} {v0 : Nat} {S : St} {Q : St → Prop} (C : CX p s m args meth c b D cy cX6_fail RX6 1 none) (hE : s.heap.size + 0 ≤ b + G.2.2) (t_v0 : ok G 5 v0) (h : f_X6_fail_38 G v0 Q S) : J p l e rm_X6_fail s m args below meth c b D cy 1 (zV b D cy below args s G Q) 0 0 G S 38 [(0, .ref (b + v0))] [] := by
  unfold f_X6_fail_38 at h
  refine jB C [(.aload_n 0, 1, 0), (.aload_n 0, 1, 0)] 40 [(0, .ref (b + v0))] [.ref (b + v0), .ref (b + v0)] (by decide +kernel) rfl rfl ?_
  refine jGetI C 43 (by decide +kernel : decode cX6_fail 40 = .ok (.getfield 70, 3)) rfl t_v0 kX6 5 (by decide) rfl rfl (by decide) wd_280 ?_
  refine jPutI C 46 (by decide +kernel : decode cX6_fail 43 = .ok (.putfield 51, 3)) rfl hE t_v0 kX6 6 (by decide) rfl rfl (by decide) rfl wd_281 rfl rfl rfl ?_
  refine jTopS (fun S1 e_S1 => ?_)
  have h := h S1 e_S1
  exact jRetV C (by decide +kernel : decode cX6_fail 46 = .ok (.return_, 1)) (Nat.le_refl _) (Nat.le_refl _) ⟨rfl, h⟩
set_option maxHeartbeats 4000000 in
set_option maxRecDepth 100000 in
theorem j_X6_fail {p : Program} {l : Launch} {e : Env} {s : State} {m : MethodId} {args : Array Value} {below : List Frame} {meth : Method} {c : Code} {b : Nat} {D : va_G} {cy : Nat → ClassId} {G : Gm} {v0 : Nat} {S : St} {Q : St → Prop} (C : CX p s m args meth c b D cy cX6_fail RX6 1 none) (hE : s.heap.size + 0 ≤ b + G.2.2) (t_v0 : ok G 5 v0) (h : f_X6_fail G v0 Q S) : J p l e rm_X6_fail s m args below meth c b D cy 1 (zV b D cy below args s G Q) 0 0 G S 0 [(0, .ref (b + v0))] [] := by
  unfold f_X6_fail at h
  refine jB C [(.aload_n 0, 1, 0)] 1 [(0, .ref (b + v0))] [.ref (b + v0)] (by decide +kernel) rfl rfl ?_
  refine jGetI C 4 (by decide +kernel : decode cX6_fail 1 = .ok (.getfield 24, 3)) rfl t_v0 kX6 9 (by decide) rfl rfl (by decide) wd_284 ?_
  refine jB C [(.iconst (-1), 1, (-1))] 5 [(0, .ref (b + v0))] [.int (-1), .int (S.1 v0 9)] (by decide +kernel) rfl rfl ?_
  refine jIcmp_ne C 8 38 (by decide +kernel : decode cX6_fail 5 = .ok (.if_icmp .ne 33, 3)) rfl rfl (fun c1 => ?_) (fun c1 => ?_)
  · have h := it2 h c1
    refine jSub [0] rfl ?_
    exact j_X6_fail_38 C hE t_v0 h
  · have h := it1 h c1
    refine jB C [(.aload_n 0, 1, 0)] 9 [(0, .ref (b + v0))] [.ref (b + v0)] (by decide +kernel) rfl rfl ?_
    refine jGetI C 12 (by decide +kernel : decode cX6_fail 9 = .ok (.getfield 51, 3)) rfl t_v0 kX6 6 (by decide) rfl rfl (by decide) wd_281 ?_
    refine jIf_lt C 15 38 (by decide +kernel : decode cX6_fail 12 = .ok (.ifCond .lt 26, 3)) rfl rfl (fun c2 => ?_) (fun c2 => ?_)
    · have h := it1 h c2
      refine jSub [0] rfl ?_
      exact j_X6_fail_38 C hE t_v0 h
    · have h := it2 h c2
      refine jB C [(.aload_n 0, 1, 0)] 16 [(0, .ref (b + v0))] [.ref (b + v0)] (by decide +kernel) rfl rfl ?_
      refine jGetI C 19 (by decide +kernel : decode cX6_fail 16 = .ok (.getfield 51, 3)) rfl t_v0 kX6 6 (by decide) rfl rfl (by decide) wd_281 ?_
      refine jB C [(.sipush 400, 3, 400)] 22 [(0, .ref (b + v0))] [.int 400, .int (S.1 v0 6)] (by decide +kernel) rfl rfl ?_
      refine jIcmp_gt C 25 38 (by decide +kernel : decode cX6_fail 22 = .ok (.if_icmp .gt 16, 3)) rfl rfl (fun c3 => ?_) (fun c3 => ?_)
      · have h := it1 h c3
        refine jSub [0] rfl ?_
        exact j_X6_fail_38 C hE t_v0 h
      · have h := it2 h c3
        refine jB C [(.aload_n 0, 1, 0), (.aload_n 0, 1, 0)] 27 [(0, .ref (b + v0))] [.ref (b + v0), .ref (b + v0)] (by decide +kernel) rfl rfl ?_
        obtain ⟨a4, e_a4, h⟩ := h
        refine jGetR C 30 (by decide +kernel : decode cX6_fail 27 = .ok (.getfield 18, 3)) rfl t_v0 kX6 3 (by decide) rfl rfl (by decide) wd_278 e_a4 rfl (fun t_a4 => ?_)
        refine jB C [(.aload_n 0, 1, 0)] 31 [(0, .ref (b + v0))] [.ref (b + v0), .ref (b + a4), .ref (b + v0)] (by decide +kernel) rfl rfl ?_
        refine jGetI C 34 (by decide +kernel : decode cX6_fail 31 = .ok (.getfield 51, 3)) rfl t_v0 kX6 6 (by decide) rfl rfl (by decide) wd_281 ?_
        obtain ⟨y5, h⟩ := h
        refine jIald C 35 (by decide +kernel : decode cX6_fail 34 = .ok (.iaload, 1)) rfl t_a4 y5 ?_
        refine jPutI C 38 (by decide +kernel : decode cX6_fail 35 = .ok (.putfield 24, 3)) rfl hE t_v0 kX6 9 (by decide) rfl rfl (by decide) rfl wd_284 rfl rfl rfl ?_
        refine jTopS (fun S6 e_S6 => ?_)
        have h := h S6 e_S6
        refine jSub [0] rfl ?_
        exact j_X6_fail_38 C hE t_v0 h
theorem ok_X6_fail {G : Gm} {v0 : Nat} {S : St} {Q : St → Prop} (t_v0 : ok G 5 v0) (h : f_X6_fail G v0 Q S) : MT yX6_fail cX6_fail 1 none rm_X6_fail 0 0 (fun b => [.ref (b + v0)]) G S (QV (fun G1 S1 => G1 = G ∧ Q S1)) := MT.ofJ (by decide) (fun b => [(0, .ref (b + v0))]) (fun b => rfl) (fun b => Nat.le_of_ble_eq_true rfl) (fun l b D cy p e s m below meth c C hE hn => j_X6_fail C hE t_v0 h)
theorem hd_X6_fail : yX6_fail.cls ≠ "java/lang/invoke/MethodHandle" ∧ yX6_fail.cls ≠ "java/lang/invoke/VarHandle" ∧ (parseMethodDescriptor yX6_fail.desc).map (fun d => d.parameters.length) = some 0 := by decide +kernel
def f_X8_mark (G : Gm) (v0 : Nat) (v1 : Int32) (Q : St → Prop) (S : St) : Prop :=
  (∀ x1 : Int32, x1 = (((S.1 v0 5) - 1) * 4) + v1 → (if x1 < 0 then Q S else (∃ a3, S.2.2 v0 3 = some a3 ∧ (if (nI (G.2.1 a3)) ≤ x1 then Q S else (∃ a5, S.2.2 v0 3 = some a5 ∧ (vp_in x1 (G.2.1 a5) ∧ ∀ S7, S7 = uI S a5 x1.toNatClampNeg (S.1 v0 6) → Q S7))))))
abbrev rm_X8_mark : Room := { frames := 0, cells := 0, slots := 0, locals := 0 }
set_option maxHeartbeats 4000000 in
set_option maxRecDepth 100000 in
theorem j_X8_mark {p : Program} {l : Launch} {e : Env} {s : State} {m : MethodId} {args : Array Value} {below : List Frame} {meth : Method} {c : Code} {b : Nat} {D : va_G} {cy : Nat → ClassId} {G : Gm} {v0 : Nat} {v1 : Int32} {S : St} {Q : St → Prop} (C : CX p s m args meth c b D cy cX8_mark RX8 3 none) (hE : s.heap.size + 0 ≤ b + G.2.2) (t_v0 : ok G 7 v0) (h : f_X8_mark G v0 v1 Q S) : J p l e rm_X8_mark s m args below meth c b D cy 3 (zV b D cy below args s G Q) 0 0 G S 0 [(0, .ref (b + v0)), (1, .int v1)] [] := by
  unfold f_X8_mark at h
  refine jB C [(.aload_n 0, 1, 0)] 1 [(0, .ref (b + v0)), (1, .int v1)] [.ref (b + v0)] (by decide +kernel) rfl rfl ?_
  refine jGetI C 4 (by decide +kernel : decode cX8_mark 1 = .ok (.getfield 31, 3)) rfl t_v0 kX8 5 (by decide) rfl rfl (by decide) wd_255 ?_
  refine jB C [(.iconst 1, 1, 1), (.isub, 1, 0), (.iconst 4, 1, 4), (.imul, 1, 0), (.iload_n 1, 1, 0), (.iadd, 1, 0)] 10 [(0, .ref (b + v0)), (1, .int v1)] [.int ((((S.1 v0 5) - 1) * 4) + v1)] (by decide +kernel) rfl rfl ?_
  refine jTopI (fun x1 e_x1 => ?_)
  have h := h x1 e_x1
  refine jB C [(.istore_n 2, 1, 0), (.iload_n 2, 1, 0)] 12 [(2, .int x1), (0, .ref (b + v0)), (1, .int v1)] [.int x1] (by decide +kernel) rfl rfl ?_
  refine jIf_lt C 15 34 (by decide +kernel : decode cX8_mark 12 = .ok (.ifCond .lt 22, 3)) rfl rfl (fun c2 => ?_) (fun c2 => ?_)
  · have h := it1 h c2
    exact jRetV C (by decide +kernel : decode cX8_mark 34 = .ok (.return_, 1)) (Nat.le_refl _) (Nat.le_refl _) ⟨rfl, h⟩
  · have h := it2 h c2
    refine jB C [(.iload_n 2, 1, 0), (.aload_n 0, 1, 0)] 17 [(2, .int x1), (0, .ref (b + v0)), (1, .int v1)] [.ref (b + v0), .int x1] (by decide +kernel) rfl rfl ?_
    obtain ⟨a3, e_a3, h⟩ := h
    refine jGetR C 20 (by decide +kernel : decode cX8_mark 17 = .ok (.getfield 25, 3)) rfl t_v0 kX8 3 (by decide) rfl rfl (by decide) wd_252 e_a3 rfl (fun t_a3 => ?_)
    refine jAlen11 C 21 (by decide +kernel : decode cX8_mark 20 = .ok (.arraylength, 1)) rfl t_a3 ?_
    refine jIcmp_ge C 24 34 (by decide +kernel : decode cX8_mark 21 = .ok (.if_icmp .ge 13, 3)) rfl rfl (fun c4 => ?_) (fun c4 => ?_)
    · have h := it1 h c4
      exact jRetV C (by decide +kernel : decode cX8_mark 34 = .ok (.return_, 1)) (Nat.le_refl _) (Nat.le_refl _) ⟨rfl, h⟩
    · have h := it2 h c4
      refine jB C [(.aload_n 0, 1, 0)] 25 [(2, .int x1), (0, .ref (b + v0)), (1, .int v1)] [.ref (b + v0)] (by decide +kernel) rfl rfl ?_
      obtain ⟨a5, e_a5, h⟩ := h
      refine jGetR C 28 (by decide +kernel : decode cX8_mark 25 = .ok (.getfield 25, 3)) rfl t_v0 kX8 3 (by decide) rfl rfl (by decide) wd_252 e_a5 rfl (fun t_a5 => ?_)
      refine jB C [(.iload_n 2, 1, 0), (.aload_n 0, 1, 0)] 30 [(2, .int x1), (0, .ref (b + v0)), (1, .int v1)] [.ref (b + v0), .int x1, .ref (b + a5)] (by decide +kernel) rfl rfl ?_
      refine jGetI C 33 (by decide +kernel : decode cX8_mark 30 = .ok (.getfield 35, 3)) rfl t_v0 kX8 6 (by decide) rfl rfl (by decide) wd_258 ?_
      obtain ⟨y6, h⟩ := h
      refine jIast C 34 (by decide +kernel : decode cX8_mark 33 = .ok (.iastore, 1)) rfl hE t_a5 y6 ?_
      refine jTopS (fun S7 e_S7 => ?_)
      have h := h S7 e_S7
      exact jRetV C (by decide +kernel : decode cX8_mark 34 = .ok (.return_, 1)) (Nat.le_refl _) (Nat.le_refl _) ⟨rfl, h⟩
theorem ok_X8_mark {G : Gm} {v0 : Nat} {v1 : Int32} {S : St} {Q : St → Prop} (t_v0 : ok G 7 v0) (h : f_X8_mark G v0 v1 Q S) : MT yX8_mark cX8_mark 3 none rm_X8_mark 0 0 (fun b => [.ref (b + v0), .int v1]) G S (QV (fun G1 S1 => G1 = G ∧ Q S1)) := MT.ofJ (by decide) (fun b => [(0, .ref (b + v0)), (1, .int v1)]) (fun b => rfl) (fun b => Nat.le_of_ble_eq_true rfl) (fun l b D cy p e s m below meth c C hE hn => j_X8_mark C hE t_v0 h)
theorem hd_X8_mark : yX8_mark.cls ≠ "java/lang/invoke/MethodHandle" ∧ yX8_mark.cls ≠ "java/lang/invoke/VarHandle" ∧ (parseMethodDescriptor yX8_mark.desc).map (fun d => d.parameters.length) = some 1 := by decide +kernel
def f_X8_open (G : Gm) (v0 : Nat) (v1 : Int32) (Q : St → Prop) (S : St) : Prop :=
  (if (S.1 v0 5) < 0 then Q S else (∃ a2, S.2.2 v0 0 = some a2 ∧ (if (nI (G.2.1 a2)) ≤ (S.1 v0 5) then Q S else (∃ a4, S.2.2 v0 0 = some a4 ∧ (vp_in (S.1 v0 5) (G.2.1 a4) ∧ ∀ S6, S6 = uI S a4 (S.1 v0 5).toNatClampNeg v1 → (∃ a7, S6.2.2 v0 1 = some a7 ∧ (vp_in (S6.1 v0 5) (G.2.1 a7) ∧ ∀ S9, S9 = uI S6 a7 (S6.1 v0 5).toNatClampNeg 1 → (∃ a10, S9.2.2 v0 2 = some a10 ∧ (vp_in (S9.1 v0 5) (G.2.1 a10) ∧ ∀ S12, S12 = uI S9 a10 (S9.1 v0 5).toNatClampNeg 0 → (∀ S13, S13 = uI S12 v0 5 ((S12.1 v0 5) + 1) → f_X8_mark G v0 0 (fun S14 => Q S14) S13))))))))))
abbrev rm_X8_open : Room := { frames := 1, cells := 0, slots := 0, locals := 22 }
set_option maxHeartbeats 4000000 in
set_option maxRecDepth 100000 in
theorem j_X8_open {p : Program} {l : Launch} {e : Env} {s : State} {m : MethodId} {args : Array Value} {below : List Frame} {meth : Method} {c : Code} {b : Nat} {D : va_G} {cy : Nat → ClassId} {G : Gm} {v0 : Nat} {v1 : Int32} {S : St} {Q : St → Prop} (C : CX p s m args meth c b D cy cX8_open RX8 2 none) (hE : s.heap.size + 0 ≤ b + G.2.2) (t_v0 : ok G 7 v0) (h : f_X8_open G v0 v1 Q S) : J p l e rm_X8_open s m args below meth c b D cy 2 (zV b D cy below args s G Q) 0 0 G S 0 [(0, .ref (b + v0)), (1, .int v1)] [] := by
  unfold f_X8_open at h
  refine jB C [(.aload_n 0, 1, 0)] 1 [(0, .ref (b + v0)), (1, .int v1)] [.ref (b + v0)] (by decide +kernel) rfl rfl ?_
  refine jGetI C 4 (by decide +kernel : decode cX8_open 1 = .ok (.getfield 31, 3)) rfl t_v0 kX8 5 (by decide) rfl rfl (by decide) wd_255 ?_
  refine jIf_lt C 7 64 (by decide +kernel : decode cX8_open 4 = .ok (.ifCond .lt 60, 3)) rfl rfl (fun c1 => ?_) (fun c1 => ?_)
  · have h := it1 h c1
    exact jRetV C (by decide +kernel : decode cX8_open 64 = .ok (.return_, 1)) (Nat.le_refl _) (Nat.le_refl _) ⟨rfl, h⟩
  · have h := it2 h c1
    refine jB C [(.aload_n 0, 1, 0)] 8 [(0, .ref (b + v0)), (1, .int v1)] [.ref (b + v0)] (by decide +kernel) rfl rfl ?_
    refine jGetI C 11 (by decide +kernel : decode cX8_open 8 = .ok (.getfield 31, 3)) rfl t_v0 kX8 5 (by decide) rfl rfl (by decide) wd_255 ?_
    refine jB C [(.aload_n 0, 1, 0)] 12 [(0, .ref (b + v0)), (1, .int v1)] [.ref (b + v0), .int (S.1 v0 5)] (by decide +kernel) rfl rfl ?_
    obtain ⟨a2, e_a2, h⟩ := h
    refine jGetR C 15 (by decide +kernel : decode cX8_open 12 = .ok (.getfield 13, 3)) rfl t_v0 kX8 0 (by decide) rfl rfl (by decide) wd_249 e_a2 rfl (fun t_a2 => ?_)
    refine jAlen11 C 16 (by decide +kernel : decode cX8_open 15 = .ok (.arraylength, 1)) rfl t_a2 ?_
    refine jIcmp_ge C 19 64 (by decide +kernel : decode cX8_open 16 = .ok (.if_icmp .ge 48, 3)) rfl rfl (fun c3 => ?_) (fun c3 => ?_)
    · have h := it1 h c3
      exact jRetV C (by decide +kernel : decode cX8_open 64 = .ok (.return_, 1)) (Nat.le_refl _) (Nat.le_refl _) ⟨rfl, h⟩
    · have h := it2 h c3
      refine jB C [(.aload_n 0, 1, 0)] 20 [(0, .ref (b + v0)), (1, .int v1)] [.ref (b + v0)] (by decide +kernel) rfl rfl ?_
      obtain ⟨a4, e_a4, h⟩ := h
      refine jGetR C 23 (by decide +kernel : decode cX8_open 20 = .ok (.getfield 13, 3)) rfl t_v0 kX8 0 (by decide) rfl rfl (by decide) wd_249 e_a4 rfl (fun t_a4 => ?_)
      refine jB C [(.aload_n 0, 1, 0)] 24 [(0, .ref (b + v0)), (1, .int v1)] [.ref (b + v0), .ref (b + a4)] (by decide +kernel) rfl rfl ?_
      refine jGetI C 27 (by decide +kernel : decode cX8_open 24 = .ok (.getfield 31, 3)) rfl t_v0 kX8 5 (by decide) rfl rfl (by decide) wd_255 ?_
      refine jB C [(.iload_n 1, 1, 0)] 28 [(0, .ref (b + v0)), (1, .int v1)] [.int v1, .int (S.1 v0 5), .ref (b + a4)] (by decide +kernel) rfl rfl ?_
      obtain ⟨y5, h⟩ := h
      refine jIast C 29 (by decide +kernel : decode cX8_open 28 = .ok (.iastore, 1)) rfl hE t_a4 y5 ?_
      refine jTopS (fun S6 e_S6 => ?_)
      have h := h S6 e_S6
      refine jB C [(.aload_n 0, 1, 0)] 30 [(0, .ref (b + v0)), (1, .int v1)] [.ref (b + v0)] (by decide +kernel) rfl rfl ?_
      obtain ⟨a7, e_a7, h⟩ := h
      refine jGetR C 33 (by decide +kernel : decode cX8_open 30 = .ok (.getfield 19, 3)) rfl t_v0 kX8 1 (by decide) rfl rfl (by decide) wd_250 e_a7 rfl (fun t_a7 => ?_)
      refine jB C [(.aload_n 0, 1, 0)] 34 [(0, .ref (b + v0)), (1, .int v1)] [.ref (b + v0), .ref (b + a7)] (by decide +kernel) rfl rfl ?_
      refine jGetI C 37 (by decide +kernel : decode cX8_open 34 = .ok (.getfield 31, 3)) rfl t_v0 kX8 5 (by decide) rfl rfl (by decide) wd_255 ?_
      refine jB C [(.iconst 1, 1, 1)] 38 [(0, .ref (b + v0)), (1, .int v1)] [.int 1, .int (S6.1 v0 5), .ref (b + a7)] (by decide +kernel) rfl rfl ?_
      obtain ⟨y8, h⟩ := h
      refine jIast C 39 (by decide +kernel : decode cX8_open 38 = .ok (.iastore, 1)) rfl hE t_a7 y8 ?_
      refine jTopS (fun S9 e_S9 => ?_)
      have h := h S9 e_S9
      refine jB C [(.aload_n 0, 1, 0)] 40 [(0, .ref (b + v0)), (1, .int v1)] [.ref (b + v0)] (by decide +kernel) rfl rfl ?_
      obtain ⟨a10, e_a10, h⟩ := h
      refine jGetR C 43 (by decide +kernel : decode cX8_open 40 = .ok (.getfield 22, 3)) rfl t_v0 kX8 2 (by decide) rfl rfl (by decide) wd_251 e_a10 rfl (fun t_a10 => ?_)
      refine jB C [(.aload_n 0, 1, 0)] 44 [(0, .ref (b + v0)), (1, .int v1)] [.ref (b + v0), .ref (b + a10)] (by decide +kernel) rfl rfl ?_
      refine jGetI C 47 (by decide +kernel : decode cX8_open 44 = .ok (.getfield 31, 3)) rfl t_v0 kX8 5 (by decide) rfl rfl (by decide) wd_255 ?_
      refine jB C [(.iconst 0, 1, 0)] 48 [(0, .ref (b + v0)), (1, .int v1)] [.int 0, .int (S9.1 v0 5), .ref (b + a10)] (by decide +kernel) rfl rfl ?_
      obtain ⟨y11, h⟩ := h
      refine jIast C 49 (by decide +kernel : decode cX8_open 48 = .ok (.iastore, 1)) rfl hE t_a10 y11 ?_
      refine jTopS (fun S12 e_S12 => ?_)
      have h := h S12 e_S12
      refine jB C [(.aload_n 0, 1, 0), (.dup, 1, 0)] 51 [(0, .ref (b + v0)), (1, .int v1)] [.ref (b + v0), .ref (b + v0)] (by decide +kernel) rfl rfl ?_
      refine jGetI C 54 (by decide +kernel : decode cX8_open 51 = .ok (.getfield 31, 3)) rfl t_v0 kX8 5 (by decide) rfl rfl (by decide) wd_255 ?_
      refine jB C [(.iconst 1, 1, 1), (.iadd, 1, 0)] 56 [(0, .ref (b + v0)), (1, .int v1)] [.int ((S12.1 v0 5) + 1), .ref (b + v0)] (by decide +kernel) rfl rfl ?_
      refine jPutI C 59 (by decide +kernel : decode cX8_open 56 = .ok (.putfield 31, 3)) rfl hE t_v0 kX8 5 (by decide) rfl rfl (by decide) rfl wd_255 rfl rfl rfl ?_
      refine jTopS (fun S13 e_S13 => ?_)
      have h := h S13 e_S13
      refine jB C [(.aload_n 0, 1, 0), (.iconst 0, 1, 0)] 61 [(0, .ref (b + v0)), (1, .int v1)] [.int 0, .ref (b + v0)] (by decide +kernel) rfl rfl ?_
      refine jcV_V C 64 (rest := []) (ok_X8_mark t_v0 h) (by decide +kernel : decode cX8_open 61 = .ok (.invokevirtual 47, 3)) rfl wd_688 wd_690 wp_45 wd_10 wd_691 ⟨rfl, rfl⟩ hd_X8_mark ⟨Nat.le_of_ble_eq_true rfl, Nat.le_of_ble_eq_true rfl⟩ t_v0 kX8 (by decide) rfl rfl rfl (Nat.le_of_ble_eq_true rfl) ⟨Nat.zero_le _, Nat.zero_le _⟩ (fun S14 h => ?_)
      exact jRetV C (by decide +kernel : decode cX8_open 64 = .ok (.return_, 1)) (Nat.le_refl _) (Nat.le_refl _) ⟨rfl, h⟩
theorem ok_X8_open {G : Gm} {v0 : Nat} {v1 : Int32} {S : St} {Q : St → Prop} (t_v0 : ok G 7 v0) (h : f_X8_open G v0 v1 Q S) : MT yX8_open cX8_open 2 none rm_X8_open 0 0 (fun b => [.ref (b + v0), .int v1]) G S (QV (fun G1 S1 => G1 = G ∧ Q S1)) := MT.ofJ (by decide) (fun b => [(0, .ref (b + v0)), (1, .int v1)]) (fun b => rfl) (fun b => Nat.le_of_ble_eq_true rfl) (fun l b D cy p e s m below meth c C hE hn => j_X8_open C hE t_v0 h)
theorem hd_X8_open : yX8_open.cls ≠ "java/lang/invoke/MethodHandle" ∧ yX8_open.cls ≠ "java/lang/invoke/VarHandle" ∧ (parseMethodDescriptor yX8_open.desc).map (fun d => d.parameters.length) = some 1 := by decide +kernel
def f_X6_numberHere (G : Gm) (v0 : Nat) (Q : Int32 → St → Prop) (S : St) : Prop :=
  (if (S.1 v0 6) < 0 then Q (-1) S else (if (S.1 v0 5) ≤ (S.1 v0 6) then Q (-1) S else (∃ a3, S.2.2 v0 2 = some a3 ∧ (vp_in (S.1 v0 6) (G.2.1 a3) ∧ (if (S.1 a3 (S.1 v0 6).toNatClampNeg) = 50 then (∃ a6, S.2.2 v0 4 = some a6 ∧ (vp_in (S.1 v0 6) (G.2.1 a6) ∧ Q (S.1 a6 (S.1 v0 6).toNatClampNeg) S)) else Q (-1) S)))))
abbrev rm_X6_numberHere : Room := { frames := 0, cells := 0, slots := 0, locals := 0 }
set_option maxHeartbeats 4000000 in
set_option maxRecDepth 100000 in
theorem j_X6_numberHere {p : Program} {l : Launch} {e : Env} {s : State} {m : MethodId} {args : Array Value} {below : List Frame} {meth : Method} {c : Code} {b : Nat} {D : va_G} {cy : Nat → ClassId} {G : Gm} {v0 : Nat} {S : St} {Q : Int32 → St → Prop} (C : CX p s m args meth c b D cy cX6_numberHere RX6 1 (some .int)) (hE : s.heap.size + 0 ≤ b + G.2.2) (t_v0 : ok G 5 v0) (h : f_X6_numberHere G v0 Q S) : J p l e rm_X6_numberHere s m args below meth c b D cy 1 (zI b D cy below args s G Q) 0 0 G S 0 [(0, .ref (b + v0))] [] := by
  unfold f_X6_numberHere at h
  refine jB C [(.aload_n 0, 1, 0)] 1 [(0, .ref (b + v0))] [.ref (b + v0)] (by decide +kernel) rfl rfl ?_
  refine jGetI C 4 (by decide +kernel : decode cX6_numberHere 1 = .ok (.getfield 51, 3)) rfl t_v0 kX6 6 (by decide) rfl rfl (by decide) wd_281 ?_
  refine jIf_lt C 7 44 (by decide +kernel : decode cX6_numberHere 4 = .ok (.ifCond .lt 40, 3)) rfl rfl (fun c1 => ?_) (fun c1 => ?_)
  · have h := it1 h c1
    refine jB C [(.iconst (-1), 1, (-1))] 45 [(0, .ref (b + v0))] [.int (-1)] (by decide +kernel) rfl rfl ?_
    exact jRetI C (by decide +kernel : decode cX6_numberHere 45 = .ok (.ireturn, 1)) (Nat.le_refl _) (Nat.le_refl _) ⟨rfl, h⟩
  · have h := it2 h c1
    refine jB C [(.aload_n 0, 1, 0)] 8 [(0, .ref (b + v0))] [.ref (b + v0)] (by decide +kernel) rfl rfl ?_
    refine jGetI C 11 (by decide +kernel : decode cX6_numberHere 8 = .ok (.getfield 51, 3)) rfl t_v0 kX6 6 (by decide) rfl rfl (by decide) wd_281 ?_
    refine jB C [(.aload_n 0, 1, 0)] 12 [(0, .ref (b + v0))] [.ref (b + v0), .int (S.1 v0 6)] (by decide +kernel) rfl rfl ?_
    refine jGetI C 15 (by decide +kernel : decode cX6_numberHere 12 = .ok (.getfield 70, 3)) rfl t_v0 kX6 5 (by decide) rfl rfl (by decide) wd_280 ?_
    refine jIcmp_ge C 18 44 (by decide +kernel : decode cX6_numberHere 15 = .ok (.if_icmp .ge 29, 3)) rfl rfl (fun c2 => ?_) (fun c2 => ?_)
    · have h := it1 h c2
      refine jB C [(.iconst (-1), 1, (-1))] 45 [(0, .ref (b + v0))] [.int (-1)] (by decide +kernel) rfl rfl ?_
      exact jRetI C (by decide +kernel : decode cX6_numberHere 45 = .ok (.ireturn, 1)) (Nat.le_refl _) (Nat.le_refl _) ⟨rfl, h⟩
    · have h := it2 h c2
      refine jB C [(.aload_n 0, 1, 0)] 19 [(0, .ref (b + v0))] [.ref (b + v0)] (by decide +kernel) rfl rfl ?_
      obtain ⟨a3, e_a3, h⟩ := h
      refine jGetR C 22 (by decide +kernel : decode cX6_numberHere 19 = .ok (.getfield 15, 3)) rfl t_v0 kX6 2 (by decide) rfl rfl (by decide) wd_277 e_a3 rfl (fun t_a3 => ?_)
      refine jB C [(.aload_n 0, 1, 0)] 23 [(0, .ref (b + v0))] [.ref (b + v0), .ref (b + a3)] (by decide +kernel) rfl rfl ?_
      refine jGetI C 26 (by decide +kernel : decode cX6_numberHere 23 = .ok (.getfield 51, 3)) rfl t_v0 kX6 6 (by decide) rfl rfl (by decide) wd_281 ?_
      obtain ⟨y4, h⟩ := h
      refine jIald C 27 (by decide +kernel : decode cX6_numberHere 26 = .ok (.iaload, 1)) rfl t_a3 y4 ?_
      refine jB C [(.bipush 50, 2, 50)] 29 [(0, .ref (b + v0))] [.int 50, .int (S.1 a3 (S.1 v0 6).toNatClampNeg)] (by decide +kernel) rfl rfl ?_
      refine jIcmp_ne C 32 44 (by decide +kernel : decode cX6_numberHere 29 = .ok (.if_icmp .ne 15, 3)) rfl rfl (fun c5 => ?_) (fun c5 => ?_)
      · have h := it2 h c5
        refine jB C [(.iconst (-1), 1, (-1))] 45 [(0, .ref (b + v0))] [.int (-1)] (by decide +kernel) rfl rfl ?_
        exact jRetI C (by decide +kernel : decode cX6_numberHere 45 = .ok (.ireturn, 1)) (Nat.le_refl _) (Nat.le_refl _) ⟨rfl, h⟩
      · have h := it1 h c5
        refine jB C [(.aload_n 0, 1, 0)] 33 [(0, .ref (b + v0))] [.ref (b + v0)] (by decide +kernel) rfl rfl ?_
        obtain ⟨a6, e_a6, h⟩ := h
        refine jGetR C 36 (by decide +kernel : decode cX6_numberHere 33 = .ok (.getfield 21, 3)) rfl t_v0 kX6 4 (by decide) rfl rfl (by decide) wd_279 e_a6 rfl (fun t_a6 => ?_)
        refine jB C [(.aload_n 0, 1, 0)] 37 [(0, .ref (b + v0))] [.ref (b + v0), .ref (b + a6)] (by decide +kernel) rfl rfl ?_
        refine jGetI C 40 (by decide +kernel : decode cX6_numberHere 37 = .ok (.getfield 51, 3)) rfl t_v0 kX6 6 (by decide) rfl rfl (by decide) wd_281 ?_
        obtain ⟨y7, h⟩ := h
        refine jIald C 41 (by decide +kernel : decode cX6_numberHere 40 = .ok (.iaload, 1)) rfl t_a6 y7 ?_
        refine jGoto C 45 (by decide +kernel : decode cX6_numberHere 41 = .ok (.goto 4, 3)) rfl ?_
        exact jRetI C (by decide +kernel : decode cX6_numberHere 45 = .ok (.ireturn, 1)) (Nat.le_refl _) (Nat.le_refl _) ⟨rfl, h⟩
theorem ok_X6_numberHere {G : Gm} {v0 : Nat} {S : St} {Q : Int32 → St → Prop} (t_v0 : ok G 5 v0) (h : f_X6_numberHere G v0 Q S) : MT yX6_numberHere cX6_numberHere 1 (some .int) rm_X6_numberHere 0 0 (fun b => [.ref (b + v0)]) G S (QI (fun r G1 S1 => G1 = G ∧ Q r S1)) := MT.ofJ (by decide) (fun b => [(0, .ref (b + v0))]) (fun b => rfl) (fun b => Nat.le_of_ble_eq_true rfl) (fun l b D cy p e s m below meth c C hE hn => j_X6_numberHere C hE t_v0 h)
theorem hd_X6_numberHere : yX6_numberHere.cls ≠ "java/lang/invoke/MethodHandle" ∧ yX6_numberHere.cls ≠ "java/lang/invoke/VarHandle" ∧ (parseMethodDescriptor yX6_numberHere.desc).map (fun d => d.parameters.length) = some 0 := by decide +kernel
def f_X6_lawWord (G : Gm) (v0 : Int32) (Q : Int32 → St → Prop) (S : St) : Prop :=
  (if v0 = 4 then Q 2 S else (if v0 = 5 then Q (-1) S else (if v0 = 6 then Q (-1) S else (if v0 = 7 then Q (-1) S else (if v0 = 8 then Q (-1) S else (if v0 = 9 then Q (-1) S else (if v0 = 10 then Q (-1) S else (if v0 = 11 then Q (-1) S else (if v0 = 12 then Q (-1) S else (if v0 = 13 then Q (-1) S else (if v0 = 14 then Q (-1) S else (if v0 = 15 then Q (-1) S else (if v0 = 16 then Q 0 S else (if v0 = 17 then Q 1 S else (if v0 = 18 then Q 3 S else (if v0 = 19 then Q 4 S else (if v0 = 20 then Q 5 S else (if v0 = 21 then Q 6 S else (if v0 = 22 then Q 7 S else (if v0 = 23 then Q 8 S else Q (-1) S))))))))))))))))))))
abbrev rm_X6_lawWord : Room := { frames := 0, cells := 0, slots := 0, locals := 0 }
set_option maxHeartbeats 4000000 in
set_option maxRecDepth 100000 in
theorem j_X6_lawWord {p : Program} {l : Launch} {e : Env} {s : State} {m : MethodId} {args : Array Value} {below : List Frame} {meth : Method} {c : Code} {b : Nat} {D : va_G} {cy : Nat → ClassId} {G : Gm} {v0 : Int32} {S : St} {Q : Int32 → St → Prop} (C : CX p s m args meth c b D cy cX6_lawWord RX6 1 (some .int)) (hE : s.heap.size + 0 ≤ b + G.2.2) (h : f_X6_lawWord G v0 Q S) : J p l e rm_X6_lawWord s m args below meth c b D cy 1 (zI b D cy below args s G Q) 0 0 G S 0 [(0, .int v0)] [] := by
  unfold f_X6_lawWord at h
  refine jB C [(.iload_n 0, 1, 0)] 1 [(0, .int v0)] [.int v0] (by decide +kernel) rfl rfl ?_
  by_cases c1_0 : v0 = 4
  · have h := it1 h c1_0
    refine jTabIn C 100 4 (by decide +kernel : decode cX6_lawWord 1 = .ok (.tableswitch 116 4 23 #[99, 116, 116, 116, 116, 116, 116, 116, 116, 116, 116, 116, 95, 97, 101, 103, 105, 107, 110, 113], 95)) c1_0 ⟨rfl, rfl, rfl, rfl⟩ ?_
    refine jB C [(.iconst 2, 1, 2)] 101 [(0, .int v0)] [.int 2] (by decide +kernel) rfl rfl ?_
    exact jRetI C (by decide +kernel : decode cX6_lawWord 101 = .ok (.ireturn, 1)) (Nat.le_refl _) (Nat.le_refl _) ⟨rfl, h⟩
  · have h := it2 h c1_0
    by_cases c1_1 : v0 = 5
    · have h := it1 h c1_1
      refine jTabIn C 117 5 (by decide +kernel : decode cX6_lawWord 1 = .ok (.tableswitch 116 4 23 #[99, 116, 116, 116, 116, 116, 116, 116, 116, 116, 116, 116, 95, 97, 101, 103, 105, 107, 110, 113], 95)) c1_1 ⟨rfl, rfl, rfl, rfl⟩ ?_
      refine jB C [(.iconst (-1), 1, (-1))] 118 [(0, .int v0)] [.int (-1)] (by decide +kernel) rfl rfl ?_
      exact jRetI C (by decide +kernel : decode cX6_lawWord 118 = .ok (.ireturn, 1)) (Nat.le_refl _) (Nat.le_refl _) ⟨rfl, h⟩
    · have h := it2 h c1_1
      by_cases c1_2 : v0 = 6
      · have h := it1 h c1_2
        refine jTabIn C 117 6 (by decide +kernel : decode cX6_lawWord 1 = .ok (.tableswitch 116 4 23 #[99, 116, 116, 116, 116, 116, 116, 116, 116, 116, 116, 116, 95, 97, 101, 103, 105, 107, 110, 113], 95)) c1_2 ⟨rfl, rfl, rfl, rfl⟩ ?_
        refine jB C [(.iconst (-1), 1, (-1))] 118 [(0, .int v0)] [.int (-1)] (by decide +kernel) rfl rfl ?_
        exact jRetI C (by decide +kernel : decode cX6_lawWord 118 = .ok (.ireturn, 1)) (Nat.le_refl _) (Nat.le_refl _) ⟨rfl, h⟩
      · have h := it2 h c1_2
        by_cases c1_3 : v0 = 7
        · have h := it1 h c1_3
          refine jTabIn C 117 7 (by decide +kernel : decode cX6_lawWord 1 = .ok (.tableswitch 116 4 23 #[99, 116, 116, 116, 116, 116, 116, 116, 116, 116, 116, 116, 95, 97, 101, 103, 105, 107, 110, 113], 95)) c1_3 ⟨rfl, rfl, rfl, rfl⟩ ?_
          refine jB C [(.iconst (-1), 1, (-1))] 118 [(0, .int v0)] [.int (-1)] (by decide +kernel) rfl rfl ?_
          exact jRetI C (by decide +kernel : decode cX6_lawWord 118 = .ok (.ireturn, 1)) (Nat.le_refl _) (Nat.le_refl _) ⟨rfl, h⟩
        · have h := it2 h c1_3
          by_cases c1_4 : v0 = 8
          · have h := it1 h c1_4
            refine jTabIn C 117 8 (by decide +kernel : decode cX6_lawWord 1 = .ok (.tableswitch 116 4 23 #[99, 116, 116, 116, 116, 116, 116, 116, 116, 116, 116, 116, 95, 97, 101, 103, 105, 107, 110, 113], 95)) c1_4 ⟨rfl, rfl, rfl, rfl⟩ ?_
            refine jB C [(.iconst (-1), 1, (-1))] 118 [(0, .int v0)] [.int (-1)] (by decide +kernel) rfl rfl ?_
            exact jRetI C (by decide +kernel : decode cX6_lawWord 118 = .ok (.ireturn, 1)) (Nat.le_refl _) (Nat.le_refl _) ⟨rfl, h⟩
          · have h := it2 h c1_4
            by_cases c1_5 : v0 = 9
            · have h := it1 h c1_5
              refine jTabIn C 117 9 (by decide +kernel : decode cX6_lawWord 1 = .ok (.tableswitch 116 4 23 #[99, 116, 116, 116, 116, 116, 116, 116, 116, 116, 116, 116, 95, 97, 101, 103, 105, 107, 110, 113], 95)) c1_5 ⟨rfl, rfl, rfl, rfl⟩ ?_
              refine jB C [(.iconst (-1), 1, (-1))] 118 [(0, .int v0)] [.int (-1)] (by decide +kernel) rfl rfl ?_
              exact jRetI C (by decide +kernel : decode cX6_lawWord 118 = .ok (.ireturn, 1)) (Nat.le_refl _) (Nat.le_refl _) ⟨rfl, h⟩
            · have h := it2 h c1_5
              by_cases c1_6 : v0 = 10
              · have h := it1 h c1_6
                refine jTabIn C 117 10 (by decide +kernel : decode cX6_lawWord 1 = .ok (.tableswitch 116 4 23 #[99, 116, 116, 116, 116, 116, 116, 116, 116, 116, 116, 116, 95, 97, 101, 103, 105, 107, 110, 113], 95)) c1_6 ⟨rfl, rfl, rfl, rfl⟩ ?_
                refine jB C [(.iconst (-1), 1, (-1))] 118 [(0, .int v0)] [.int (-1)] (by decide +kernel) rfl rfl ?_
                exact jRetI C (by decide +kernel : decode cX6_lawWord 118 = .ok (.ireturn, 1)) (Nat.le_refl _) (Nat.le_refl _) ⟨rfl, h⟩
              · have h := it2 h c1_6
                by_cases c1_7 : v0 = 11
                · have h := it1 h c1_7
                  refine jTabIn C 117 11 (by decide +kernel : decode cX6_lawWord 1 = .ok (.tableswitch 116 4 23 #[99, 116, 116, 116, 116, 116, 116, 116, 116, 116, 116, 116, 95, 97, 101, 103, 105, 107, 110, 113], 95)) c1_7 ⟨rfl, rfl, rfl, rfl⟩ ?_
                  refine jB C [(.iconst (-1), 1, (-1))] 118 [(0, .int v0)] [.int (-1)] (by decide +kernel) rfl rfl ?_
                  exact jRetI C (by decide +kernel : decode cX6_lawWord 118 = .ok (.ireturn, 1)) (Nat.le_refl _) (Nat.le_refl _) ⟨rfl, h⟩
                · have h := it2 h c1_7
                  by_cases c1_8 : v0 = 12
                  · have h := it1 h c1_8
                    refine jTabIn C 117 12 (by decide +kernel : decode cX6_lawWord 1 = .ok (.tableswitch 116 4 23 #[99, 116, 116, 116, 116, 116, 116, 116, 116, 116, 116, 116, 95, 97, 101, 103, 105, 107, 110, 113], 95)) c1_8 ⟨rfl, rfl, rfl, rfl⟩ ?_
                    refine jB C [(.iconst (-1), 1, (-1))] 118 [(0, .int v0)] [.int (-1)] (by decide +kernel) rfl rfl ?_
                    exact jRetI C (by decide +kernel : decode cX6_lawWord 118 = .ok (.ireturn, 1)) (Nat.le_refl _) (Nat.le_refl _) ⟨rfl, h⟩
                  · have h := it2 h c1_8
                    by_cases c1_9 : v0 = 13
                    · have h := it1 h c1_9
                      refine jTabIn C 117 13 (by decide +kernel : decode cX6_lawWord 1 = .ok (.tableswitch 116 4 23 #[99, 116, 116, 116, 116, 116, 116, 116, 116, 116, 116, 116, 95, 97, 101, 103, 105, 107, 110, 113], 95)) c1_9 ⟨rfl, rfl, rfl, rfl⟩ ?_
                      refine jB C [(.iconst (-1), 1, (-1))] 118 [(0, .int v0)] [.int (-1)] (by decide +kernel) rfl rfl ?_
                      exact jRetI C (by decide +kernel : decode cX6_lawWord 118 = .ok (.ireturn, 1)) (Nat.le_refl _) (Nat.le_refl _) ⟨rfl, h⟩
                    · have h := it2 h c1_9
                      by_cases c1_10 : v0 = 14
                      · have h := it1 h c1_10
                        refine jTabIn C 117 14 (by decide +kernel : decode cX6_lawWord 1 = .ok (.tableswitch 116 4 23 #[99, 116, 116, 116, 116, 116, 116, 116, 116, 116, 116, 116, 95, 97, 101, 103, 105, 107, 110, 113], 95)) c1_10 ⟨rfl, rfl, rfl, rfl⟩ ?_
                        refine jB C [(.iconst (-1), 1, (-1))] 118 [(0, .int v0)] [.int (-1)] (by decide +kernel) rfl rfl ?_
                        exact jRetI C (by decide +kernel : decode cX6_lawWord 118 = .ok (.ireturn, 1)) (Nat.le_refl _) (Nat.le_refl _) ⟨rfl, h⟩
                      · have h := it2 h c1_10
                        by_cases c1_11 : v0 = 15
                        · have h := it1 h c1_11
                          refine jTabIn C 117 15 (by decide +kernel : decode cX6_lawWord 1 = .ok (.tableswitch 116 4 23 #[99, 116, 116, 116, 116, 116, 116, 116, 116, 116, 116, 116, 95, 97, 101, 103, 105, 107, 110, 113], 95)) c1_11 ⟨rfl, rfl, rfl, rfl⟩ ?_
                          refine jB C [(.iconst (-1), 1, (-1))] 118 [(0, .int v0)] [.int (-1)] (by decide +kernel) rfl rfl ?_
                          exact jRetI C (by decide +kernel : decode cX6_lawWord 118 = .ok (.ireturn, 1)) (Nat.le_refl _) (Nat.le_refl _) ⟨rfl, h⟩
                        · have h := it2 h c1_11
                          by_cases c1_12 : v0 = 16
                          · have h := it1 h c1_12
                            refine jTabIn C 96 16 (by decide +kernel : decode cX6_lawWord 1 = .ok (.tableswitch 116 4 23 #[99, 116, 116, 116, 116, 116, 116, 116, 116, 116, 116, 116, 95, 97, 101, 103, 105, 107, 110, 113], 95)) c1_12 ⟨rfl, rfl, rfl, rfl⟩ ?_
                            refine jB C [(.iconst 0, 1, 0)] 97 [(0, .int v0)] [.int 0] (by decide +kernel) rfl rfl ?_
                            exact jRetI C (by decide +kernel : decode cX6_lawWord 97 = .ok (.ireturn, 1)) (Nat.le_refl _) (Nat.le_refl _) ⟨rfl, h⟩
                          · have h := it2 h c1_12
                            by_cases c1_13 : v0 = 17
                            · have h := it1 h c1_13
                              refine jTabIn C 98 17 (by decide +kernel : decode cX6_lawWord 1 = .ok (.tableswitch 116 4 23 #[99, 116, 116, 116, 116, 116, 116, 116, 116, 116, 116, 116, 95, 97, 101, 103, 105, 107, 110, 113], 95)) c1_13 ⟨rfl, rfl, rfl, rfl⟩ ?_
                              refine jB C [(.iconst 1, 1, 1)] 99 [(0, .int v0)] [.int 1] (by decide +kernel) rfl rfl ?_
                              exact jRetI C (by decide +kernel : decode cX6_lawWord 99 = .ok (.ireturn, 1)) (Nat.le_refl _) (Nat.le_refl _) ⟨rfl, h⟩
                            · have h := it2 h c1_13
                              by_cases c1_14 : v0 = 18
                              · have h := it1 h c1_14
                                refine jTabIn C 102 18 (by decide +kernel : decode cX6_lawWord 1 = .ok (.tableswitch 116 4 23 #[99, 116, 116, 116, 116, 116, 116, 116, 116, 116, 116, 116, 95, 97, 101, 103, 105, 107, 110, 113], 95)) c1_14 ⟨rfl, rfl, rfl, rfl⟩ ?_
                                refine jB C [(.iconst 3, 1, 3)] 103 [(0, .int v0)] [.int 3] (by decide +kernel) rfl rfl ?_
                                exact jRetI C (by decide +kernel : decode cX6_lawWord 103 = .ok (.ireturn, 1)) (Nat.le_refl _) (Nat.le_refl _) ⟨rfl, h⟩
                              · have h := it2 h c1_14
                                by_cases c1_15 : v0 = 19
                                · have h := it1 h c1_15
                                  refine jTabIn C 104 19 (by decide +kernel : decode cX6_lawWord 1 = .ok (.tableswitch 116 4 23 #[99, 116, 116, 116, 116, 116, 116, 116, 116, 116, 116, 116, 95, 97, 101, 103, 105, 107, 110, 113], 95)) c1_15 ⟨rfl, rfl, rfl, rfl⟩ ?_
                                  refine jB C [(.iconst 4, 1, 4)] 105 [(0, .int v0)] [.int 4] (by decide +kernel) rfl rfl ?_
                                  exact jRetI C (by decide +kernel : decode cX6_lawWord 105 = .ok (.ireturn, 1)) (Nat.le_refl _) (Nat.le_refl _) ⟨rfl, h⟩
                                · have h := it2 h c1_15
                                  by_cases c1_16 : v0 = 20
                                  · have h := it1 h c1_16
                                    refine jTabIn C 106 20 (by decide +kernel : decode cX6_lawWord 1 = .ok (.tableswitch 116 4 23 #[99, 116, 116, 116, 116, 116, 116, 116, 116, 116, 116, 116, 95, 97, 101, 103, 105, 107, 110, 113], 95)) c1_16 ⟨rfl, rfl, rfl, rfl⟩ ?_
                                    refine jB C [(.iconst 5, 1, 5)] 107 [(0, .int v0)] [.int 5] (by decide +kernel) rfl rfl ?_
                                    exact jRetI C (by decide +kernel : decode cX6_lawWord 107 = .ok (.ireturn, 1)) (Nat.le_refl _) (Nat.le_refl _) ⟨rfl, h⟩
                                  · have h := it2 h c1_16
                                    by_cases c1_17 : v0 = 21
                                    · have h := it1 h c1_17
                                      refine jTabIn C 108 21 (by decide +kernel : decode cX6_lawWord 1 = .ok (.tableswitch 116 4 23 #[99, 116, 116, 116, 116, 116, 116, 116, 116, 116, 116, 116, 95, 97, 101, 103, 105, 107, 110, 113], 95)) c1_17 ⟨rfl, rfl, rfl, rfl⟩ ?_
                                      refine jB C [(.bipush 6, 2, 6)] 110 [(0, .int v0)] [.int 6] (by decide +kernel) rfl rfl ?_
                                      exact jRetI C (by decide +kernel : decode cX6_lawWord 110 = .ok (.ireturn, 1)) (Nat.le_refl _) (Nat.le_refl _) ⟨rfl, h⟩
                                    · have h := it2 h c1_17
                                      by_cases c1_18 : v0 = 22
                                      · have h := it1 h c1_18
                                        refine jTabIn C 111 22 (by decide +kernel : decode cX6_lawWord 1 = .ok (.tableswitch 116 4 23 #[99, 116, 116, 116, 116, 116, 116, 116, 116, 116, 116, 116, 95, 97, 101, 103, 105, 107, 110, 113], 95)) c1_18 ⟨rfl, rfl, rfl, rfl⟩ ?_
                                        refine jB C [(.bipush 7, 2, 7)] 113 [(0, .int v0)] [.int 7] (by decide +kernel) rfl rfl ?_
                                        exact jRetI C (by decide +kernel : decode cX6_lawWord 113 = .ok (.ireturn, 1)) (Nat.le_refl _) (Nat.le_refl _) ⟨rfl, h⟩
                                      · have h := it2 h c1_18
                                        by_cases c1_19 : v0 = 23
                                        · have h := it1 h c1_19
                                          refine jTabIn C 114 23 (by decide +kernel : decode cX6_lawWord 1 = .ok (.tableswitch 116 4 23 #[99, 116, 116, 116, 116, 116, 116, 116, 116, 116, 116, 116, 95, 97, 101, 103, 105, 107, 110, 113], 95)) c1_19 ⟨rfl, rfl, rfl, rfl⟩ ?_
                                          refine jB C [(.bipush 8, 2, 8)] 116 [(0, .int v0)] [.int 8] (by decide +kernel) rfl rfl ?_
                                          exact jRetI C (by decide +kernel : decode cX6_lawWord 116 = .ok (.ireturn, 1)) (Nat.le_refl _) (Nat.le_refl _) ⟨rfl, h⟩
                                        · have h := it2 h c1_19
                                          refine jTabOut C 117 (by decide +kernel : decode cX6_lawWord 1 = .ok (.tableswitch 116 4 23 #[99, 116, 116, 116, 116, 116, 116, 116, 116, 116, 116, 116, 95, 97, 101, 103, 105, 107, 110, 113], 95)) rfl (by have := lv_neT c1_0 (a := 4) rfl; have := lv_neT c1_1 (a := 5) rfl; have := lv_neT c1_2 (a := 6) rfl; have := lv_neT c1_3 (a := 7) rfl; have := lv_neT c1_4 (a := 8) rfl; have := lv_neT c1_5 (a := 9) rfl; have := lv_neT c1_6 (a := 10) rfl; have := lv_neT c1_7 (a := 11) rfl; have := lv_neT c1_8 (a := 12) rfl; have := lv_neT c1_9 (a := 13) rfl; have := lv_neT c1_10 (a := 14) rfl; have := lv_neT c1_11 (a := 15) rfl; have := lv_neT c1_12 (a := 16) rfl; have := lv_neT c1_13 (a := 17) rfl; have := lv_neT c1_14 (a := 18) rfl; have := lv_neT c1_15 (a := 19) rfl; have := lv_neT c1_16 (a := 20) rfl; have := lv_neT c1_17 (a := 21) rfl; have := lv_neT c1_18 (a := 22) rfl; have := lv_neT c1_19 (a := 23) rfl; omega) ?_
                                          refine jB C [(.iconst (-1), 1, (-1))] 118 [(0, .int v0)] [.int (-1)] (by decide +kernel) rfl rfl ?_
                                          exact jRetI C (by decide +kernel : decode cX6_lawWord 118 = .ok (.ireturn, 1)) (Nat.le_refl _) (Nat.le_refl _) ⟨rfl, h⟩
theorem ok_X6_lawWord {G : Gm} {v0 : Int32} {S : St} {Q : Int32 → St → Prop} (h : f_X6_lawWord G v0 Q S) : MT yX6_lawWord cX6_lawWord 1 (some .int) rm_X6_lawWord 0 0 (fun b => [.int v0]) G S (QI (fun r G1 S1 => G1 = G ∧ Q r S1)) := MT.ofJ (by decide) (fun b => [(0, .int v0)]) (fun b => rfl) (fun b => Nat.le_of_ble_eq_true rfl) (fun l b D cy p e s m below meth c C hE hn => j_X6_lawWord C hE h)
theorem hd_X6_lawWord : yX6_lawWord.cls ≠ "java/lang/invoke/MethodHandle" ∧ yX6_lawWord.cls ≠ "java/lang/invoke/VarHandle" ∧ (parseMethodDescriptor yX6_lawWord.desc).map (fun d => d.parameters.length) = some 1 := by decide +kernel
def f_X6_orderWord (G : Gm) (v0 : Int32) (Q : Int32 → St → Prop) (S : St) : Prop :=
  (if v0 = 2 then Q 16 S else (if v0 = 3 then Q (-1) S else (if v0 = 4 then Q (-1) S else (if v0 = 5 then Q (-1) S else (if v0 = 6 then Q (-1) S else (if v0 = 7 then Q (-1) S else (if v0 = 8 then Q (-1) S else (if v0 = 9 then Q (-1) S else (if v0 = 10 then Q (-1) S else (if v0 = 11 then Q (-1) S else (if v0 = 12 then Q (-1) S else (if v0 = 13 then Q (-1) S else (if v0 = 14 then Q (-1) S else (if v0 = 15 then Q (-1) S else (if v0 = 16 then Q (-1) S else (if v0 = 17 then Q (-1) S else (if v0 = 18 then Q 4 S else (if v0 = 19 then Q 10 S else (if v0 = 20 then Q (-1) S else (if v0 = 21 then Q (-1) S else (if v0 = 22 then Q 0 S else (if v0 = 23 then Q (-1) S else (if v0 = 24 then Q 1 S else (if v0 = 25 then Q 2 S else (if v0 = 26 then Q 3 S else Q (-1) S)))))))))))))))))))))))))
abbrev rm_X6_orderWord : Room := { frames := 0, cells := 0, slots := 0, locals := 0 }
set_option maxHeartbeats 4000000 in
set_option maxRecDepth 100000 in
theorem j_X6_orderWord {p : Program} {l : Launch} {e : Env} {s : State} {m : MethodId} {args : Array Value} {below : List Frame} {meth : Method} {c : Code} {b : Nat} {D : va_G} {cy : Nat → ClassId} {G : Gm} {v0 : Int32} {S : St} {Q : Int32 → St → Prop} (C : CX p s m args meth c b D cy cX6_orderWord RX6 1 (some .int)) (hE : s.heap.size + 0 ≤ b + G.2.2) (h : f_X6_orderWord G v0 Q S) : J p l e rm_X6_orderWord s m args below meth c b D cy 1 (zI b D cy below args s G Q) 0 0 G S 0 [(0, .int v0)] [] := by
  unfold f_X6_orderWord at h
  refine jB C [(.iload_n 0, 1, 0)] 1 [(0, .int v0)] [.int v0] (by decide +kernel) rfl rfl ?_
  by_cases c1_0 : v0 = 2
  · have h := it1 h c1_0
    refine jTabIn C 129 2 (by decide +kernel : decode cX6_orderWord 1 = .ok (.tableswitch 131 2 26 #[128, 131, 131, 131, 131, 131, 131, 131, 131, 131, 131, 131, 131, 131, 131, 131, 123, 125, 131, 131, 115, 131, 117, 119, 121], 115)) c1_0 ⟨rfl, rfl, rfl, rfl⟩ ?_
    refine jB C [(.bipush 16, 2, 16)] 131 [(0, .int v0)] [.int 16] (by decide +kernel) rfl rfl ?_
    exact jRetI C (by decide +kernel : decode cX6_orderWord 131 = .ok (.ireturn, 1)) (Nat.le_refl _) (Nat.le_refl _) ⟨rfl, h⟩
  · have h := it2 h c1_0
    by_cases c1_1 : v0 = 3
    · have h := it1 h c1_1
      refine jTabIn C 132 3 (by decide +kernel : decode cX6_orderWord 1 = .ok (.tableswitch 131 2 26 #[128, 131, 131, 131, 131, 131, 131, 131, 131, 131, 131, 131, 131, 131, 131, 131, 123, 125, 131, 131, 115, 131, 117, 119, 121], 115)) c1_1 ⟨rfl, rfl, rfl, rfl⟩ ?_
      refine jB C [(.iconst (-1), 1, (-1))] 133 [(0, .int v0)] [.int (-1)] (by decide +kernel) rfl rfl ?_
      exact jRetI C (by decide +kernel : decode cX6_orderWord 133 = .ok (.ireturn, 1)) (Nat.le_refl _) (Nat.le_refl _) ⟨rfl, h⟩
    · have h := it2 h c1_1
      by_cases c1_2 : v0 = 4
      · have h := it1 h c1_2
        refine jTabIn C 132 4 (by decide +kernel : decode cX6_orderWord 1 = .ok (.tableswitch 131 2 26 #[128, 131, 131, 131, 131, 131, 131, 131, 131, 131, 131, 131, 131, 131, 131, 131, 123, 125, 131, 131, 115, 131, 117, 119, 121], 115)) c1_2 ⟨rfl, rfl, rfl, rfl⟩ ?_
        refine jB C [(.iconst (-1), 1, (-1))] 133 [(0, .int v0)] [.int (-1)] (by decide +kernel) rfl rfl ?_
        exact jRetI C (by decide +kernel : decode cX6_orderWord 133 = .ok (.ireturn, 1)) (Nat.le_refl _) (Nat.le_refl _) ⟨rfl, h⟩
      · have h := it2 h c1_2
        by_cases c1_3 : v0 = 5
        · have h := it1 h c1_3
          refine jTabIn C 132 5 (by decide +kernel : decode cX6_orderWord 1 = .ok (.tableswitch 131 2 26 #[128, 131, 131, 131, 131, 131, 131, 131, 131, 131, 131, 131, 131, 131, 131, 131, 123, 125, 131, 131, 115, 131, 117, 119, 121], 115)) c1_3 ⟨rfl, rfl, rfl, rfl⟩ ?_
          refine jB C [(.iconst (-1), 1, (-1))] 133 [(0, .int v0)] [.int (-1)] (by decide +kernel) rfl rfl ?_
          exact jRetI C (by decide +kernel : decode cX6_orderWord 133 = .ok (.ireturn, 1)) (Nat.le_refl _) (Nat.le_refl _) ⟨rfl, h⟩
        · have h := it2 h c1_3
          by_cases c1_4 : v0 = 6
          · have h := it1 h c1_4
            refine jTabIn C 132 6 (by decide +kernel : decode cX6_orderWord 1 = .ok (.tableswitch 131 2 26 #[128, 131, 131, 131, 131, 131, 131, 131, 131, 131, 131, 131, 131, 131, 131, 131, 123, 125, 131, 131, 115, 131, 117, 119, 121], 115)) c1_4 ⟨rfl, rfl, rfl, rfl⟩ ?_
            refine jB C [(.iconst (-1), 1, (-1))] 133 [(0, .int v0)] [.int (-1)] (by decide +kernel) rfl rfl ?_
            exact jRetI C (by decide +kernel : decode cX6_orderWord 133 = .ok (.ireturn, 1)) (Nat.le_refl _) (Nat.le_refl _) ⟨rfl, h⟩
          · have h := it2 h c1_4
            by_cases c1_5 : v0 = 7
            · have h := it1 h c1_5
              refine jTabIn C 132 7 (by decide +kernel : decode cX6_orderWord 1 = .ok (.tableswitch 131 2 26 #[128, 131, 131, 131, 131, 131, 131, 131, 131, 131, 131, 131, 131, 131, 131, 131, 123, 125, 131, 131, 115, 131, 117, 119, 121], 115)) c1_5 ⟨rfl, rfl, rfl, rfl⟩ ?_
              refine jB C [(.iconst (-1), 1, (-1))] 133 [(0, .int v0)] [.int (-1)] (by decide +kernel) rfl rfl ?_
              exact jRetI C (by decide +kernel : decode cX6_orderWord 133 = .ok (.ireturn, 1)) (Nat.le_refl _) (Nat.le_refl _) ⟨rfl, h⟩
            · have h := it2 h c1_5
              by_cases c1_6 : v0 = 8
              · have h := it1 h c1_6
                refine jTabIn C 132 8 (by decide +kernel : decode cX6_orderWord 1 = .ok (.tableswitch 131 2 26 #[128, 131, 131, 131, 131, 131, 131, 131, 131, 131, 131, 131, 131, 131, 131, 131, 123, 125, 131, 131, 115, 131, 117, 119, 121], 115)) c1_6 ⟨rfl, rfl, rfl, rfl⟩ ?_
                refine jB C [(.iconst (-1), 1, (-1))] 133 [(0, .int v0)] [.int (-1)] (by decide +kernel) rfl rfl ?_
                exact jRetI C (by decide +kernel : decode cX6_orderWord 133 = .ok (.ireturn, 1)) (Nat.le_refl _) (Nat.le_refl _) ⟨rfl, h⟩
              · have h := it2 h c1_6
                by_cases c1_7 : v0 = 9
                · have h := it1 h c1_7
                  refine jTabIn C 132 9 (by decide +kernel : decode cX6_orderWord 1 = .ok (.tableswitch 131 2 26 #[128, 131, 131, 131, 131, 131, 131, 131, 131, 131, 131, 131, 131, 131, 131, 131, 123, 125, 131, 131, 115, 131, 117, 119, 121], 115)) c1_7 ⟨rfl, rfl, rfl, rfl⟩ ?_
                  refine jB C [(.iconst (-1), 1, (-1))] 133 [(0, .int v0)] [.int (-1)] (by decide +kernel) rfl rfl ?_
                  exact jRetI C (by decide +kernel : decode cX6_orderWord 133 = .ok (.ireturn, 1)) (Nat.le_refl _) (Nat.le_refl _) ⟨rfl, h⟩
                · have h := it2 h c1_7
                  by_cases c1_8 : v0 = 10
                  · have h := it1 h c1_8
                    refine jTabIn C 132 10 (by decide +kernel : decode cX6_orderWord 1 = .ok (.tableswitch 131 2 26 #[128, 131, 131, 131, 131, 131, 131, 131, 131, 131, 131, 131, 131, 131, 131, 131, 123, 125, 131, 131, 115, 131, 117, 119, 121], 115)) c1_8 ⟨rfl, rfl, rfl, rfl⟩ ?_
                    refine jB C [(.iconst (-1), 1, (-1))] 133 [(0, .int v0)] [.int (-1)] (by decide +kernel) rfl rfl ?_
                    exact jRetI C (by decide +kernel : decode cX6_orderWord 133 = .ok (.ireturn, 1)) (Nat.le_refl _) (Nat.le_refl _) ⟨rfl, h⟩
                  · have h := it2 h c1_8
                    by_cases c1_9 : v0 = 11
                    · have h := it1 h c1_9
                      refine jTabIn C 132 11 (by decide +kernel : decode cX6_orderWord 1 = .ok (.tableswitch 131 2 26 #[128, 131, 131, 131, 131, 131, 131, 131, 131, 131, 131, 131, 131, 131, 131, 131, 123, 125, 131, 131, 115, 131, 117, 119, 121], 115)) c1_9 ⟨rfl, rfl, rfl, rfl⟩ ?_
                      refine jB C [(.iconst (-1), 1, (-1))] 133 [(0, .int v0)] [.int (-1)] (by decide +kernel) rfl rfl ?_
                      exact jRetI C (by decide +kernel : decode cX6_orderWord 133 = .ok (.ireturn, 1)) (Nat.le_refl _) (Nat.le_refl _) ⟨rfl, h⟩
                    · have h := it2 h c1_9
                      by_cases c1_10 : v0 = 12
                      · have h := it1 h c1_10
                        refine jTabIn C 132 12 (by decide +kernel : decode cX6_orderWord 1 = .ok (.tableswitch 131 2 26 #[128, 131, 131, 131, 131, 131, 131, 131, 131, 131, 131, 131, 131, 131, 131, 131, 123, 125, 131, 131, 115, 131, 117, 119, 121], 115)) c1_10 ⟨rfl, rfl, rfl, rfl⟩ ?_
                        refine jB C [(.iconst (-1), 1, (-1))] 133 [(0, .int v0)] [.int (-1)] (by decide +kernel) rfl rfl ?_
                        exact jRetI C (by decide +kernel : decode cX6_orderWord 133 = .ok (.ireturn, 1)) (Nat.le_refl _) (Nat.le_refl _) ⟨rfl, h⟩
                      · have h := it2 h c1_10
                        by_cases c1_11 : v0 = 13
                        · have h := it1 h c1_11
                          refine jTabIn C 132 13 (by decide +kernel : decode cX6_orderWord 1 = .ok (.tableswitch 131 2 26 #[128, 131, 131, 131, 131, 131, 131, 131, 131, 131, 131, 131, 131, 131, 131, 131, 123, 125, 131, 131, 115, 131, 117, 119, 121], 115)) c1_11 ⟨rfl, rfl, rfl, rfl⟩ ?_
                          refine jB C [(.iconst (-1), 1, (-1))] 133 [(0, .int v0)] [.int (-1)] (by decide +kernel) rfl rfl ?_
                          exact jRetI C (by decide +kernel : decode cX6_orderWord 133 = .ok (.ireturn, 1)) (Nat.le_refl _) (Nat.le_refl _) ⟨rfl, h⟩
                        · have h := it2 h c1_11
                          by_cases c1_12 : v0 = 14
                          · have h := it1 h c1_12
                            refine jTabIn C 132 14 (by decide +kernel : decode cX6_orderWord 1 = .ok (.tableswitch 131 2 26 #[128, 131, 131, 131, 131, 131, 131, 131, 131, 131, 131, 131, 131, 131, 131, 131, 123, 125, 131, 131, 115, 131, 117, 119, 121], 115)) c1_12 ⟨rfl, rfl, rfl, rfl⟩ ?_
                            refine jB C [(.iconst (-1), 1, (-1))] 133 [(0, .int v0)] [.int (-1)] (by decide +kernel) rfl rfl ?_
                            exact jRetI C (by decide +kernel : decode cX6_orderWord 133 = .ok (.ireturn, 1)) (Nat.le_refl _) (Nat.le_refl _) ⟨rfl, h⟩
                          · have h := it2 h c1_12
                            by_cases c1_13 : v0 = 15
                            · have h := it1 h c1_13
                              refine jTabIn C 132 15 (by decide +kernel : decode cX6_orderWord 1 = .ok (.tableswitch 131 2 26 #[128, 131, 131, 131, 131, 131, 131, 131, 131, 131, 131, 131, 131, 131, 131, 131, 123, 125, 131, 131, 115, 131, 117, 119, 121], 115)) c1_13 ⟨rfl, rfl, rfl, rfl⟩ ?_
                              refine jB C [(.iconst (-1), 1, (-1))] 133 [(0, .int v0)] [.int (-1)] (by decide +kernel) rfl rfl ?_
                              exact jRetI C (by decide +kernel : decode cX6_orderWord 133 = .ok (.ireturn, 1)) (Nat.le_refl _) (Nat.le_refl _) ⟨rfl, h⟩
                            · have h := it2 h c1_13
                              by_cases c1_14 : v0 = 16
                              · have h := it1 h c1_14
                                refine jTabIn C 132 16 (by decide +kernel : decode cX6_orderWord 1 = .ok (.tableswitch 131 2 26 #[128, 131, 131, 131, 131, 131, 131, 131, 131, 131, 131, 131, 131, 131, 131, 131, 123, 125, 131, 131, 115, 131, 117, 119, 121], 115)) c1_14 ⟨rfl, rfl, rfl, rfl⟩ ?_
                                refine jB C [(.iconst (-1), 1, (-1))] 133 [(0, .int v0)] [.int (-1)] (by decide +kernel) rfl rfl ?_
                                exact jRetI C (by decide +kernel : decode cX6_orderWord 133 = .ok (.ireturn, 1)) (Nat.le_refl _) (Nat.le_refl _) ⟨rfl, h⟩
                              · have h := it2 h c1_14
                                by_cases c1_15 : v0 = 17
                                · have h := it1 h c1_15
                                  refine jTabIn C 132 17 (by decide +kernel : decode cX6_orderWord 1 = .ok (.tableswitch 131 2 26 #[128, 131, 131, 131, 131, 131, 131, 131, 131, 131, 131, 131, 131, 131, 131, 131, 123, 125, 131, 131, 115, 131, 117, 119, 121], 115)) c1_15 ⟨rfl, rfl, rfl, rfl⟩ ?_
                                  refine jB C [(.iconst (-1), 1, (-1))] 133 [(0, .int v0)] [.int (-1)] (by decide +kernel) rfl rfl ?_
                                  exact jRetI C (by decide +kernel : decode cX6_orderWord 133 = .ok (.ireturn, 1)) (Nat.le_refl _) (Nat.le_refl _) ⟨rfl, h⟩
                                · have h := it2 h c1_15
                                  by_cases c1_16 : v0 = 18
                                  · have h := it1 h c1_16
                                    refine jTabIn C 124 18 (by decide +kernel : decode cX6_orderWord 1 = .ok (.tableswitch 131 2 26 #[128, 131, 131, 131, 131, 131, 131, 131, 131, 131, 131, 131, 131, 131, 131, 131, 123, 125, 131, 131, 115, 131, 117, 119, 121], 115)) c1_16 ⟨rfl, rfl, rfl, rfl⟩ ?_
                                    refine jB C [(.iconst 4, 1, 4)] 125 [(0, .int v0)] [.int 4] (by decide +kernel) rfl rfl ?_
                                    exact jRetI C (by decide +kernel : decode cX6_orderWord 125 = .ok (.ireturn, 1)) (Nat.le_refl _) (Nat.le_refl _) ⟨rfl, h⟩
                                  · have h := it2 h c1_16
                                    by_cases c1_17 : v0 = 19
                                    · have h := it1 h c1_17
                                      refine jTabIn C 126 19 (by decide +kernel : decode cX6_orderWord 1 = .ok (.tableswitch 131 2 26 #[128, 131, 131, 131, 131, 131, 131, 131, 131, 131, 131, 131, 131, 131, 131, 131, 123, 125, 131, 131, 115, 131, 117, 119, 121], 115)) c1_17 ⟨rfl, rfl, rfl, rfl⟩ ?_
                                      refine jB C [(.bipush 10, 2, 10)] 128 [(0, .int v0)] [.int 10] (by decide +kernel) rfl rfl ?_
                                      exact jRetI C (by decide +kernel : decode cX6_orderWord 128 = .ok (.ireturn, 1)) (Nat.le_refl _) (Nat.le_refl _) ⟨rfl, h⟩
                                    · have h := it2 h c1_17
                                      by_cases c1_18 : v0 = 20
                                      · have h := it1 h c1_18
                                        refine jTabIn C 132 20 (by decide +kernel : decode cX6_orderWord 1 = .ok (.tableswitch 131 2 26 #[128, 131, 131, 131, 131, 131, 131, 131, 131, 131, 131, 131, 131, 131, 131, 131, 123, 125, 131, 131, 115, 131, 117, 119, 121], 115)) c1_18 ⟨rfl, rfl, rfl, rfl⟩ ?_
                                        refine jB C [(.iconst (-1), 1, (-1))] 133 [(0, .int v0)] [.int (-1)] (by decide +kernel) rfl rfl ?_
                                        exact jRetI C (by decide +kernel : decode cX6_orderWord 133 = .ok (.ireturn, 1)) (Nat.le_refl _) (Nat.le_refl _) ⟨rfl, h⟩
                                      · have h := it2 h c1_18
                                        by_cases c1_19 : v0 = 21
                                        · have h := it1 h c1_19
                                          refine jTabIn C 132 21 (by decide +kernel : decode cX6_orderWord 1 = .ok (.tableswitch 131 2 26 #[128, 131, 131, 131, 131, 131, 131, 131, 131, 131, 131, 131, 131, 131, 131, 131, 123, 125, 131, 131, 115, 131, 117, 119, 121], 115)) c1_19 ⟨rfl, rfl, rfl, rfl⟩ ?_
                                          refine jB C [(.iconst (-1), 1, (-1))] 133 [(0, .int v0)] [.int (-1)] (by decide +kernel) rfl rfl ?_
                                          exact jRetI C (by decide +kernel : decode cX6_orderWord 133 = .ok (.ireturn, 1)) (Nat.le_refl _) (Nat.le_refl _) ⟨rfl, h⟩
                                        · have h := it2 h c1_19
                                          by_cases c1_20 : v0 = 22
                                          · have h := it1 h c1_20
                                            refine jTabIn C 116 22 (by decide +kernel : decode cX6_orderWord 1 = .ok (.tableswitch 131 2 26 #[128, 131, 131, 131, 131, 131, 131, 131, 131, 131, 131, 131, 131, 131, 131, 131, 123, 125, 131, 131, 115, 131, 117, 119, 121], 115)) c1_20 ⟨rfl, rfl, rfl, rfl⟩ ?_
                                            refine jB C [(.iconst 0, 1, 0)] 117 [(0, .int v0)] [.int 0] (by decide +kernel) rfl rfl ?_
                                            exact jRetI C (by decide +kernel : decode cX6_orderWord 117 = .ok (.ireturn, 1)) (Nat.le_refl _) (Nat.le_refl _) ⟨rfl, h⟩
                                          · have h := it2 h c1_20
                                            by_cases c1_21 : v0 = 23
                                            · have h := it1 h c1_21
                                              refine jTabIn C 132 23 (by decide +kernel : decode cX6_orderWord 1 = .ok (.tableswitch 131 2 26 #[128, 131, 131, 131, 131, 131, 131, 131, 131, 131, 131, 131, 131, 131, 131, 131, 123, 125, 131, 131, 115, 131, 117, 119, 121], 115)) c1_21 ⟨rfl, rfl, rfl, rfl⟩ ?_
                                              refine jB C [(.iconst (-1), 1, (-1))] 133 [(0, .int v0)] [.int (-1)] (by decide +kernel) rfl rfl ?_
                                              exact jRetI C (by decide +kernel : decode cX6_orderWord 133 = .ok (.ireturn, 1)) (Nat.le_refl _) (Nat.le_refl _) ⟨rfl, h⟩
                                            · have h := it2 h c1_21
                                              by_cases c1_22 : v0 = 24
                                              · have h := it1 h c1_22
                                                refine jTabIn C 118 24 (by decide +kernel : decode cX6_orderWord 1 = .ok (.tableswitch 131 2 26 #[128, 131, 131, 131, 131, 131, 131, 131, 131, 131, 131, 131, 131, 131, 131, 131, 123, 125, 131, 131, 115, 131, 117, 119, 121], 115)) c1_22 ⟨rfl, rfl, rfl, rfl⟩ ?_
                                                refine jB C [(.iconst 1, 1, 1)] 119 [(0, .int v0)] [.int 1] (by decide +kernel) rfl rfl ?_
                                                exact jRetI C (by decide +kernel : decode cX6_orderWord 119 = .ok (.ireturn, 1)) (Nat.le_refl _) (Nat.le_refl _) ⟨rfl, h⟩
                                              · have h := it2 h c1_22
                                                by_cases c1_23 : v0 = 25
                                                · have h := it1 h c1_23
                                                  refine jTabIn C 120 25 (by decide +kernel : decode cX6_orderWord 1 = .ok (.tableswitch 131 2 26 #[128, 131, 131, 131, 131, 131, 131, 131, 131, 131, 131, 131, 131, 131, 131, 131, 123, 125, 131, 131, 115, 131, 117, 119, 121], 115)) c1_23 ⟨rfl, rfl, rfl, rfl⟩ ?_
                                                  refine jB C [(.iconst 2, 1, 2)] 121 [(0, .int v0)] [.int 2] (by decide +kernel) rfl rfl ?_
                                                  exact jRetI C (by decide +kernel : decode cX6_orderWord 121 = .ok (.ireturn, 1)) (Nat.le_refl _) (Nat.le_refl _) ⟨rfl, h⟩
                                                · have h := it2 h c1_23
                                                  by_cases c1_24 : v0 = 26
                                                  · have h := it1 h c1_24
                                                    refine jTabIn C 122 26 (by decide +kernel : decode cX6_orderWord 1 = .ok (.tableswitch 131 2 26 #[128, 131, 131, 131, 131, 131, 131, 131, 131, 131, 131, 131, 131, 131, 131, 131, 123, 125, 131, 131, 115, 131, 117, 119, 121], 115)) c1_24 ⟨rfl, rfl, rfl, rfl⟩ ?_
                                                    refine jB C [(.iconst 3, 1, 3)] 123 [(0, .int v0)] [.int 3] (by decide +kernel) rfl rfl ?_
                                                    exact jRetI C (by decide +kernel : decode cX6_orderWord 123 = .ok (.ireturn, 1)) (Nat.le_refl _) (Nat.le_refl _) ⟨rfl, h⟩
                                                  · have h := it2 h c1_24
                                                    refine jTabOut C 132 (by decide +kernel : decode cX6_orderWord 1 = .ok (.tableswitch 131 2 26 #[128, 131, 131, 131, 131, 131, 131, 131, 131, 131, 131, 131, 131, 131, 131, 131, 123, 125, 131, 131, 115, 131, 117, 119, 121], 115)) rfl (by have := lv_neT c1_0 (a := 2) rfl; have := lv_neT c1_1 (a := 3) rfl; have := lv_neT c1_2 (a := 4) rfl; have := lv_neT c1_3 (a := 5) rfl; have := lv_neT c1_4 (a := 6) rfl; have := lv_neT c1_5 (a := 7) rfl; have := lv_neT c1_6 (a := 8) rfl; have := lv_neT c1_7 (a := 9) rfl; have := lv_neT c1_8 (a := 10) rfl; have := lv_neT c1_9 (a := 11) rfl; have := lv_neT c1_10 (a := 12) rfl; have := lv_neT c1_11 (a := 13) rfl; have := lv_neT c1_12 (a := 14) rfl; have := lv_neT c1_13 (a := 15) rfl; have := lv_neT c1_14 (a := 16) rfl; have := lv_neT c1_15 (a := 17) rfl; have := lv_neT c1_16 (a := 18) rfl; have := lv_neT c1_17 (a := 19) rfl; have := lv_neT c1_18 (a := 20) rfl; have := lv_neT c1_19 (a := 21) rfl; have := lv_neT c1_20 (a := 22) rfl; have := lv_neT c1_21 (a := 23) rfl; have := lv_neT c1_22 (a := 24) rfl; have := lv_neT c1_23 (a := 25) rfl; have := lv_neT c1_24 (a := 26) rfl; omega) ?_
                                                    refine jB C [(.iconst (-1), 1, (-1))] 133 [(0, .int v0)] [.int (-1)] (by decide +kernel) rfl rfl ?_
                                                    exact jRetI C (by decide +kernel : decode cX6_orderWord 133 = .ok (.ireturn, 1)) (Nat.le_refl _) (Nat.le_refl _) ⟨rfl, h⟩
theorem ok_X6_orderWord {G : Gm} {v0 : Int32} {S : St} {Q : Int32 → St → Prop} (h : f_X6_orderWord G v0 Q S) : MT yX6_orderWord cX6_orderWord 1 (some .int) rm_X6_orderWord 0 0 (fun b => [.int v0]) G S (QI (fun r G1 S1 => G1 = G ∧ Q r S1)) := MT.ofJ (by decide) (fun b => [(0, .int v0)]) (fun b => rfl) (fun b => Nat.le_of_ble_eq_true rfl) (fun l b D cy p e s m below meth c C hE hn => j_X6_orderWord C hE h)
theorem hd_X6_orderWord : yX6_orderWord.cls ≠ "java/lang/invoke/MethodHandle" ∧ yX6_orderWord.cls ≠ "java/lang/invoke/VarHandle" ∧ (parseMethodDescriptor yX6_orderWord.desc).map (fun d => d.parameters.length) = some 1 := by decide +kernel
def f_X8_put_43 (G : Gm) (v0 : Nat) (v1 : Int32) (v2 : Int32) (v3 : Int32) (Q : Int32 → St → Prop) (S : St) : Prop :=
  (∀ x1 : Int32, x1 = (S.1 v0 5) - 1 → (if v1 = 1 then (if x1 < 0 then Q v3 S else (∃ a4, S.2.2 v0 2 = some a4 ∧ (if (nI (G.2.1 a4)) ≤ x1 then Q v3 S else (∃ a6, S.2.2 v0 2 = some a6 ∧ (vp_in x1 (G.2.1 a6) ∧ (vp_in x1 (G.2.1 a6) ∧ ∀ S9, S9 = uI S a6 x1.toNatClampNeg ((S.1 a6 x1.toNatClampNeg) ||| (1 <<< ((v2 : Int32) &&& 31))) → Q v3 S9)))))) else Q v3 S))
def f_X8_put (G : Gm) (v0 : Nat) (v1 : Int32) (v2 : Int32) (Q : Int32 → St → Prop) (S : St) : Prop :=
  (∀ x1 : Int32, x1 = S.1 v0 6 → (if x1 < 0 then f_X8_put_43 G v0 v1 v2 x1 Q S else (∃ a3, S.2.2 v0 4 = some a3 ∧ (if (nI (G.2.1 a3)) ≤ (x1 + 1) then f_X8_put_43 G v0 v1 v2 x1 Q S else (∃ a5, S.2.2 v0 4 = some a5 ∧ (vp_in x1 (G.2.1 a5) ∧ ∀ S7, S7 = uI S a5 x1.toNatClampNeg v1 → (∃ a8, S7.2.2 v0 4 = some a8 ∧ (vp_in (x1 + 1) (G.2.1 a8) ∧ ∀ S10, S10 = uI S7 a8 (x1 + 1).toNatClampNeg v2 → (∀ S11, S11 = uI S10 v0 6 (x1 + 2) → f_X8_put_43 G v0 v1 v2 x1 Q S11)))))))))
abbrev rm_X8_put : Room := { frames := 0, cells := 0, slots := 0, locals := 0 }
set_option maxHeartbeats 4000000 in
set_option maxRecDepth 100000 in
theorem j_X8_put_43 {p : Program} {l : Launch} {e : Env} {s : State} {m : MethodId} {args : Array Value} {below : List Frame} {meth : Method} {c : Code} {b : Nat} {D : va_G} {cy : Nat → ClassId} {G : Gm} {v0 : Nat} {v1 : Int32} {v2 : Int32} {v3 : Int32} {S : St} {Q : Int32 → St → Prop} (C : CX p s m args meth c b D cy cX8_put RX8 5 (some .int)) (hE : s.heap.size + 0 ≤ b + G.2.2) (t_v0 : ok G 7 v0) (h : f_X8_put_43 G v0 v1 v2 v3 Q S) : J p l e rm_X8_put s m args below meth c b D cy 5 (zI b D cy below args s G Q) 0 0 G S 43 [(0, .ref (b + v0)), (1, .int v1), (2, .int v2), (3, .int v3)] [] := by
  unfold f_X8_put_43 at h
  refine jB C [(.aload_n 0, 1, 0)] 44 [(0, .ref (b + v0)), (1, .int v1), (2, .int v2), (3, .int v3)] [.ref (b + v0)] (by decide +kernel) rfl rfl ?_
  refine jGetI C 47 (by decide +kernel : decode cX8_put 44 = .ok (.getfield 31, 3)) rfl t_v0 kX8 5 (by decide) rfl rfl (by decide) wd_255 ?_
  refine jB C [(.iconst 1, 1, 1), (.isub, 1, 0)] 49 [(0, .ref (b + v0)), (1, .int v1), (2, .int v2), (3, .int v3)] [.int ((S.1 v0 5) - 1)] (by decide +kernel) rfl rfl ?_
  refine jTopI (fun x1 e_x1 => ?_)
  have h := h x1 e_x1
  refine jB C [(.istore 4, 2, 0), (.iload_n 1, 1, 0), (.iconst 1, 1, 1)] 53 [(4, .int x1), (0, .ref (b + v0)), (1, .int v1), (2, .int v2), (3, .int v3)] [.int 1, .int v1] (by decide +kernel) rfl rfl ?_
  refine jIcmp_ne C 56 84 (by decide +kernel : decode cX8_put 53 = .ok (.if_icmp .ne 31, 3)) rfl rfl (fun c2 => ?_) (fun c2 => ?_)
  · have h := it2 h c2
    refine jB C [(.iload_n 3, 1, 0)] 85 [(4, .int x1), (0, .ref (b + v0)), (1, .int v1), (2, .int v2), (3, .int v3)] [.int v3] (by decide +kernel) rfl rfl ?_
    exact jRetI C (by decide +kernel : decode cX8_put 85 = .ok (.ireturn, 1)) (Nat.le_refl _) (Nat.le_refl _) ⟨rfl, h⟩
  · have h := it1 h c2
    refine jB C [(.iload 4, 2, 0)] 58 [(4, .int x1), (0, .ref (b + v0)), (1, .int v1), (2, .int v2), (3, .int v3)] [.int x1] (by decide +kernel) rfl rfl ?_
    refine jIf_lt C 61 84 (by decide +kernel : decode cX8_put 58 = .ok (.ifCond .lt 26, 3)) rfl rfl (fun c3 => ?_) (fun c3 => ?_)
    · have h := it1 h c3
      refine jB C [(.iload_n 3, 1, 0)] 85 [(4, .int x1), (0, .ref (b + v0)), (1, .int v1), (2, .int v2), (3, .int v3)] [.int v3] (by decide +kernel) rfl rfl ?_
      exact jRetI C (by decide +kernel : decode cX8_put 85 = .ok (.ireturn, 1)) (Nat.le_refl _) (Nat.le_refl _) ⟨rfl, h⟩
    · have h := it2 h c3
      refine jB C [(.iload 4, 2, 0), (.aload_n 0, 1, 0)] 64 [(4, .int x1), (0, .ref (b + v0)), (1, .int v1), (2, .int v2), (3, .int v3)] [.ref (b + v0), .int x1] (by decide +kernel) rfl rfl ?_
      obtain ⟨a4, e_a4, h⟩ := h
      refine jGetR C 67 (by decide +kernel : decode cX8_put 64 = .ok (.getfield 22, 3)) rfl t_v0 kX8 2 (by decide) rfl rfl (by decide) wd_251 e_a4 rfl (fun t_a4 => ?_)
      refine jAlen11 C 68 (by decide +kernel : decode cX8_put 67 = .ok (.arraylength, 1)) rfl t_a4 ?_
      refine jIcmp_ge C 71 84 (by decide +kernel : decode cX8_put 68 = .ok (.if_icmp .ge 16, 3)) rfl rfl (fun c5 => ?_) (fun c5 => ?_)
      · have h := it1 h c5
        refine jB C [(.iload_n 3, 1, 0)] 85 [(4, .int x1), (0, .ref (b + v0)), (1, .int v1), (2, .int v2), (3, .int v3)] [.int v3] (by decide +kernel) rfl rfl ?_
        exact jRetI C (by decide +kernel : decode cX8_put 85 = .ok (.ireturn, 1)) (Nat.le_refl _) (Nat.le_refl _) ⟨rfl, h⟩
      · have h := it2 h c5
        refine jB C [(.aload_n 0, 1, 0)] 72 [(4, .int x1), (0, .ref (b + v0)), (1, .int v1), (2, .int v2), (3, .int v3)] [.ref (b + v0)] (by decide +kernel) rfl rfl ?_
        obtain ⟨a6, e_a6, h⟩ := h
        refine jGetR C 75 (by decide +kernel : decode cX8_put 72 = .ok (.getfield 22, 3)) rfl t_v0 kX8 2 (by decide) rfl rfl (by decide) wd_251 e_a6 rfl (fun t_a6 => ?_)
        refine jB C [(.iload 4, 2, 0), (.dup2, 1, 0)] 78 [(4, .int x1), (0, .ref (b + v0)), (1, .int v1), (2, .int v2), (3, .int v3)] [.int x1, .ref (b + a6), .int x1, .ref (b + a6)] (by decide +kernel) rfl rfl ?_
        obtain ⟨y7, h⟩ := h
        refine jIald C 79 (by decide +kernel : decode cX8_put 78 = .ok (.iaload, 1)) rfl t_a6 y7 ?_
        refine jB C [(.iconst 1, 1, 1), (.iload_n 2, 1, 0), (.ishl, 1, 0), (.ior, 1, 0)] 83 [(4, .int x1), (0, .ref (b + v0)), (1, .int v1), (2, .int v2), (3, .int v3)] [.int ((S.1 a6 x1.toNatClampNeg) ||| (1 <<< ((v2 : Int32) &&& 31))), .int x1, .ref (b + a6)] (by decide +kernel) rfl rfl ?_
        obtain ⟨y8, h⟩ := h
        refine jIast C 84 (by decide +kernel : decode cX8_put 83 = .ok (.iastore, 1)) rfl hE t_a6 y8 ?_
        refine jTopS (fun S9 e_S9 => ?_)
        have h := h S9 e_S9
        refine jB C [(.iload_n 3, 1, 0)] 85 [(4, .int x1), (0, .ref (b + v0)), (1, .int v1), (2, .int v2), (3, .int v3)] [.int v3] (by decide +kernel) rfl rfl ?_
        exact jRetI C (by decide +kernel : decode cX8_put 85 = .ok (.ireturn, 1)) (Nat.le_refl _) (Nat.le_refl _) ⟨rfl, h⟩
set_option maxHeartbeats 4000000 in
set_option maxRecDepth 100000 in
theorem j_X8_put {p : Program} {l : Launch} {e : Env} {s : State} {m : MethodId} {args : Array Value} {below : List Frame} {meth : Method} {c : Code} {b : Nat} {D : va_G} {cy : Nat → ClassId} {G : Gm} {v0 : Nat} {v1 : Int32} {v2 : Int32} {S : St} {Q : Int32 → St → Prop} (C : CX p s m args meth c b D cy cX8_put RX8 5 (some .int)) (hE : s.heap.size + 0 ≤ b + G.2.2) (t_v0 : ok G 7 v0) (h : f_X8_put G v0 v1 v2 Q S) : J p l e rm_X8_put s m args below meth c b D cy 5 (zI b D cy below args s G Q) 0 0 G S 0 [(0, .ref (b + v0)), (1, .int v1), (2, .int v2)] [] := by
  unfold f_X8_put at h
  refine jB C [(.aload_n 0, 1, 0)] 1 [(0, .ref (b + v0)), (1, .int v1), (2, .int v2)] [.ref (b + v0)] (by decide +kernel) rfl rfl ?_
  refine jGetI C 4 (by decide +kernel : decode cX8_put 1 = .ok (.getfield 35, 3)) rfl t_v0 kX8 6 (by decide) rfl rfl (by decide) wd_258 ?_
  refine jTopI (fun x1 e_x1 => ?_)
  have h := h x1 e_x1
  refine jB C [(.istore_n 3, 1, 0), (.iload_n 3, 1, 0)] 6 [(3, .int x1), (0, .ref (b + v0)), (1, .int v1), (2, .int v2)] [.int x1] (by decide +kernel) rfl rfl ?_
  refine jIf_lt C 9 43 (by decide +kernel : decode cX8_put 6 = .ok (.ifCond .lt 37, 3)) rfl rfl (fun c2 => ?_) (fun c2 => ?_)
  · have h := it1 h c2
    refine jSub [1, 2, 3, 0] rfl ?_
    exact j_X8_put_43 C hE t_v0 h
  · have h := it2 h c2
    refine jB C [(.iload_n 3, 1, 0), (.iconst 1, 1, 1), (.iadd, 1, 0), (.aload_n 0, 1, 0)] 13 [(3, .int x1), (0, .ref (b + v0)), (1, .int v1), (2, .int v2)] [.ref (b + v0), .int (x1 + 1)] (by decide +kernel) rfl rfl ?_
    obtain ⟨a3, e_a3, h⟩ := h
    refine jGetR C 16 (by decide +kernel : decode cX8_put 13 = .ok (.getfield 28, 3)) rfl t_v0 kX8 4 (by decide) rfl rfl (by decide) wd_253 e_a3 rfl (fun t_a3 => ?_)
    refine jAlen11 C 17 (by decide +kernel : decode cX8_put 16 = .ok (.arraylength, 1)) rfl t_a3 ?_
    refine jIcmp_ge C 20 43 (by decide +kernel : decode cX8_put 17 = .ok (.if_icmp .ge 26, 3)) rfl rfl (fun c4 => ?_) (fun c4 => ?_)
    · have h := it1 h c4
      refine jSub [1, 2, 3, 0] rfl ?_
      exact j_X8_put_43 C hE t_v0 h
    · have h := it2 h c4
      refine jB C [(.aload_n 0, 1, 0)] 21 [(3, .int x1), (0, .ref (b + v0)), (1, .int v1), (2, .int v2)] [.ref (b + v0)] (by decide +kernel) rfl rfl ?_
      obtain ⟨a5, e_a5, h⟩ := h
      refine jGetR C 24 (by decide +kernel : decode cX8_put 21 = .ok (.getfield 28, 3)) rfl t_v0 kX8 4 (by decide) rfl rfl (by decide) wd_253 e_a5 rfl (fun t_a5 => ?_)
      refine jB C [(.iload_n 3, 1, 0), (.iload_n 1, 1, 0)] 26 [(3, .int x1), (0, .ref (b + v0)), (1, .int v1), (2, .int v2)] [.int v1, .int x1, .ref (b + a5)] (by decide +kernel) rfl rfl ?_
      obtain ⟨y6, h⟩ := h
      refine jIast C 27 (by decide +kernel : decode cX8_put 26 = .ok (.iastore, 1)) rfl hE t_a5 y6 ?_
      refine jTopS (fun S7 e_S7 => ?_)
      have h := h S7 e_S7
      refine jB C [(.aload_n 0, 1, 0)] 28 [(3, .int x1), (0, .ref (b + v0)), (1, .int v1), (2, .int v2)] [.ref (b + v0)] (by decide +kernel) rfl rfl ?_
      obtain ⟨a8, e_a8, h⟩ := h
      refine jGetR C 31 (by decide +kernel : decode cX8_put 28 = .ok (.getfield 28, 3)) rfl t_v0 kX8 4 (by decide) rfl rfl (by decide) wd_253 e_a8 rfl (fun t_a8 => ?_)
      refine jB C [(.iload_n 3, 1, 0), (.iconst 1, 1, 1), (.iadd, 1, 0), (.iload_n 2, 1, 0)] 35 [(3, .int x1), (0, .ref (b + v0)), (1, .int v1), (2, .int v2)] [.int v2, .int (x1 + 1), .ref (b + a8)] (by decide +kernel) rfl rfl ?_
      obtain ⟨y9, h⟩ := h
      refine jIast C 36 (by decide +kernel : decode cX8_put 35 = .ok (.iastore, 1)) rfl hE t_a8 y9 ?_
      refine jTopS (fun S10 e_S10 => ?_)
      have h := h S10 e_S10
      refine jB C [(.aload_n 0, 1, 0), (.iload_n 3, 1, 0), (.iconst 2, 1, 2), (.iadd, 1, 0)] 40 [(3, .int x1), (0, .ref (b + v0)), (1, .int v1), (2, .int v2)] [.int (x1 + 2), .ref (b + v0)] (by decide +kernel) rfl rfl ?_
      refine jPutI C 43 (by decide +kernel : decode cX8_put 40 = .ok (.putfield 35, 3)) rfl hE t_v0 kX8 6 (by decide) rfl rfl (by decide) rfl wd_258 rfl rfl rfl ?_
      refine jTopS (fun S11 e_S11 => ?_)
      have h := h S11 e_S11
      refine jSub [1, 2, 3, 0] rfl ?_
      exact j_X8_put_43 C hE t_v0 h
theorem ok_X8_put {G : Gm} {v0 : Nat} {v1 : Int32} {v2 : Int32} {S : St} {Q : Int32 → St → Prop} (t_v0 : ok G 7 v0) (h : f_X8_put G v0 v1 v2 Q S) : MT yX8_put cX8_put 5 (some .int) rm_X8_put 0 0 (fun b => [.ref (b + v0), .int v1, .int v2]) G S (QI (fun r G1 S1 => G1 = G ∧ Q r S1)) := MT.ofJ (by decide) (fun b => [(0, .ref (b + v0)), (1, .int v1), (2, .int v2)]) (fun b => rfl) (fun b => Nat.le_of_ble_eq_true rfl) (fun l b D cy p e s m below meth c C hE hn => j_X8_put C hE t_v0 h)
theorem hd_X8_put : yX8_put.cls ≠ "java/lang/invoke/MethodHandle" ∧ yX8_put.cls ≠ "java/lang/invoke/VarHandle" ∧ (parseMethodDescriptor yX8_put.desc).map (fun d => d.parameters.length) = some 2 := by decide +kernel
