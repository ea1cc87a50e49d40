abbrev rm_X4_agrees : Room := { frames := 2, cells := 0, slots := 0, locals := 47 }
set_option maxHeartbeats 4000000 in
set_option maxRecDepth 100000 in
theorem j_X4_agrees_2_n {p : Program} {l : Launch} {e : Env} {s : State} {m : MethodId} {args : Array Value} {below : List Frame} {meth : Method} {c : Code} {b : Nat} {D : va_G} {cy : Nat → ClassId} {G : Gm} {v0 : Nat} {v1 : Int32} {Q : Int32 → St → Prop} (C : CX p s m args meth c b D cy cX4_agrees RX4 4 (some .boolean)) (hE : s.heap.size + 0 ≤ b + G.2.2) (t_v0 : ok G 4 v0) : ∀ k (v2 : Int32) S, f_X4_agrees_2_n G v0 v1 Q k v2 S → J p l e rm_X4_agrees s m args below meth c b D cy 4 (zI b D cy below args s G Q) 0 0 G S 2 [(0, .ref (b + v0)), (1, .int v1), (2, .int v2)] [] := by
  intro k
  induction k with
  | zero => intro v2 S h; exact h.elim
  | succ k ih =>
    intro v2 S h
    unfold f_X4_agrees_2_n at h
    refine jB C [(.iload_n 2, 1, 0), (.aload_n 0, 1, 0)] 4 [(0, .ref (b + v0)), (1, .int v1), (2, .int v2)] [.ref (b + v0), .int v2] (by decide +kernel) rfl rfl ?_
    refine jGetIN C 7 (by decide +kernel : decode cX4_agrees 4 = .ok (.getfield 89, 3)) rfl t_v0 kX5 5 (by decide) rfl rfl (by decide) wn_47 ?_
    refine jIcmp_ge C 10 49 (by decide +kernel : decode cX4_agrees 7 = .ok (.if_icmp .ge 42, 3)) rfl rfl (fun c1 => ?_) (fun c1 => ?_)
    · have h := it1 h c1
      refine jB C [(.iconst 1, 1, 1)] 50 [(0, .ref (b + v0)), (1, .int v1), (2, .int v2)] [.int 1] (by decide +kernel) rfl rfl ?_
      exact jRetZ C (by decide +kernel : decode cX4_agrees 50 = .ok (.ireturn, 1)) (Nat.le_refl _) (Nat.le_refl _) (by decide) ⟨rfl, h⟩
    · have h := it2 h c1
      refine jB C [(.iload_n 2, 1, 0), (.bipush 8, 2, 8)] 13 [(0, .ref (b + v0)), (1, .int v1), (2, .int v2)] [.int 8, .int v2] (by decide +kernel) rfl rfl ?_
      refine jIcmp_ge C 16 49 (by decide +kernel : decode cX4_agrees 13 = .ok (.if_icmp .ge 36, 3)) rfl rfl (fun c2 => ?_) (fun c2 => ?_)
      · have h := it1 h c2
        refine jB C [(.iconst 1, 1, 1)] 50 [(0, .ref (b + v0)), (1, .int v1), (2, .int v2)] [.int 1] (by decide +kernel) rfl rfl ?_
        exact jRetZ C (by decide +kernel : decode cX4_agrees 50 = .ok (.ireturn, 1)) (Nat.le_refl _) (Nat.le_refl _) (by decide) ⟨rfl, h⟩
      · have h := it2 h c2
        refine jB C [(.aload_n 0, 1, 0), (.aload_n 0, 1, 0)] 18 [(0, .ref (b + v0)), (1, .int v1), (2, .int v2)] [.ref (b + v0), .ref (b + v0)] (by decide +kernel) rfl rfl ?_
        obtain ⟨a3, e_a3, h⟩ := h
        refine jGetRN C 21 (by decide +kernel : decode cX4_agrees 18 = .ok (.getfield 93, 3)) rfl t_v0 kX5 6 (by decide) rfl rfl (by decide) wn_50 e_a3 rfl (fun t_a3 => ?_)
        refine jB C [(.iload_n 2, 1, 0)] 22 [(0, .ref (b + v0)), (1, .int v1), (2, .int v2)] [.int v2, .ref (b + a3), .ref (b + v0)] (by decide +kernel) rfl rfl ?_
        obtain ⟨y4, h⟩ := h
        refine jIald C 23 (by decide +kernel : decode cX4_agrees 22 = .ok (.iaload, 1)) rfl t_a3 y4 ?_
        refine jcVN_I C 26 (rest := []) (ok_X5_glassOf t_v0 h) (by decide +kernel : decode cX4_agrees 23 = .ok (.invokevirtual 96, 3)) rfl wn_961 wd_402 wp_9 wd_2 wd_403 ⟨rfl, rfl⟩ hd_X5_glassOf ⟨Nat.le_of_ble_eq_true rfl, Nat.le_of_ble_eq_true rfl⟩ t_v0 kX5 (by decide) rfl rfl rfl (Nat.le_of_ble_eq_true rfl) ⟨Nat.zero_le _, Nat.zero_le _⟩ (fun r6 S5 h => ?_)
        refine jB C [(.istore_n 3, 1, 0), (.iload_n 3, 1, 0), (.iload_n 1, 1, 0)] 29 [(3, .int r6), (0, .ref (b + v0)), (1, .int v1), (2, .int v2)] [.int v1, .int r6] (by decide +kernel) rfl rfl ?_
        refine jcSN_I C 32 (rest := []) (ok_X3_through h) (by decide +kernel : decode cX4_agrees 29 = .ok (.invokestatic 99, 3)) rfl wn_962 wd_421 wd_13 wd_422 ⟨rfl, rfl⟩ hd_X3_through ⟨Nat.le_of_ble_eq_true rfl, Nat.le_of_ble_eq_true rfl⟩ rfl rfl (Nat.le_of_ble_eq_true rfl) ⟨Nat.zero_le _, Nat.zero_le _⟩ (fun r8 S7 h => ?_)
        refine jB C [(.aload_n 0, 1, 0)] 33 [(3, .int r6), (0, .ref (b + v0)), (1, .int v1), (2, .int v2)] [.ref (b + v0), .int r8] (by decide +kernel) rfl rfl ?_
        obtain ⟨a9, e_a9, h⟩ := h
        refine jGetRN C 36 (by decide +kernel : decode cX4_agrees 33 = .ok (.getfield 102, 3)) rfl t_v0 kX5 7 (by decide) rfl rfl (by decide) wn_52 e_a9 rfl (fun t_a9 => ?_)
        refine jB C [(.iload_n 2, 1, 0)] 37 [(3, .int r6), (0, .ref (b + v0)), (1, .int v1), (2, .int v2)] [.int v2, .ref (b + a9), .int r8] (by decide +kernel) rfl rfl ?_
        obtain ⟨y10, h⟩ := h
        refine jIald C 38 (by decide +kernel : decode cX4_agrees 37 = .ok (.iaload, 1)) rfl t_a9 y10 ?_
        refine jIcmp_eq C 41 43 (by decide +kernel : decode cX4_agrees 38 = .ok (.if_icmp .eq 5, 3)) rfl rfl (fun c11 => ?_) (fun c11 => ?_)
        · have h := it1 h c11
          refine jB C [(.iinc 2 1, 3, 1)] 46 [(2, .int (v2 + 1)), (3, .int r6), (0, .ref (b + v0)), (1, .int v1)] [] (by decide +kernel) rfl rfl ?_
          refine jGoto C 2 (by decide +kernel : decode cX4_agrees 46 = .ok (.goto (-44), 3)) rfl ?_
          refine jSub [2, 3, 0] rfl ?_
          exact ih (v2 + 1) S7 h
        · have h := it2 h c11
          refine jB C [(.iconst 0, 1, 0)] 42 [(3, .int r6), (0, .ref (b + v0)), (1, .int v1), (2, .int v2)] [.int 0] (by decide +kernel) rfl rfl ?_
          exact jRetZ C (by decide +kernel : decode cX4_agrees 42 = .ok (.ireturn, 1)) (Nat.le_refl _) (Nat.le_refl _) (by decide) ⟨rfl, h⟩
theorem j_X4_agrees_2 {p : Program} {l : Launch} {e : Env} {s : State} {m : MethodId} {args : Array Value} {below : List Frame} {meth : Method} {c : Code} {b : Nat} {D : va_G} {cy : Nat → ClassId} {G : Gm} {v0 : Nat} {v1 : Int32} {v2 : Int32} {S : St} {Q : Int32 → St → Prop} (C : CX p s m args meth c b D cy cX4_agrees RX4 4 (some .boolean)) (hE : s.heap.size + 0 ≤ b + G.2.2) (t_v0 : ok G 4 v0) (h : f_X4_agrees_2 G v0 v1 Q v2 S) : J p l e rm_X4_agrees s m args below meth c b D cy 4 (zI b D cy below args s G Q) 0 0 G S 2 [(0, .ref (b + v0)), (1, .int v1), (2, .int v2)] [] := by
  obtain ⟨k, h⟩ := h
  exact j_X4_agrees_2_n C hE t_v0 k v2 S h
set_option maxHeartbeats 4000000 in
set_option maxRecDepth 100000 in
theorem j_X4_agrees {p : Program} {l : Launch} {e : Env} {s : State} {m : MethodId} {args : Array Value} {below : List Frame} {meth : Method} {c : Code} {b : Nat} {D : va_G} {cy : Nat → ClassId} {G : Gm} {v0 : Nat} {v1 : Int32} {S : St} {Q : Int32 → St → Prop} (C : CX p s m args meth c b D cy cX4_agrees RX4 4 (some .boolean)) (hE : s.heap.size + 0 ≤ b + G.2.2) (t_v0 : ok G 4 v0) (h : f_X4_agrees G v0 v1 Q S) : J p l e rm_X4_agrees s m args below meth c b D cy 4 (zI b D cy below args s G Q) 0 0 G S 0 [(0, .ref (b + v0)), (1, .int v1)] [] := by
  unfold f_X4_agrees at h
  refine jB C [(.iconst 0, 1, 0), (.istore_n 2, 1, 0)] 2 [(2, .int 0), (0, .ref (b + v0)), (1, .int v1)] [] (by decide +kernel) rfl rfl ?_
  refine jSub [1, 2, 0] rfl ?_
  exact j_X4_agrees_2 C hE t_v0 h
theorem ok_X4_agrees {G : Gm} {v0 : Nat} {v1 : Int32} {S : St} {Q : Int32 → St → Prop}  (t_v0 : ok G 4 v0) (h : f_X4_agrees G v0 v1 Q S) : MT yX4_agrees cX4_agrees 4 (some .boolean) rm_X4_agrees 0 0 (fun b => [.ref (b + v0), .int v1]) G S (QI (fun r G1 S1 => G1 = G ∧ Q r S1)) := MT.ofJ (by decide +kernel) (fun b => [(0, .ref (b + v0)), (1, .int v1)]) (fun b => rfl) (fun b => Nat.le_of_ble_eq_true rfl) (fun l b D cy p e s m below meth c C hE hn => j_X4_agrees C hE t_v0 h)
theorem hd_X4_agrees : yX4_agrees.cls ≠ "java/lang/invoke/MethodHandle" ∧ yX4_agrees.cls ≠ "java/lang/invoke/VarHandle" ∧ (parseMethodDescriptor yX4_agrees.desc).map (fun d => d.parameters.length) = some 2 := by decide +kernel
abbrev rm_X4_findScenes : Room := { frames := 3, cells := 0, slots := 0, locals := 70 }
set_option maxHeartbeats 4000000 in
set_option maxRecDepth 100000 in
theorem j_X4_findScenes_4_n {p : Program} {l : Launch} {e : Env} {s : State} {m : MethodId} {args : Array Value} {below : List Frame} {meth : Method} {c : Code} {b : Nat} {D : va_G} {cy : Nat → ClassId} {G : Gm} {v0 : Nat} {v1 : Nat} {Q : Int32 → St → Prop} (C : CX p s m args meth c b D cy cX4_findScenes RX4 4 (some .int)) (hE : s.heap.size + 0 ≤ b + G.2.2) (t_v0 : ok G 3 v0) (t_v1 : ok G 4 v1) : ∀ k (v2 : Int32) (v3 : Int32) S, f_X4_findScenes_4_n G v0 v1 Q k v2 v3 S → J p l e rm_X4_findScenes s m args below meth c b D cy 4 (zI b D cy below args s G Q) 0 0 G S 4 [(0, .ref (b + v0)), (1, .ref (b + v1)), (2, .int v2), (3, .int v3)] [] := by
  intro k
  induction k with
  | zero => intro v2 v3 S h; exact h.elim
  | succ k ih =>
    intro v2 v3 S h
    unfold f_X4_findScenes_4_n at h
    refine jB C [(.iload_n 3, 1, 0), (.sipush 256, 3, 256)] 8 [(0, .ref (b + v0)), (1, .ref (b + v1)), (2, .int v2), (3, .int v3)] [.int 256, .int v3] (by decide +kernel) rfl rfl ?_
    refine jIcmp_ge C 11 35 (by decide +kernel : decode cX4_findScenes 8 = .ok (.if_icmp .ge 27, 3)) rfl rfl (fun c1 => ?_) (fun c1 => ?_)
    · have h := it1 h c1
      refine jB C [(.iload_n 2, 1, 0)] 36 [(0, .ref (b + v0)), (1, .ref (b + v1)), (2, .int v2), (3, .int v3)] [.int v2] (by decide +kernel) rfl rfl ?_
      exact jRetI C (by decide +kernel : decode cX4_findScenes 36 = .ok (.ireturn, 1)) (Nat.le_refl _) (Nat.le_refl _) ⟨rfl, h⟩
    · have h := it2 h c1
      refine jB C [(.aload_n 1, 1, 0), (.iload_n 3, 1, 0)] 13 [(0, .ref (b + v0)), (1, .ref (b + v1)), (2, .int v2), (3, .int v3)] [.int v3, .ref (b + v1)] (by decide +kernel) rfl rfl ?_
      refine jcS_I C 16 (rest := []) (ok_X4_agrees t_v1 h) (by decide +kernel : decode cX4_findScenes 13 = .ok (.invokestatic 85, 3)) rfl wd_958 wd_959 wd_8 wd_960 ⟨rfl, rfl⟩ hd_X4_agrees ⟨Nat.le_of_ble_eq_true rfl, Nat.le_of_ble_eq_true rfl⟩ rfl rfl (Nat.le_of_ble_eq_true rfl) ⟨Nat.zero_le _, Nat.zero_le _⟩ (fun r3 S2 h => ?_)
      refine jIf_eq C 19 29 (by decide +kernel : decode cX4_findScenes 16 = .ok (.ifCond .eq 13, 3)) rfl rfl (fun c4 => ?_) (fun c4 => ?_)
      · have h := it1 h c4
        refine jB C [(.iinc 3 1, 3, 1)] 32 [(3, .int (v3 + 1)), (0, .ref (b + v0)), (1, .ref (b + v1)), (2, .int v2)] [] (by decide +kernel) rfl rfl ?_
        refine jGoto C 4 (by decide +kernel : decode cX4_findScenes 32 = .ok (.goto (-28), 3)) rfl ?_
        refine jSub [1, 2, 3, 0] rfl ?_
        exact ih v2 (v3 + 1) S2 h
      · have h := it2 h c4
        refine jB C [(.aload_n 0, 1, 0)] 20 [(0, .ref (b + v0)), (1, .ref (b + v1)), (2, .int v2), (3, .int v3)] [.ref (b + v0)] (by decide +kernel) rfl rfl ?_
        obtain ⟨a5, e_a5, h⟩ := h
        refine jGetR C 23 (by decide +kernel : decode cX4_findScenes 20 = .ok (.getfield 31, 3)) rfl t_v0 kX4 5 (by decide) rfl rfl (by decide) wd_196 e_a5 rfl (fun t_a5 => ?_)
        refine jB C [(.iload_n 2, 1, 0), (.iload_n 3, 1, 0)] 25 [(0, .ref (b + v0)), (1, .ref (b + v1)), (2, .int v2), (3, .int v3)] [.int v3, .int v2, .ref (b + a5)] (by decide +kernel) rfl rfl ?_
        obtain ⟨y6, h⟩ := h
        refine jIast C 26 (by decide +kernel : decode cX4_findScenes 25 = .ok (.iastore, 1)) rfl hE t_a5 y6 ?_
        refine jTopS (fun S7 e_S7 => ?_)
        have h := h S7 e_S7
        refine jB C [(.iinc 2 1, 3, 1), (.iinc 3 1, 3, 1)] 32 [(3, .int (v3 + 1)), (2, .int (v2 + 1)), (0, .ref (b + v0)), (1, .ref (b + v1))] [] (by decide +kernel) rfl rfl ?_
        refine jGoto C 4 (by decide +kernel : decode cX4_findScenes 32 = .ok (.goto (-28), 3)) rfl ?_
        refine jSub [2, 3, 1, 0] rfl ?_
        exact ih (v2 + 1) (v3 + 1) S7 h
theorem j_X4_findScenes_4 {p : Program} {l : Launch} {e : Env} {s : State} {m : MethodId} {args : Array Value} {below : List Frame} {meth : Method} {c : Code} {b : Nat} {D : va_G} {cy : Nat → ClassId} {G : Gm} {v0 : Nat} {v1 : Nat} {v2 : Int32} {v3 : Int32} {S : St} {Q : Int32 → St → Prop} (C : CX p s m args meth c b D cy cX4_findScenes RX4 4 (some .int)) (hE : s.heap.size + 0 ≤ b + G.2.2) (t_v0 : ok G 3 v0) (t_v1 : ok G 4 v1) (h : f_X4_findScenes_4 G v0 v1 Q v2 v3 S) : J p l e rm_X4_findScenes s m args below meth c b D cy 4 (zI b D cy below args s G Q) 0 0 G S 4 [(0, .ref (b + v0)), (1, .ref (b + v1)), (2, .int v2), (3, .int v3)] [] := by
  obtain ⟨k, h⟩ := h
  exact j_X4_findScenes_4_n C hE t_v0 t_v1 k v2 v3 S h
set_option maxHeartbeats 4000000 in
set_option maxRecDepth 100000 in
theorem j_X4_findScenes {p : Program} {l : Launch} {e : Env} {s : State} {m : MethodId} {args : Array Value} {below : List Frame} {meth : Method} {c : Code} {b : Nat} {D : va_G} {cy : Nat → ClassId} {G : Gm} {v0 : Nat} {v1 : Nat} {S : St} {Q : Int32 → St → Prop} (C : CX p s m args meth c b D cy cX4_findScenes RX4 4 (some .int)) (hE : s.heap.size + 0 ≤ b + G.2.2) (t_v0 : ok G 3 v0) (t_v1 : ok G 4 v1) (h : f_X4_findScenes G v0 v1 Q S) : J p l e rm_X4_findScenes s m args below meth c b D cy 4 (zI b D cy below args s G Q) 0 0 G S 0 [(0, .ref (b + v0)), (1, .ref (b + v1))] [] := by
  unfold f_X4_findScenes at h
  refine jB C [(.iconst 0, 1, 0), (.istore_n 2, 1, 0), (.iconst 0, 1, 0), (.istore_n 3, 1, 0)] 4 [(3, .int 0), (2, .int 0), (0, .ref (b + v0)), (1, .ref (b + v1))] [] (by decide +kernel) rfl rfl ?_
  refine jSub [2, 3, 1, 0] rfl ?_
  exact j_X4_findScenes_4 C hE t_v0 t_v1 h
theorem ok_X4_findScenes {G : Gm} {v0 : Nat} {v1 : Nat} {S : St} {Q : Int32 → St → Prop}  (t_v0 : ok G 3 v0) (t_v1 : ok G 4 v1) (h : f_X4_findScenes G v0 v1 Q S) : MT yX4_findScenes cX4_findScenes 4 (some .int) rm_X4_findScenes 0 0 (fun b => [.ref (b + v0), .ref (b + v1)]) G S (QI (fun r G1 S1 => G1 = G ∧ Q r S1)) := MT.ofJ (by decide +kernel) (fun b => [(0, .ref (b + v0)), (1, .ref (b + v1))]) (fun b => rfl) (fun b => Nat.le_of_ble_eq_true rfl) (fun l b D cy p e s m below meth c C hE hn => j_X4_findScenes C hE t_v0 t_v1 h)
theorem hd_X4_findScenes : yX4_findScenes.cls ≠ "java/lang/invoke/MethodHandle" ∧ yX4_findScenes.cls ≠ "java/lang/invoke/VarHandle" ∧ (parseMethodDescriptor yX4_findScenes.desc).map (fun d => d.parameters.length) = some 1 := by decide +kernel
abbrev rm_X10_isNumber : Room := { frames := 0, cells := 0, slots := 0, locals := 0 }
set_option maxHeartbeats 4000000 in
set_option maxRecDepth 100000 in
theorem j_X10_isNumber {p : Program} {l : Launch} {e : Env} {s : State} {m : MethodId} {args : Array Value} {below : List Frame} {meth : Method} {c : Code} {b : Nat} {D : va_G} {cy : Nat → ClassId} {G : Gm} {v0 : Int32} {S : St} {Q : Int32 → St → Prop} (C : CX p s m args meth c b D cy cX10_isNumber RX10 1 (some .boolean)) (hE : s.heap.size + 0 ≤ b + G.2.2) (h : f_X10_isNumber G v0 Q S) : J p l e rm_X10_isNumber s m args below meth c b D cy 1 (zI b D cy below args s G Q) 0 0 G S 0 [(0, .int v0)] [] := by
  unfold f_X10_isNumber at h
  refine jB C [(.iload_n 0, 1, 0)] 1 [(0, .int v0)] [.int v0] (by decide +kernel) rfl rfl ?_
  refine jIf_lt C 4 15 (by decide +kernel : decode cX10_isNumber 1 = .ok (.ifCond .lt 14, 3)) rfl rfl (fun c1 => ?_) (fun c1 => ?_)
  · have h := it1 h c1
    refine jB C [(.iconst 0, 1, 0)] 16 [(0, .int v0)] [.int 0] (by decide +kernel) rfl rfl ?_
    exact jRetZ C (by decide +kernel : decode cX10_isNumber 16 = .ok (.ireturn, 1)) (Nat.le_refl _) (Nat.le_refl _) (by decide) ⟨rfl, h⟩
  · have h := it2 h c1
    refine jB C [(.iload_n 0, 1, 0), (.sipush 256, 3, 256)] 8 [(0, .int v0)] [.int 256, .int v0] (by decide +kernel) rfl rfl ?_
    refine jIcmp_ge C 11 15 (by decide +kernel : decode cX10_isNumber 8 = .ok (.if_icmp .ge 7, 3)) rfl rfl (fun c2 => ?_) (fun c2 => ?_)
    · have h := it1 h c2
      refine jB C [(.iconst 0, 1, 0)] 16 [(0, .int v0)] [.int 0] (by decide +kernel) rfl rfl ?_
      exact jRetZ C (by decide +kernel : decode cX10_isNumber 16 = .ok (.ireturn, 1)) (Nat.le_refl _) (Nat.le_refl _) (by decide) ⟨rfl, h⟩
    · have h := it2 h c2
      refine jB C [(.iconst 1, 1, 1)] 12 [(0, .int v0)] [.int 1] (by decide +kernel) rfl rfl ?_
      refine jGoto C 16 (by decide +kernel : decode cX10_isNumber 12 = .ok (.goto 4, 3)) rfl ?_
      exact jRetZ C (by decide +kernel : decode cX10_isNumber 16 = .ok (.ireturn, 1)) (Nat.le_refl _) (Nat.le_refl _) (by decide) ⟨rfl, h⟩
theorem ok_X10_isNumber {G : Gm} {v0 : Int32} {S : St} {Q : Int32 → St → Prop}  (h : f_X10_isNumber G v0 Q S) : MT yX10_isNumber cX10_isNumber 1 (some .boolean) rm_X10_isNumber 0 0 (fun b => [.int v0]) G S (QI (fun r G1 S1 => G1 = G ∧ Q r S1)) := MT.ofJ (by decide +kernel) (fun b => [(0, .int v0)]) (fun b => rfl) (fun b => Nat.le_of_ble_eq_true rfl) (fun l b D cy p e s m below meth c C hE hn => j_X10_isNumber C hE h)
theorem hd_X10_isNumber : yX10_isNumber.cls ≠ "java/lang/invoke/MethodHandle" ∧ yX10_isNumber.cls ≠ "java/lang/invoke/VarHandle" ∧ (parseMethodDescriptor yX10_isNumber.desc).map (fun d => d.parameters.length) = some 1 := by decide +kernel
abbrev rm_X4_mostAlike : Room := { frames := 2, cells := 0, slots := 0, locals := 47 }
set_option maxHeartbeats 4000000 in
set_option maxRecDepth 100000 in
theorem j_X4_mostAlike_27_n {p : Program} {l : Launch} {e : Env} {s : State} {m : MethodId} {args : Array Value} {below : List Frame} {meth : Method} {c : Code} {b : Nat} {D : va_G} {cy : Nat → ClassId} {G : Gm} {v0 : Nat} {v1 : Int32} {v2 : Int32} {Q : Int32 → St → Prop} (C : CX p s m args meth c b D cy cX4_mostAlike RX4 6 (some .int)) (hE : s.heap.size + 0 ≤ b + G.2.2) (t_v0 : ok G 3 v0) : ∀ k (v3 : Int32) (v4 : Int32) S, f_X4_mostAlike_27_n G v0 v1 v2 Q k v3 v4 S → J p l e rm_X4_mostAlike s m args below meth c b D cy 6 (zI b D cy below args s G Q) 0 0 G S 27 [(0, .ref (b + v0)), (1, .int v1), (2, .int v2), (3, .int v3), (4, .int v4)] [] := by
  intro k
  induction k with
  | zero => intro v3 v4 S h; exact h.elim
  | succ k ih =>
    intro v3 v4 S h
    unfold f_X4_mostAlike_27_n at h
    refine jB C [(.iload 4, 2, 0), (.iload_n 2, 1, 0)] 30 [(0, .ref (b + v0)), (1, .int v1), (2, .int v2), (3, .int v3), (4, .int v4)] [.int v2, .int v4] (by decide +kernel) rfl rfl ?_
    refine jIcmp_ge C 33 91 (by decide +kernel : decode cX4_mostAlike 30 = .ok (.if_icmp .ge 61, 3)) rfl rfl (fun c1 => ?_) (fun c1 => ?_)
    · have h := it1 h c1
      refine jB C [(.iload_n 3, 1, 0)] 92 [(0, .ref (b + v0)), (1, .int v1), (2, .int v2), (3, .int v3), (4, .int v4)] [.int v3] (by decide +kernel) rfl rfl ?_
      exact jRetI C (by decide +kernel : decode cX4_mostAlike 92 = .ok (.ireturn, 1)) (Nat.le_refl _) (Nat.le_refl _) ⟨rfl, h⟩
    · have h := it2 h c1
      refine jB C [(.iload 4, 2, 0), (.sipush 256, 3, 256)] 38 [(0, .ref (b + v0)), (1, .int v1), (2, .int v2), (3, .int v3), (4, .int v4)] [.int 256, .int v4] (by decide +kernel) rfl rfl ?_
      refine jIcmp_ge C 41 91 (by decide +kernel : decode cX4_mostAlike 38 = .ok (.if_icmp .ge 53, 3)) rfl rfl (fun c2 => ?_) (fun c2 => ?_)
      · have h := it1 h c2
        refine jB C [(.iload_n 3, 1, 0)] 92 [(0, .ref (b + v0)), (1, .int v1), (2, .int v2), (3, .int v3), (4, .int v4)] [.int v3] (by decide +kernel) rfl rfl ?_
        exact jRetI C (by decide +kernel : decode cX4_mostAlike 92 = .ok (.ireturn, 1)) (Nat.le_refl _) (Nat.le_refl _) ⟨rfl, h⟩
      · have h := it2 h c2
        refine jB C [(.iload_n 1, 1, 0), (.aload_n 0, 1, 0)] 43 [(0, .ref (b + v0)), (1, .int v1), (2, .int v2), (3, .int v3), (4, .int v4)] [.ref (b + v0), .int v1] (by decide +kernel) rfl rfl ?_
        obtain ⟨a3, e_a3, h⟩ := h
        refine jGetR C 46 (by decide +kernel : decode cX4_mostAlike 43 = .ok (.getfield 31, 3)) rfl t_v0 kX4 5 (by decide) rfl rfl (by decide) wd_196 e_a3 rfl (fun t_a3 => ?_)
        refine jB C [(.iload 4, 2, 0)] 48 [(0, .ref (b + v0)), (1, .int v1), (2, .int v2), (3, .int v3), (4, .int v4)] [.int v4, .ref (b + a3), .int v1] (by decide +kernel) rfl rfl ?_
        obtain ⟨y4, h⟩ := h
        refine jIald C 49 (by decide +kernel : decode cX4_mostAlike 48 = .ok (.iaload, 1)) rfl t_a3 y4 ?_
        refine jcSN_I C 52 (rest := []) (ok_X3_through h) (by decide +kernel : decode cX4_mostAlike 49 = .ok (.invokestatic 99, 3)) rfl wn_962 wd_421 wd_13 wd_422 ⟨rfl, rfl⟩ hd_X3_through ⟨Nat.le_of_ble_eq_true rfl, Nat.le_of_ble_eq_true rfl⟩ rfl rfl (Nat.le_of_ble_eq_true rfl) ⟨Nat.zero_le _, Nat.zero_le _⟩ (fun r6 S5 h => ?_)
        refine jB C [(.istore 5, 2, 0), (.iload 5, 2, 0)] 56 [(5, .int r6), (0, .ref (b + v0)), (1, .int v1), (2, .int v2), (3, .int v3), (4, .int v4)] [.int r6] (by decide +kernel) rfl rfl ?_
        refine jcSN_I C 59 (rest := []) (ok_X10_isNumber h) (by decide +kernel : decode cX4_mostAlike 56 = .ok (.invokestatic 72, 3)) rfl wn_928 wd_531 wd_1 wd_532 ⟨rfl, rfl⟩ hd_X10_isNumber ⟨Nat.le_of_ble_eq_true rfl, Nat.le_of_ble_eq_true rfl⟩ rfl rfl (Nat.le_of_ble_eq_true rfl) ⟨Nat.zero_le _, Nat.zero_le _⟩ (fun r8 S7 h => ?_)
        refine jIf_eq C 62 85 (by decide +kernel : decode cX4_mostAlike 59 = .ok (.ifCond .eq 26, 3)) rfl rfl (fun c9 => ?_) (fun c9 => ?_)
        · have h := it1 h c9
          refine jB C [(.iinc 4 1, 3, 1)] 88 [(4, .int (v4 + 1)), (5, .int r6), (0, .ref (b + v0)), (1, .int v1), (2, .int v2), (3, .int v3)] [] (by decide +kernel) rfl rfl ?_
          refine jGoto C 27 (by decide +kernel : decode cX4_mostAlike 88 = .ok (.goto (-61), 3)) rfl ?_
          refine jSub [2, 3, 4, 5, 0] rfl ?_
          exact ih v3 (v4 + 1) S7 h
        · have h := it2 h c9
          refine jB C [(.aload_n 0, 1, 0)] 63 [(5, .int r6), (0, .ref (b + v0)), (1, .int v1), (2, .int v2), (3, .int v3), (4, .int v4)] [.ref (b + v0)] (by decide +kernel) rfl rfl ?_
          obtain ⟨a10, e_a10, h⟩ := h
          refine jGetR C 66 (by decide +kernel : decode cX4_mostAlike 63 = .ok (.getfield 34, 3)) rfl t_v0 kX4 6 (by decide) rfl rfl (by decide) wd_197 e_a10 rfl (fun t_a10 => ?_)
          refine jB C [(.iload 5, 2, 0), (.dup2, 1, 0)] 69 [(5, .int r6), (0, .ref (b + v0)), (1, .int v1), (2, .int v2), (3, .int v3), (4, .int v4)] [.int r6, .ref (b + a10), .int r6, .ref (b + a10)] (by decide +kernel) rfl rfl ?_
          obtain ⟨y11, h⟩ := h
          refine jIald C 70 (by decide +kernel : decode cX4_mostAlike 69 = .ok (.iaload, 1)) rfl t_a10 y11 ?_
          refine jB C [(.iconst 1, 1, 1), (.iadd, 1, 0)] 72 [(5, .int r6), (0, .ref (b + v0)), (1, .int v1), (2, .int v2), (3, .int v3), (4, .int v4)] [.int ((S7.1 a10 r6.toNatClampNeg) + 1), .int r6, .ref (b + a10)] (by decide +kernel) rfl rfl ?_
          obtain ⟨y12, h⟩ := h
          refine jIast C 73 (by decide +kernel : decode cX4_mostAlike 72 = .ok (.iastore, 1)) rfl hE t_a10 y12 ?_
          refine jTopS (fun S13 e_S13 => ?_)
          have h := h S13 e_S13
          refine jB C [(.iload_n 3, 1, 0), (.aload_n 0, 1, 0)] 75 [(5, .int r6), (0, .ref (b + v0)), (1, .int v1), (2, .int v2), (3, .int v3), (4, .int v4)] [.ref (b + v0), .int v3] (by decide +kernel) rfl rfl ?_
          obtain ⟨a14, e_a14, h⟩ := h
          refine jGetR C 78 (by decide +kernel : decode cX4_mostAlike 75 = .ok (.getfield 34, 3)) rfl t_v0 kX4 6 (by decide) rfl rfl (by decide) wd_197 e_a14 rfl (fun t_a14 => ?_)
          refine jB C [(.iload 5, 2, 0)] 80 [(5, .int r6), (0, .ref (b + v0)), (1, .int v1), (2, .int v2), (3, .int v3), (4, .int v4)] [.int r6, .ref (b + a14), .int v3] (by decide +kernel) rfl rfl ?_
          obtain ⟨y15, h⟩ := h
          refine jIald C 81 (by decide +kernel : decode cX4_mostAlike 80 = .ok (.iaload, 1)) rfl t_a14 y15 ?_
          refine jMax C 84 (by decide +kernel : decode cX4_mostAlike 81 = .ok (.invokestatic 111, 3)) rfl wd_975 (Nat.le_of_ble_eq_true rfl) (Nat.le_of_ble_eq_true rfl) (Nat.le_of_ble_eq_true rfl) (Nat.zero_le _) (Nat.zero_le _) ?_
          refine jTopI (fun x16 e_x16 => ?_)
          have h := h x16 e_x16
          refine jB C [(.istore_n 3, 1, 0), (.iinc 4 1, 3, 1)] 88 [(4, .int (v4 + 1)), (3, .int x16), (5, .int r6), (0, .ref (b + v0)), (1, .int v1), (2, .int v2)] [] (by decide +kernel) rfl rfl ?_
          refine jGoto C 27 (by decide +kernel : decode cX4_mostAlike 88 = .ok (.goto (-61), 3)) rfl ?_
          refine jSub [3, 4, 5, 1, 0] rfl ?_
          exact ih x16 (v4 + 1) S13 h
theorem j_X4_mostAlike_27 {p : Program} {l : Launch} {e : Env} {s : State} {m : MethodId} {args : Array Value} {below : List Frame} {meth : Method} {c : Code} {b : Nat} {D : va_G} {cy : Nat → ClassId} {G : Gm} {v0 : Nat} {v1 : Int32} {v2 : Int32} {v3 : Int32} {v4 : Int32} {S : St} {Q : Int32 → St → Prop} (C : CX p s m args meth c b D cy cX4_mostAlike RX4 6 (some .int)) (hE : s.heap.size + 0 ≤ b + G.2.2) (t_v0 : ok G 3 v0) (h : f_X4_mostAlike_27 G v0 v1 v2 Q v3 v4 S) : J p l e rm_X4_mostAlike s m args below meth c b D cy 6 (zI b D cy below args s G Q) 0 0 G S 27 [(0, .ref (b + v0)), (1, .int v1), (2, .int v2), (3, .int v3), (4, .int v4)] [] := by
  obtain ⟨k, h⟩ := h
  exact j_X4_mostAlike_27_n C hE t_v0 k v3 v4 S h
set_option maxHeartbeats 4000000 in
set_option maxRecDepth 100000 in
theorem j_X4_mostAlike_2_n {p : Program} {l : Launch} {e : Env} {s : State} {m : MethodId} {args : Array Value} {below : List Frame} {meth : Method} {c : Code} {b : Nat} {D : va_G} {cy : Nat → ClassId} {G : Gm} {v0 : Nat} {v1 : Int32} {v2 : Int32} {Q : Int32 → St → Prop} (C : CX p s m args meth c b D cy cX4_mostAlike RX4 6 (some .int)) (hE : s.heap.size + 0 ≤ b + G.2.2) (t_v0 : ok G 3 v0) : ∀ k (v3 : Int32) S, f_X4_mostAlike_2_n G v0 v1 v2 Q k v3 S → J p l e rm_X4_mostAlike s m args below meth c b D cy 6 (zI b D cy below args s G Q) 0 0 G S 2 [(0, .ref (b + v0)), (1, .int v1), (2, .int v2), (3, .int v3)] [] := by
  intro k
  induction k with
  | zero => intro v3 S h; exact h.elim
  | succ k ih =>
    intro v3 S h
    unfold f_X4_mostAlike_2_n at h
    refine jB C [(.iload_n 3, 1, 0), (.sipush 256, 3, 256)] 6 [(0, .ref (b + v0)), (1, .int v1), (2, .int v2), (3, .int v3)] [.int 256, .int v3] (by decide +kernel) rfl rfl ?_
    refine jIcmp_ge C 9 22 (by decide +kernel : decode cX4_mostAlike 6 = .ok (.if_icmp .ge 16, 3)) rfl rfl (fun c1 => ?_) (fun c1 => ?_)
    · have h := it1 h c1
      refine jB C [(.iconst 0, 1, 0), (.istore_n 3, 1, 0), (.iconst 0, 1, 0), (.istore 4, 2, 0)] 27 [(4, .int 0), (3, .int 0), (0, .ref (b + v0)), (1, .int v1), (2, .int v2)] [] (by decide +kernel) rfl rfl ?_
      refine jSub [2, 3, 4, 1, 0] rfl ?_
      exact j_X4_mostAlike_27 C hE t_v0 h
    · have h := it2 h c1
      refine jB C [(.aload_n 0, 1, 0)] 10 [(0, .ref (b + v0)), (1, .int v1), (2, .int v2), (3, .int v3)] [.ref (b + v0)] (by decide +kernel) rfl rfl ?_
      obtain ⟨a2, e_a2, h⟩ := h
      refine jGetR C 13 (by decide +kernel : decode cX4_mostAlike 10 = .ok (.getfield 34, 3)) rfl t_v0 kX4 6 (by decide) rfl rfl (by decide) wd_197 e_a2 rfl (fun t_a2 => ?_)
      refine jB C [(.iload_n 3, 1, 0), (.iconst 0, 1, 0)] 15 [(0, .ref (b + v0)), (1, .int v1), (2, .int v2), (3, .int v3)] [.int 0, .int v3, .ref (b + a2)] (by decide +kernel) rfl rfl ?_
      obtain ⟨y3, h⟩ := h
      refine jIast C 16 (by decide +kernel : decode cX4_mostAlike 15 = .ok (.iastore, 1)) rfl hE t_a2 y3 ?_
      refine jTopS (fun S4 e_S4 => ?_)
      have h := h S4 e_S4
      refine jB C [(.iinc 3 1, 3, 1)] 19 [(3, .int (v3 + 1)), (0, .ref (b + v0)), (1, .int v1), (2, .int v2)] [] (by decide +kernel) rfl rfl ?_
      refine jGoto C 2 (by decide +kernel : decode cX4_mostAlike 19 = .ok (.goto (-17), 3)) rfl ?_
      refine jSub [1, 2, 3, 0] rfl ?_
      exact ih (v3 + 1) S4 h
theorem j_X4_mostAlike_2 {p : Program} {l : Launch} {e : Env} {s : State} {m : MethodId} {args : Array Value} {below : List Frame} {meth : Method} {c : Code} {b : Nat} {D : va_G} {cy : Nat → ClassId} {G : Gm} {v0 : Nat} {v1 : Int32} {v2 : Int32} {v3 : Int32} {S : St} {Q : Int32 → St → Prop} (C : CX p s m args meth c b D cy cX4_mostAlike RX4 6 (some .int)) (hE : s.heap.size + 0 ≤ b + G.2.2) (t_v0 : ok G 3 v0) (h : f_X4_mostAlike_2 G v0 v1 v2 Q v3 S) : J p l e rm_X4_mostAlike s m args below meth c b D cy 6 (zI b D cy below args s G Q) 0 0 G S 2 [(0, .ref (b + v0)), (1, .int v1), (2, .int v2), (3, .int v3)] [] := by
  obtain ⟨k, h⟩ := h
  exact j_X4_mostAlike_2_n C hE t_v0 k v3 S h
set_option maxHeartbeats 4000000 in
set_option maxRecDepth 100000 in
theorem j_X4_mostAlike {p : Program} {l : Launch} {e : Env} {s : State} {m : MethodId} {args : Array Value} {below : List Frame} {meth : Method} {c : Code} {b : Nat} {D : va_G} {cy : Nat → ClassId} {G : Gm} {v0 : Nat} {v1 : Int32} {v2 : Int32} {S : St} {Q : Int32 → St → Prop} (C : CX p s m args meth c b D cy cX4_mostAlike RX4 6 (some .int)) (hE : s.heap.size + 0 ≤ b + G.2.2) (t_v0 : ok G 3 v0) (h : f_X4_mostAlike G v0 v1 v2 Q S) : J p l e rm_X4_mostAlike s m args below meth c b D cy 6 (zI b D cy below args s G Q) 0 0 G S 0 [(0, .ref (b + v0)), (1, .int v1), (2, .int v2)] [] := by
  unfold f_X4_mostAlike at h
  refine jB C [(.iconst 0, 1, 0), (.istore_n 3, 1, 0)] 2 [(3, .int 0), (0, .ref (b + v0)), (1, .int v1), (2, .int v2)] [] (by decide +kernel) rfl rfl ?_
  refine jSub [1, 2, 3, 0] rfl ?_
  exact j_X4_mostAlike_2 C hE t_v0 h
theorem ok_X4_mostAlike {G : Gm} {v0 : Nat} {v1 : Int32} {v2 : Int32} {S : St} {Q : Int32 → St → Prop}  (t_v0 : ok G 3 v0) (h : f_X4_mostAlike G v0 v1 v2 Q S) : MT yX4_mostAlike cX4_mostAlike 6 (some .int) rm_X4_mostAlike 0 0 (fun b => [.ref (b + v0), .int v1, .int v2]) G S (QI (fun r G1 S1 => G1 = G ∧ Q r S1)) := MT.ofJ (by decide +kernel) (fun b => [(0, .ref (b + v0)), (1, .int v1), (2, .int v2)]) (fun b => rfl) (fun b => Nat.le_of_ble_eq_true rfl) (fun l b D cy p e s m below meth c C hE hn => j_X4_mostAlike C hE t_v0 h)
theorem hd_X4_mostAlike : yX4_mostAlike.cls ≠ "java/lang/invoke/MethodHandle" ∧ yX4_mostAlike.cls ≠ "java/lang/invoke/VarHandle" ∧ (parseMethodDescriptor yX4_mostAlike.desc).map (fun d => d.parameters.length) = some 2 := by decide +kernel
abbrev rm_X4_toAsk : Room := { frames := 4, cells := 0, slots := 0, locals := 93 }
set_option maxHeartbeats 4000000 in
set_option maxRecDepth 100000 in
theorem j_X4_toAsk_64 {p : Program} {l : Launch} {e : Env} {s : State} {m : MethodId} {args : Array Value} {below : List Frame} {meth : Method} {c : Code} {b : Nat} {D : va_G} {cy : Nat → ClassId} {G : Gm} {v2 : Int32} {v4 : Int32} {v5 : Int32} {S : St} {Q : Int32 → St → Prop} (C : CX p s m args meth c b D cy cX4_toAsk RX4 8 (some .int)) (hE : s.heap.size + 0 ≤ b + G.2.2) (h : f_X4_toAsk_64 G v2 v4 v5 Q S) : J p l e rm_X4_toAsk s m args below meth c b D cy 8 (zI b D cy below args s G Q) 0 0 G S 64 [(2, .int v2), (4, .int v4), (5, .int v5)] [] := by
  unfold f_X4_toAsk_64 at h
  refine jB C [(.iload_n 2, 1, 0)] 65 [(2, .int v2), (4, .int v4), (5, .int v5)] [.int v2] (by decide +kernel) rfl rfl ?_
  refine jIf_ne C 68 74 (by decide +kernel : decode cX4_toAsk 65 = .ok (.ifCond .ne 9, 3)) rfl rfl (fun c1 => ?_) (fun c1 => ?_)
  · have h := it2 h c1
    refine jB C [(.iload 4, 2, 0)] 76 [(2, .int v2), (4, .int v4), (5, .int v5)] [.int v4] (by decide +kernel) rfl rfl ?_
    refine jGoto C 81 (by decide +kernel : decode cX4_toAsk 76 = .ok (.goto 5, 3)) rfl ?_
    exact jRetI C (by decide +kernel : decode cX4_toAsk 81 = .ok (.ireturn, 1)) (Nat.le_refl _) (Nat.le_refl _) ⟨rfl, h⟩
  · have h := it1 h c1
    refine jB C [(.iload 4, 2, 0), (.iconst (-1), 1, (-1))] 71 [(2, .int v2), (4, .int v4), (5, .int v5)] [.int (-1), .int v4] (by decide +kernel) rfl rfl ?_
    refine jIcmp_ne C 74 79 (by decide +kernel : decode cX4_toAsk 71 = .ok (.if_icmp .ne 8, 3)) rfl rfl (fun c2 => ?_) (fun c2 => ?_)
    · have h := it2 h c2
      refine jB C [(.iload 5, 2, 0)] 81 [(2, .int v2), (4, .int v4), (5, .int v5)] [.int v5] (by decide +kernel) rfl rfl ?_
      exact jRetI C (by decide +kernel : decode cX4_toAsk 81 = .ok (.ireturn, 1)) (Nat.le_refl _) (Nat.le_refl _) ⟨rfl, h⟩
    · have h := it1 h c2
      refine jB C [(.iload 4, 2, 0)] 76 [(2, .int v2), (4, .int v4), (5, .int v5)] [.int v4] (by decide +kernel) rfl rfl ?_
      refine jGoto C 81 (by decide +kernel : decode cX4_toAsk 76 = .ok (.goto 5, 3)) rfl ?_
      exact jRetI C (by decide +kernel : decode cX4_toAsk 81 = .ok (.ireturn, 1)) (Nat.le_refl _) (Nat.le_refl _) ⟨rfl, h⟩
set_option maxHeartbeats 4000000 in
set_option maxRecDepth 100000 in
theorem j_X4_toAsk_17_n {p : Program} {l : Launch} {e : Env} {s : State} {m : MethodId} {args : Array Value} {below : List Frame} {meth : Method} {c : Code} {b : Nat} {D : va_G} {cy : Nat → ClassId} {G : Gm} {v0 : Nat} {v1 : Nat} {v2 : Int32} {v3 : Int32} {Q : Int32 → St → Prop} (C : CX p s m args meth c b D cy cX4_toAsk RX4 8 (some .int)) (hE : s.heap.size + 0 ≤ b + G.2.2) (t_v0 : ok G 3 v0) (t_v1 : ok G 4 v1) : ∀ k (v4 : Int32) (v5 : Int32) (v6 : Int32) S, f_X4_toAsk_17_n G v0 v1 v2 v3 Q k v4 v5 v6 S → J p l e rm_X4_toAsk s m args below meth c b D cy 8 (zI b D cy below args s G Q) 0 0 G S 17 [(0, .ref (b + v0)), (1, .ref (b + v1)), (2, .int v2), (3, .int v3), (4, .int v4), (5, .int v5), (6, .int v6)] [] := by
  intro k
  induction k with
  | zero => intro v4 v5 v6 S h; exact h.elim
  | succ k ih =>
    intro v4 v5 v6 S h
    unfold f_X4_toAsk_17_n at h
    refine jB C [(.iload 6, 2, 0), (.aload_n 1, 1, 0)] 20 [(0, .ref (b + v0)), (1, .ref (b + v1)), (2, .int v2), (3, .int v3), (4, .int v4), (5, .int v5), (6, .int v6)] [.ref (b + v1), .int v6] (by decide +kernel) rfl rfl ?_
    refine jGetIN C 23 (by decide +kernel : decode cX4_toAsk 20 = .ok (.getfield 105, 3)) rfl t_v1 kX5 0 (by decide) rfl rfl (by decide) wn_39 ?_
    refine jIcmp_ge C 26 64 (by decide +kernel : decode cX4_toAsk 23 = .ok (.if_icmp .ge 41, 3)) rfl rfl (fun c1 => ?_) (fun c1 => ?_)
    · have h := it1 h c1
      refine jSub [2, 4, 5] rfl ?_
      exact j_X4_toAsk_64 C hE h
    · have h := it2 h c1
      refine jB C [(.iload_n 3, 1, 0)] 27 [(0, .ref (b + v0)), (1, .ref (b + v1)), (2, .int v2), (3, .int v3), (4, .int v4), (5, .int v5), (6, .int v6)] [.int v3] (by decide +kernel) rfl rfl ?_
      refine jIf_le C 30 64 (by decide +kernel : decode cX4_toAsk 27 = .ok (.ifCond .le 37, 3)) rfl rfl (fun c2 => ?_) (fun c2 => ?_)
      · have h := it1 h c2
        refine jSub [2, 4, 5] rfl ?_
        exact j_X4_toAsk_64 C hE h
      · have h := it2 h c2
        refine jB C [(.aload_n 0, 1, 0), (.aload_n 1, 1, 0), (.iload 6, 2, 0)] 34 [(0, .ref (b + v0)), (1, .ref (b + v1)), (2, .int v2), (3, .int v3), (4, .int v4), (5, .int v5), (6, .int v6)] [.int v6, .ref (b + v1), .ref (b + v0)] (by decide +kernel) rfl rfl ?_
        refine jcVN_I C 37 (rest := [.ref (b + v0)]) (ok_X5_glassOf t_v1 h) (by decide +kernel : decode cX4_toAsk 34 = .ok (.invokevirtual 96, 3)) rfl wn_961 wd_402 wp_9 wd_2 wd_403 ⟨rfl, rfl⟩ hd_X5_glassOf ⟨Nat.le_of_ble_eq_true rfl, Nat.le_of_ble_eq_true rfl⟩ t_v1 kX5 (by decide) rfl rfl rfl (Nat.le_of_ble_eq_true rfl) ⟨Nat.zero_le _, Nat.zero_le _⟩ (fun r4 S3 h => ?_)
        refine jB C [(.iload_n 3, 1, 0)] 38 [(0, .ref (b + v0)), (1, .ref (b + v1)), (2, .int v2), (3, .int v3), (4, .int v4), (5, .int v5), (6, .int v6)] [.int v3, .int r4, .ref (b + v0)] (by decide +kernel) rfl rfl ?_
        refine jcV_I C 41 (rest := []) (ok_X4_mostAlike t_v0 h) (by decide +kernel : decode cX4_toAsk 38 = .ok (.invokevirtual 108, 3)) rfl wd_971 wd_973 wp_84 wd_8 wd_974 ⟨rfl, rfl⟩ hd_X4_mostAlike ⟨Nat.le_of_ble_eq_true rfl, Nat.le_of_ble_eq_true rfl⟩ t_v0 kX4 (by decide) rfl rfl rfl (Nat.le_of_ble_eq_true rfl) ⟨Nat.zero_le _, Nat.zero_le _⟩ (fun r6 S5 h => ?_)
        refine jB C [(.istore 7, 2, 0), (.iload 7, 2, 0), (.iload 5, 2, 0)] 47 [(7, .int r6), (0, .ref (b + v0)), (1, .ref (b + v1)), (2, .int v2), (3, .int v3), (4, .int v4), (5, .int v5), (6, .int v6)] [.int v5, .int r6] (by decide +kernel) rfl rfl ?_
        refine jIcmp_ge C 50 58 (by decide +kernel : decode cX4_toAsk 47 = .ok (.if_icmp .ge 11, 3)) rfl rfl (fun c7 => ?_) (fun c7 => ?_)
        · have h := it1 h c7
          refine jB C [(.iinc 6 1, 3, 1)] 61 [(6, .int (v6 + 1)), (7, .int r6), (0, .ref (b + v0)), (1, .ref (b + v1)), (2, .int v2), (3, .int v3), (4, .int v4), (5, .int v5)] [] (by decide +kernel) rfl rfl ?_
          refine jGoto C 17 (by decide +kernel : decode cX4_toAsk 61 = .ok (.goto (-44), 3)) rfl ?_
          refine jSub [2, 3, 4, 5, 6, 7, 0] rfl ?_
          exact ih v4 v5 (v6 + 1) S5 h
        · have h := it2 h c7
          refine jB C [(.iload 7, 2, 0), (.istore 5, 2, 0), (.iload 6, 2, 0), (.istore 4, 2, 0), (.iinc 6 1, 3, 1)] 61 [(6, .int (v6 + 1)), (4, .int v6), (5, .int r6), (7, .int r6), (0, .ref (b + v0)), (1, .ref (b + v1)), (2, .int v2), (3, .int v3)] [] (by decide +kernel) rfl rfl ?_
          refine jGoto C 17 (by decide +kernel : decode cX4_toAsk 61 = .ok (.goto (-44), 3)) rfl ?_
          refine jSub [4, 5, 6, 7, 1, 2, 0] rfl ?_
          exact ih v6 r6 (v6 + 1) S5 h
theorem j_X4_toAsk_17 {p : Program} {l : Launch} {e : Env} {s : State} {m : MethodId} {args : Array Value} {below : List Frame} {meth : Method} {c : Code} {b : Nat} {D : va_G} {cy : Nat → ClassId} {G : Gm} {v0 : Nat} {v1 : Nat} {v2 : Int32} {v3 : Int32} {v4 : Int32} {v5 : Int32} {v6 : Int32} {S : St} {Q : Int32 → St → Prop} (C : CX p s m args meth c b D cy cX4_toAsk RX4 8 (some .int)) (hE : s.heap.size + 0 ≤ b + G.2.2) (t_v0 : ok G 3 v0) (t_v1 : ok G 4 v1) (h : f_X4_toAsk_17 G v0 v1 v2 v3 Q v4 v5 v6 S) : J p l e rm_X4_toAsk s m args below meth c b D cy 8 (zI b D cy below args s G Q) 0 0 G S 17 [(0, .ref (b + v0)), (1, .ref (b + v1)), (2, .int v2), (3, .int v3), (4, .int v4), (5, .int v5), (6, .int v6)] [] := by
  obtain ⟨k, h⟩ := h
  exact j_X4_toAsk_17_n C hE t_v0 t_v1 k v4 v5 v6 S h
set_option maxHeartbeats 4000000 in
set_option maxRecDepth 100000 in
theorem j_X4_toAsk {p : Program} {l : Launch} {e : Env} {s : State} {m : MethodId} {args : Array Value} {below : List Frame} {meth : Method} {c : Code} {b : Nat} {D : va_G} {cy : Nat → ClassId} {G : Gm} {v0 : Nat} {v1 : Nat} {v2 : Int32} {S : St} {Q : Int32 → St → Prop} (C : CX p s m args meth c b D cy cX4_toAsk RX4 8 (some .int)) (hE : s.heap.size + 0 ≤ b + G.2.2) (t_v0 : ok G 3 v0) (t_v1 : ok G 4 v1) (h : f_X4_toAsk G v0 v1 v2 Q S) : J p l e rm_X4_toAsk s m args below meth c b D cy 8 (zI b D cy below args s G Q) 0 0 G S 0 [(0, .ref (b + v0)), (1, .ref (b + v1)), (2, .int v2)] [] := by
  unfold f_X4_toAsk at h
  refine jB C [(.aload_n 0, 1, 0), (.aload_n 1, 1, 0)] 2 [(0, .ref (b + v0)), (1, .ref (b + v1)), (2, .int v2)] [.ref (b + v1), .ref (b + v0)] (by decide +kernel) rfl rfl ?_
  refine jcV_I C 5 (rest := []) (ok_X4_findScenes t_v0 t_v1 h) (by decide +kernel : decode cX4_toAsk 2 = .ok (.invokevirtual 81, 3)) rfl wd_954 wd_956 wp_82 wd_8 wd_957 ⟨rfl, rfl⟩ hd_X4_findScenes ⟨Nat.le_of_ble_eq_true rfl, Nat.le_of_ble_eq_true rfl⟩ t_v0 kX4 (by decide) rfl rfl rfl (Nat.le_of_ble_eq_true rfl) ⟨Nat.zero_le _, Nat.zero_le _⟩ (fun r2 S1 h => ?_)
  refine jB C [(.istore_n 3, 1, 0), (.iconst (-1), 1, (-1)), (.istore 4, 2, 0), (.sipush 257, 3, 257), (.istore 5, 2, 0), (.iconst 0, 1, 0), (.istore 6, 2, 0)] 17 [(6, .int 0), (5, .int 257), (4, .int (-1)), (3, .int r2), (0, .ref (b + v0)), (1, .ref (b + v1)), (2, .int v2)] [] (by decide +kernel) rfl rfl ?_
  refine jSub [4, 5, 6, 3, 2, 1, 0] rfl ?_
  exact j_X4_toAsk_17 C hE t_v0 t_v1 h
theorem ok_X4_toAsk {G : Gm} {v0 : Nat} {v1 : Nat} {v2 : Int32} {S : St} {Q : Int32 → St → Prop}  (t_v0 : ok G 3 v0) (t_v1 : ok G 4 v1) (h : f_X4_toAsk G v0 v1 v2 Q S) : MT yX4_toAsk cX4_toAsk 8 (some .int) rm_X4_toAsk 0 0 (fun b => [.ref (b + v0), .ref (b + v1), .int v2]) G S (QI (fun r G1 S1 => G1 = G ∧ Q r S1)) := MT.ofJ (by decide +kernel) (fun b => [(0, .ref (b + v0)), (1, .ref (b + v1)), (2, .int v2)]) (fun b => rfl) (fun b => Nat.le_of_ble_eq_true rfl) (fun l b D cy p e s m below meth c C hE hn => j_X4_toAsk C hE t_v0 t_v1 h)
theorem hd_X4_toAsk : yX4_toAsk.cls ≠ "java/lang/invoke/MethodHandle" ∧ yX4_toAsk.cls ≠ "java/lang/invoke/VarHandle" ∧ (parseMethodDescriptor yX4_toAsk.desc).map (fun d => d.parameters.length) = some 2 := by decide +kernel
abbrev rm_X10_ask : Room := { frames := 5, cells := 0, slots := 0, locals := 120 }
set_option maxHeartbeats 4000000 in
set_option maxRecDepth 100000 in
theorem j_X10_ask_26 {p : Program} {l : Launch} {e : Env} {s : State} {m : MethodId} {args : Array Value} {below : List Frame} {meth : Method} {c : Code} {b : Nat} {D : va_G} {cy : Nat → ClassId} {G : Gm} {u0 : Int32} {u1 : Nat} {u2 : Nat} {S : St} {Q : Int32 → St → Prop} (C : CX p s m args meth c b D cy cX10_ask RX10 2 (some .int)) (hE : s.heap.size + 0 ≤ b + G.2.2) (t_u1 : ok G 4 u1) (t_u2 : ok G 3 u2) (h : f_X10_ask_26 G u0 u1 u2 Q S) : J p l e rm_X10_ask s m args below meth c b D cy 2 (zI b D cy below args s G Q) 0 0 G S 26 [] [.int u0, .ref (b + u1), .ref (b + u2)] := by
  unfold f_X10_ask_26 at h
  refine jcVN_I C 29 (rest := []) (ok_X4_toAsk t_u2 t_u1 h) (by decide +kernel : decode cX10_ask 26 = .ok (.invokevirtual 266, 3)) rfl wn_967 wd_969 wp_83 wd_8 wd_970 ⟨rfl, rfl⟩ hd_X4_toAsk ⟨Nat.le_of_ble_eq_true rfl, Nat.le_of_ble_eq_true rfl⟩ t_u2 kX4 (by decide) rfl rfl rfl (Nat.le_of_ble_eq_true rfl) ⟨Nat.zero_le _, Nat.zero_le _⟩ (fun r2 S1 h => ?_)
  refine jGoto C 33 (by decide +kernel : decode cX10_ask 29 = .ok (.goto 4, 3)) rfl ?_
  exact jRetI C (by decide +kernel : decode cX10_ask 33 = .ok (.ireturn, 1)) (Nat.le_refl _) (Nat.le_refl _) ⟨rfl, h⟩
set_option maxHeartbeats 4000000 in
set_option maxRecDepth 100000 in
theorem j_X10_ask_9 {p : Program} {l : Launch} {e : Env} {s : State} {m : MethodId} {args : Array Value} {below : List Frame} {meth : Method} {c : Code} {b : Nat} {D : va_G} {cy : Nat → ClassId} {G : Gm} {v0 : Nat} {v1 : Int32} {S : St} {Q : Int32 → St → Prop} (C : CX p s m args meth c b D cy cX10_ask RX10 2 (some .int)) (hE : s.heap.size + 0 ≤ b + G.2.2) (t_v0 : ok G 9 v0) (h : f_X10_ask_9 G v0 v1 Q S) : J p l e rm_X10_ask s m args below meth c b D cy 2 (zI b D cy below args s G Q) 0 0 G S 9 [(0, .ref (b + v0)), (1, .int v1)] [] := by
  unfold f_X10_ask_9 at h
  refine jB C [(.aload_n 0, 1, 0)] 10 [(0, .ref (b + v0)), (1, .int v1)] [.ref (b + v0)] (by decide +kernel) rfl rfl ?_
  obtain ⟨a1, e_a1, h⟩ := h
  refine jGetR C 13 (by decide +kernel : decode cX10_ask 10 = .ok (.getfield 56, 3)) rfl t_v0 kX10 7 (by decide) rfl rfl (by decide) wd_318 e_a1 rfl (fun t_a1 => ?_)
  refine jB C [(.aload_n 0, 1, 0)] 14 [(0, .ref (b + v0)), (1, .int v1)] [.ref (b + v0), .ref (b + a1)] (by decide +kernel) rfl rfl ?_
  obtain ⟨a2, e_a2, h⟩ := h
  refine jGetR C 17 (by decide +kernel : decode cX10_ask 14 = .ok (.getfield 14, 3)) rfl t_v0 kX10 0 (by decide) rfl rfl (by decide) wd_311 e_a2 rfl (fun t_a2 => ?_)
  refine jB C [(.iload_n 1, 1, 0)] 18 [(0, .ref (b + v0)), (1, .int v1)] [.int v1, .ref (b + a2), .ref (b + a1)] (by decide +kernel) rfl rfl ?_
  refine jIf_ne C 21 25 (by decide +kernel : decode cX10_ask 18 = .ok (.ifCond .ne 7, 3)) rfl rfl (fun c3 => ?_) (fun c3 => ?_)
  · have h := it2 h c3
    refine jB C [(.iconst 0, 1, 0)] 26 [(0, .ref (b + v0)), (1, .int v1)] [.int 0, .ref (b + a2), .ref (b + a1)] (by decide +kernel) rfl rfl ?_
    refine jSub [] rfl ?_
    exact j_X10_ask_26 C hE t_a2 t_a1 h
  · have h := it1 h c3
    refine jB C [(.iconst 1, 1, 1)] 22 [(0, .ref (b + v0)), (1, .int v1)] [.int 1, .ref (b + a2), .ref (b + a1)] (by decide +kernel) rfl rfl ?_
    refine jGoto C 26 (by decide +kernel : decode cX10_ask 22 = .ok (.goto 4, 3)) rfl ?_
    refine jSub [] rfl ?_
    exact j_X10_ask_26 C hE t_a2 t_a1 h
set_option maxHeartbeats 4000000 in
set_option maxRecDepth 100000 in
theorem j_X10_ask {p : Program} {l : Launch} {e : Env} {s : State} {m : MethodId} {args : Array Value} {below : List Frame} {meth : Method} {c : Code} {b : Nat} {D : va_G} {cy : Nat → ClassId} {G : Gm} {v0 : Nat} {v1 : Int32} {S : St} {Q : Int32 → St → Prop} (C : CX p s m args meth c b D cy cX10_ask RX10 2 (some .int)) (hE : s.heap.size + 0 ≤ b + G.2.2) (t_v0 : ok G 9 v0) (h : f_X10_ask G v0 v1 Q S) : J p l e rm_X10_ask s m args below meth c b D cy 2 (zI b D cy below args s G Q) 0 0 G S 0 [(0, .ref (b + v0)), (1, .int v1)] [] := by
  unfold f_X10_ask at h
  refine jB C [(.iload_n 1, 1, 0)] 1 [(0, .ref (b + v0)), (1, .int v1)] [.int v1] (by decide +kernel) rfl rfl ?_
  refine jIf_eq C 4 9 (by decide +kernel : decode cX10_ask 1 = .ok (.ifCond .eq 8, 3)) rfl rfl (fun c1 => ?_) (fun c1 => ?_)
  · have h := it1 h c1
    refine jSub [0, 1] rfl ?_
    exact j_X10_ask_9 C hE t_v0 h
  · have h := it2 h c1
    refine jB C [(.iload_n 1, 1, 0), (.iconst 1, 1, 1)] 6 [(0, .ref (b + v0)), (1, .int v1)] [.int 1, .int v1] (by decide +kernel) rfl rfl ?_
    refine jIcmp_ne C 9 32 (by decide +kernel : decode cX10_ask 6 = .ok (.if_icmp .ne 26, 3)) rfl rfl (fun c2 => ?_) (fun c2 => ?_)
    · have h := it2 h c2
      refine jB C [(.iconst (-1), 1, (-1))] 33 [(0, .ref (b + v0)), (1, .int v1)] [.int (-1)] (by decide +kernel) rfl rfl ?_
      exact jRetI C (by decide +kernel : decode cX10_ask 33 = .ok (.ireturn, 1)) (Nat.le_refl _) (Nat.le_refl _) ⟨rfl, h⟩
    · have h := it1 h c2
      refine jSub [0, 1] rfl ?_
      exact j_X10_ask_9 C hE t_v0 h
theorem ok_X10_ask {G : Gm} {v0 : Nat} {v1 : Int32} {S : St} {Q : Int32 → St → Prop}  (t_v0 : ok G 9 v0) (h : f_X10_ask G v0 v1 Q S) : MT yX10_ask cX10_ask 2 (some .int) rm_X10_ask 0 0 (fun b => [.ref (b + v0), .int v1]) G S (QI (fun r G1 S1 => G1 = G ∧ Q r S1)) := MT.ofJ (by decide +kernel) (fun b => [(0, .ref (b + v0)), (1, .int v1)]) (fun b => rfl) (fun b => Nat.le_of_ble_eq_true rfl) (fun l b D cy p e s m below meth c C hE hn => j_X10_ask C hE t_v0 h)
theorem hd_X10_ask : yX10_ask.cls ≠ "java/lang/invoke/MethodHandle" ∧ yX10_ask.cls ≠ "java/lang/invoke/VarHandle" ∧ (parseMethodDescriptor yX10_ask.desc).map (fun d => d.parameters.length) = some 1 := by decide +kernel
abbrev rm_X10_asks : Room := { frames := 4, cells := 0, slots := 0, locals := 107 }
set_option maxHeartbeats 4000000 in
set_option maxRecDepth 100000 in
theorem j_X10_asks {p : Program} {l : Launch} {e : Env} {s : State} {m : MethodId} {args : Array Value} {below : List Frame} {meth : Method} {c : Code} {b : Nat} {D : va_G} {cy : Nat → ClassId} {G : Gm} {v0 : Nat} {v1 : Int32} {v2 : Int32} {v3 : Int32} {S : St} {Q : Int32 → St → Prop} (C : CX p s m args meth c b D cy cX10_asks RX10 4 (some .int)) (hE : s.heap.size + 0 ≤ b + G.2.2) (t_v0 : ok G 9 v0) (h : f_X10_asks G v0 v1 v2 v3 Q S) : J p l e rm_X10_asks s m args below meth c b D cy 4 (zI b D cy below args s G Q) 0 0 G S 0 [(0, .ref (b + v0)), (1, .int v1), (2, .int v2), (3, .int v3)] [] := by
  unfold f_X10_asks at h
  refine jB C [(.aload_n 0, 1, 0)] 1 [(0, .ref (b + v0)), (1, .int v1), (2, .int v2), (3, .int v3)] [.ref (b + v0)] (by decide +kernel) rfl rfl ?_
  obtain ⟨a1, e_a1, h⟩ := h
  refine jGetR C 4 (by decide +kernel : decode cX10_asks 1 = .ok (.getfield 14, 3)) rfl t_v0 kX10 0 (by decide) rfl rfl (by decide) wd_311 e_a1 rfl (fun t_a1 => ?_)
  refine jB C [(.iload_n 1, 1, 0)] 5 [(0, .ref (b + v0)), (1, .int v1), (2, .int v2), (3, .int v3)] [.int v1, .ref (b + a1)] (by decide +kernel) rfl rfl ?_
  refine jcVN_I C 8 (rest := []) (ok_X5_has t_a1 h) (by decide +kernel : decode cX10_asks 5 = .ok (.invokevirtual 92, 3)) rfl wn_395 wd_373 wp_4 wd_2 wd_374 ⟨rfl, rfl⟩ hd_X5_has ⟨Nat.le_of_ble_eq_true rfl, Nat.le_of_ble_eq_true rfl⟩ t_a1 kX5 (by decide) rfl rfl rfl (Nat.le_of_ble_eq_true rfl) ⟨Nat.zero_le _, Nat.zero_le _⟩ (fun r3 S2 h => ?_)
  refine jIf_eq C 11 18 (by decide +kernel : decode cX10_asks 8 = .ok (.ifCond .eq 10, 3)) rfl rfl (fun c4 => ?_) (fun c4 => ?_)
  · have h := it1 h c4
    refine jB C [(.bipush (-100), 2, (-100))] 20 [(0, .ref (b + v0)), (1, .int v1), (2, .int v2), (3, .int v3)] [.int (-100)] (by decide +kernel) rfl rfl ?_
    exact jRetI C (by decide +kernel : decode cX10_asks 20 = .ok (.ireturn, 1)) (Nat.le_refl _) (Nat.le_refl _) ⟨rfl, h⟩
  · have h := it2 h c4
    refine jB C [(.iload_n 2, 1, 0)] 12 [(0, .ref (b + v0)), (1, .int v1), (2, .int v2), (3, .int v3)] [.int v2] (by decide +kernel) rfl rfl ?_
    refine jcS_I C 15 (rest := []) (ok_X10_isKind h) (by decide +kernel : decode cX10_asks 12 = .ok (.invokestatic 125, 3)) rfl wd_498 wd_376 wd_1 wd_377 ⟨rfl, rfl⟩ hd_X10_isKind ⟨Nat.le_of_ble_eq_true rfl, Nat.le_of_ble_eq_true rfl⟩ rfl rfl (Nat.le_of_ble_eq_true rfl) ⟨Nat.zero_le _, Nat.zero_le _⟩ (fun r6 S5 h => ?_)
    refine jIf_ne C 18 21 (by decide +kernel : decode cX10_asks 15 = .ok (.ifCond .ne 6, 3)) rfl rfl (fun c7 => ?_) (fun c7 => ?_)
    · have h := it2 h c7
      refine jB C [(.iload_n 3, 1, 0)] 22 [(0, .ref (b + v0)), (1, .int v1), (2, .int v2), (3, .int v3)] [.int v3] (by decide +kernel) rfl rfl ?_
      refine jIf_ne C 25 46 (by decide +kernel : decode cX10_asks 22 = .ok (.ifCond .ne 24, 3)) rfl rfl (fun c8 => ?_) (fun c8 => ?_)
      · have h := it2 h c8
        refine jB C [(.iload_n 3, 1, 0), (.iconst 1, 1, 1)] 48 [(0, .ref (b + v0)), (1, .int v1), (2, .int v2), (3, .int v3)] [.int 1, .int v3] (by decide +kernel) rfl rfl ?_
        refine jIcmp_ne C 51 67 (by decide +kernel : decode cX10_asks 48 = .ok (.if_icmp .ne 19, 3)) rfl rfl (fun c9 => ?_) (fun c9 => ?_)
        · have h := it2 h c9
          refine jB C [(.bipush (-100), 2, (-100))] 69 [(0, .ref (b + v0)), (1, .int v1), (2, .int v2), (3, .int v3)] [.int (-100)] (by decide +kernel) rfl rfl ?_
          exact jRetI C (by decide +kernel : decode cX10_asks 69 = .ok (.ireturn, 1)) (Nat.le_refl _) (Nat.le_refl _) ⟨rfl, h⟩
        · have h := it1 h c9
          refine jB C [(.aload_n 0, 1, 0)] 52 [(0, .ref (b + v0)), (1, .int v1), (2, .int v2), (3, .int v3)] [.ref (b + v0)] (by decide +kernel) rfl rfl ?_
          obtain ⟨a10, e_a10, h⟩ := h
          refine jGetR C 55 (by decide +kernel : decode cX10_asks 52 = .ok (.getfield 35, 3)) rfl t_v0 kX10 4 (by decide) rfl rfl (by decide) wd_315 e_a10 rfl (fun t_a10 => ?_)
          refine jB C [(.aload_n 0, 1, 0)] 56 [(0, .ref (b + v0)), (1, .int v1), (2, .int v2), (3, .int v3)] [.ref (b + v0), .ref (b + a10)] (by decide +kernel) rfl rfl ?_
          obtain ⟨a11, e_a11, h⟩ := h
          refine jGetR C 59 (by decide +kernel : decode cX10_asks 56 = .ok (.getfield 14, 3)) rfl t_v0 kX10 0 (by decide) rfl rfl (by decide) wd_311 e_a11 rfl (fun t_a11 => ?_)
          refine jB C [(.iload_n 1, 1, 0), (.iload_n 2, 1, 0)] 61 [(0, .ref (b + v0)), (1, .int v1), (2, .int v2), (3, .int v3)] [.int v2, .int v1, .ref (b + a11), .ref (b + a10)] (by decide +kernel) rfl rfl ?_
          refine jcVN_I C 64 (rest := []) (ok_X2_growth t_a10 t_a11 h) (by decide +kernel : decode cX10_asks 61 = .ok (.invokevirtual 136, 3)) rfl wn_509 wd_511 wp_26 wd_4 wd_512 ⟨rfl, rfl⟩ hd_X2_growth ⟨Nat.le_of_ble_eq_true rfl, Nat.le_of_ble_eq_true rfl⟩ t_a10 kX2 (by decide) rfl rfl rfl (Nat.le_of_ble_eq_true rfl) ⟨Nat.zero_le _, Nat.zero_le _⟩ (fun r13 S12 h => ?_)
          refine jGoto C 69 (by decide +kernel : decode cX10_asks 64 = .ok (.goto 5, 3)) rfl ?_
          exact jRetI C (by decide +kernel : decode cX10_asks 69 = .ok (.ireturn, 1)) (Nat.le_refl _) (Nat.le_refl _) ⟨rfl, h⟩
      · have h := it1 h c8
        refine jB C [(.aload_n 0, 1, 0)] 26 [(0, .ref (b + v0)), (1, .int v1), (2, .int v2), (3, .int v3)] [.ref (b + v0)] (by decide +kernel) rfl rfl ?_
        obtain ⟨a14, e_a14, h⟩ := h
        refine jGetR C 29 (by decide +kernel : decode cX10_asks 26 = .ok (.getfield 35, 3)) rfl t_v0 kX10 4 (by decide) rfl rfl (by decide) wd_315 e_a14 rfl (fun t_a14 => ?_)
        refine jB C [(.aload_n 0, 1, 0)] 30 [(0, .ref (b + v0)), (1, .int v1), (2, .int v2), (3, .int v3)] [.ref (b + v0), .ref (b + a14)] (by decide +kernel) rfl rfl ?_
        obtain ⟨a15, e_a15, h⟩ := h
        refine jGetR C 33 (by decide +kernel : decode cX10_asks 30 = .ok (.getfield 14, 3)) rfl t_v0 kX10 0 (by decide) rfl rfl (by decide) wd_311 e_a15 rfl (fun t_a15 => ?_)
        refine jB C [(.aload_n 0, 1, 0)] 34 [(0, .ref (b + v0)), (1, .int v1), (2, .int v2), (3, .int v3)] [.ref (b + v0), .ref (b + a15), .ref (b + a14)] (by decide +kernel) rfl rfl ?_
        obtain ⟨a16, e_a16, h⟩ := h
        refine jGetR C 37 (by decide +kernel : decode cX10_asks 34 = .ok (.getfield 14, 3)) rfl t_v0 kX10 0 (by decide) rfl rfl (by decide) wd_311 e_a16 rfl (fun t_a16 => ?_)
        refine jcVN_O C 40 (rest := [.ref (b + a15), .ref (b + a14)]) (ok_X5_lawInForce t_a16 h) (by decide +kernel : decode cX10_asks 37 = .ok (.invokevirtual 128, 3)) rfl wn_499 wd_447 wp_15 wd_2 wd_448 ⟨rfl, rfl⟩ hd_X5_lawInForce ⟨Nat.le_of_ble_eq_true rfl, Nat.le_of_ble_eq_true rfl⟩ t_a16 kX5 (by decide) rfl rfl rfl (Nat.le_of_ble_eq_true rfl) ⟨Nat.zero_le _, Nat.zero_le _⟩ (fun r18 S17 h => ?_)
        obtain ⟨t19, h⟩ := h
        refine jB C [(.iload_n 1, 1, 0), (.iload_n 2, 1, 0)] 42 [(0, .ref (b + v0)), (1, .int v1), (2, .int v2), (3, .int v3)] [.int v2, .int v1, rv b r18, .ref (b + a15), .ref (b + a14)] (by decide +kernel) rfl rfl ?_
        refine jcVN_I C 45 (rest := []) (ok_X2_lensFor t_a14 t_a15 t19 h) (by decide +kernel : decode cX10_asks 42 = .ok (.invokevirtual 132, 3)) rfl wn_500 wd_502 wp_24 wd_4 wd_503 ⟨rfl, rfl⟩ hd_X2_lensFor ⟨Nat.le_of_ble_eq_true rfl, Nat.le_of_ble_eq_true rfl⟩ t_a14 kX2 (by decide) rfl rfl rfl (Nat.le_of_ble_eq_true rfl) ⟨Nat.zero_le _, Nat.zero_le _⟩ (fun r21 S20 h => ?_)
        exact jRetI C (by decide +kernel : decode cX10_asks 45 = .ok (.ireturn, 1)) (Nat.le_refl _) (Nat.le_refl _) ⟨rfl, h⟩
    · have h := it1 h c7
      refine jB C [(.bipush (-100), 2, (-100))] 20 [(0, .ref (b + v0)), (1, .int v1), (2, .int v2), (3, .int v3)] [.int (-100)] (by decide +kernel) rfl rfl ?_
      exact jRetI C (by decide +kernel : decode cX10_asks 20 = .ok (.ireturn, 1)) (Nat.le_refl _) (Nat.le_refl _) ⟨rfl, h⟩
theorem ok_X10_asks {G : Gm} {v0 : Nat} {v1 : Int32} {v2 : Int32} {v3 : Int32} {S : St} {Q : Int32 → St → Prop}  (t_v0 : ok G 9 v0) (h : f_X10_asks G v0 v1 v2 v3 Q S) : MT yX10_asks cX10_asks 4 (some .int) rm_X10_asks 0 0 (fun b => [.ref (b + v0), .int v1, .int v2, .int v3]) G S (QI (fun r G1 S1 => G1 = G ∧ Q r S1)) := MT.ofJ (by decide +kernel) (fun b => [(0, .ref (b + v0)), (1, .int v1), (2, .int v2), (3, .int v3)]) (fun b => rfl) (fun b => Nat.le_of_ble_eq_true rfl) (fun l b D cy p e s m below meth c C hE hn => j_X10_asks C hE t_v0 h)
theorem hd_X10_asks : yX10_asks.cls ≠ "java/lang/invoke/MethodHandle" ∧ yX10_asks.cls ≠ "java/lang/invoke/VarHandle" ∧ (parseMethodDescriptor yX10_asks.desc).map (fun d => d.parameters.length) = some 3 := by decide +kernel
abbrev rm_X10_refuse : Room := { frames := 0, cells := 0, slots := 0, locals := 0 }
set_option maxHeartbeats 4000000 in
set_option maxRecDepth 100000 in
theorem j_X10_refuse {p : Program} {l : Launch} {e : Env} {s : State} {m : MethodId} {args : Array Value} {below : List Frame} {meth : Method} {c : Code} {b : Nat} {D : va_G} {cy : Nat → ClassId} {G : Gm} {v0 : Nat} {v1 : Int32} {S : St} {Q : Int32 → St → Prop} (C : CX p s m args meth c b D cy cX10_refuse RX10 2 (some .int)) (hE : s.heap.size + 0 ≤ b + G.2.2) (t_v0 : ok G 9 v0) (h : f_X10_refuse G v0 v1 Q S) : J p l e rm_X10_refuse s m args below meth c b D cy 2 (zI b D cy below args s G Q) 0 0 G S 0 [(0, .ref (b + v0)), (1, .int v1)] [] := by
  unfold f_X10_refuse at h
  refine jB C [(.aload_n 0, 1, 0), (.iload_n 1, 1, 0)] 2 [(0, .ref (b + v0)), (1, .int v1)] [.int v1, .ref (b + v0)] (by decide +kernel) rfl rfl ?_
  refine jPutI C 5 (by decide +kernel : decode cX10_refuse 2 = .ok (.putfield 311, 3)) rfl hE t_v0 kX10 10 (by decide) rfl rfl (by decide) rfl wd_321 rfl rfl rfl ?_
  refine jTopS (fun S1 e_S1 => ?_)
  have h := h S1 e_S1
  refine jB C [(.iload_n 1, 1, 0)] 6 [(0, .ref (b + v0)), (1, .int v1)] [.int v1] (by decide +kernel) rfl rfl ?_
  refine jIf_ge C 9 26 (by decide +kernel : decode cX10_refuse 6 = .ok (.ifCond .ge 20, 3)) rfl rfl (fun c2 => ?_) (fun c2 => ?_)
  · have h := it1 h c2
    refine jB C [(.iload_n 1, 1, 0)] 27 [(0, .ref (b + v0)), (1, .int v1)] [.int v1] (by decide +kernel) rfl rfl ?_
    exact jRetI C (by decide +kernel : decode cX10_refuse 27 = .ok (.ireturn, 1)) (Nat.le_refl _) (Nat.le_refl _) ⟨rfl, h⟩
  · have h := it2 h c2
    refine jB C [(.iload_n 1, 1, 0), (.bipush (-6), 2, (-6))] 12 [(0, .ref (b + v0)), (1, .int v1)] [.int (-6), .int v1] (by decide +kernel) rfl rfl ?_
    refine jIcmp_lt C 15 26 (by decide +kernel : decode cX10_refuse 12 = .ok (.if_icmp .lt 14, 3)) rfl rfl (fun c3 => ?_) (fun c3 => ?_)
    · have h := it1 h c3
      refine jB C [(.iload_n 1, 1, 0)] 27 [(0, .ref (b + v0)), (1, .int v1)] [.int v1] (by decide +kernel) rfl rfl ?_
      exact jRetI C (by decide +kernel : decode cX10_refuse 27 = .ok (.ireturn, 1)) (Nat.le_refl _) (Nat.le_refl _) ⟨rfl, h⟩
    · have h := it2 h c3
      refine jB C [(.aload_n 0, 1, 0)] 16 [(0, .ref (b + v0)), (1, .int v1)] [.ref (b + v0)] (by decide +kernel) rfl rfl ?_
      obtain ⟨a4, e_a4, h⟩ := h
      refine jGetR C 19 (by decide +kernel : decode cX10_refuse 16 = .ok (.getfield 67, 3)) rfl t_v0 kX10 9 (by decide) rfl rfl (by decide) wd_320 e_a4 rfl (fun t_a4 => ?_)
      refine jB C [(.iload_n 1, 1, 0), (.ineg, 1, 0), (.dup2, 1, 0)] 22 [(0, .ref (b + v0)), (1, .int v1)] [.int (-v1), .ref (b + a4), .int (-v1), .ref (b + a4)] (by decide +kernel) rfl rfl ?_
      obtain ⟨y5, h⟩ := h
      refine jIald C 23 (by decide +kernel : decode cX10_refuse 22 = .ok (.iaload, 1)) rfl t_a4 y5 ?_
      refine jB C [(.iconst 1, 1, 1), (.iadd, 1, 0)] 25 [(0, .ref (b + v0)), (1, .int v1)] [.int ((S1.1 a4 (-v1).toNatClampNeg) + 1), .int (-v1), .ref (b + a4)] (by decide +kernel) rfl rfl ?_
      obtain ⟨y6, h⟩ := h
      refine jIast C 26 (by decide +kernel : decode cX10_refuse 25 = .ok (.iastore, 1)) rfl hE t_a4 y6 ?_
      refine jTopS (fun S7 e_S7 => ?_)
      have h := h S7 e_S7
      refine jB C [(.iload_n 1, 1, 0)] 27 [(0, .ref (b + v0)), (1, .int v1)] [.int v1] (by decide +kernel) rfl rfl ?_
      exact jRetI C (by decide +kernel : decode cX10_refuse 27 = .ok (.ireturn, 1)) (Nat.le_refl _) (Nat.le_refl _) ⟨rfl, h⟩
theorem ok_X10_refuse {G : Gm} {v0 : Nat} {v1 : Int32} {S : St} {Q : Int32 → St → Prop}  (t_v0 : ok G 9 v0) (h : f_X10_refuse G v0 v1 Q S) : MT yX10_refuse cX10_refuse 2 (some .int) rm_X10_refuse 0 0 (fun b => [.ref (b + v0), .int v1]) G S (QI (fun r G1 S1 => G1 = G ∧ Q r S1)) := MT.ofJ (by decide +kernel) (fun b => [(0, .ref (b + v0)), (1, .int v1)]) (fun b => rfl) (fun b => Nat.le_of_ble_eq_true rfl) (fun l b D cy p e s m below meth c C hE hn => j_X10_refuse C hE t_v0 h)
theorem hd_X10_refuse : yX10_refuse.cls ≠ "java/lang/invoke/MethodHandle" ∧ yX10_refuse.cls ≠ "java/lang/invoke/VarHandle" ∧ (parseMethodDescriptor yX10_refuse.desc).map (fun d => d.parameters.length) = some 1 := by decide +kernel
abbrev rm_X9_empty : Room := { frames := 0, cells := 0, slots := 0, locals := 0 }
set_option maxHeartbeats 4000000 in
set_option maxRecDepth 100000 in
theorem j_X9_empty {p : Program} {l : Launch} {e : Env} {s : State} {m : MethodId} {args : Array Value} {below : List Frame} {meth : Method} {c : Code} {b : Nat} {D : va_G} {cy : Nat → ClassId} {G : Gm} {v0 : Nat} {S : St} {Q : St → Prop} (C : CX p s m args meth c b D cy cX9_empty RX9 1 none) (hE : s.heap.size + 0 ≤ b + G.2.2) (t_v0 : ok G 8 v0) (h : f_X9_empty G v0 Q S) : J p l e rm_X9_empty s m args below meth c b D cy 1 (zV b D cy below args s G Q) 0 0 G S 0 [(0, .ref (b + v0))] [] := by
  unfold f_X9_empty at h
  refine jB C [(.aload_n 0, 1, 0), (.iconst 0, 1, 0)] 2 [(0, .ref (b + v0))] [.int 0, .ref (b + v0)] (by decide +kernel) rfl rfl ?_
  refine jPutI C 5 (by decide +kernel : decode cX9_empty 2 = .ok (.putfield 15, 3)) rfl hE t_v0 kX9 2 (by decide) rfl rfl (by decide) rfl wd_91 rfl rfl rfl ?_
  refine jTopS (fun S1 e_S1 => ?_)
  have h := h S1 e_S1
  exact jRetV C (by decide +kernel : decode cX9_empty 5 = .ok (.return_, 1)) (Nat.le_refl _) (Nat.le_refl _) ⟨rfl, h⟩
theorem ok_X9_empty {G : Gm} {v0 : Nat} {S : St} {Q : St → Prop}  (t_v0 : ok G 8 v0) (h : f_X9_empty G v0 Q S) : MT yX9_empty cX9_empty 1 none rm_X9_empty 0 0 (fun b => [.ref (b + v0)]) G S (QV (fun G1 S1 => G1 = G ∧ Q S1)) := MT.ofJ (by decide +kernel) (fun b => [(0, .ref (b + v0))]) (fun b => rfl) (fun b => Nat.le_of_ble_eq_true rfl) (fun l b D cy p e s m below meth c C hE hn => j_X9_empty C hE t_v0 h)
theorem hd_X9_empty : yX9_empty.cls ≠ "java/lang/invoke/MethodHandle" ∧ yX9_empty.cls ≠ "java/lang/invoke/VarHandle" ∧ (parseMethodDescriptor yX9_empty.desc).map (fun d => d.parameters.length) = some 0 := by decide +kernel
abbrev rm_X10_back : Room := { frames := 2, cells := 0, slots := 0, locals := 82 }
set_option maxHeartbeats 4000000 in
set_option maxRecDepth 100000 in
theorem j_X10_back_9 {p : Program} {l : Launch} {e : Env} {s : State} {m : MethodId} {args : Array Value} {below : List Frame} {meth : Method} {c : Code} {b : Nat} {D : va_G} {cy : Nat → ClassId} {G : Gm} {v0 : Nat} {S : St} {Q : Int32 → St → Prop} (C : CX p s m args meth c b D cy cX10_back RX10 3 (some .int)) (hE : s.heap.size + 0 ≤ b + G.2.2) (t_v0 : ok G 9 v0) (h : f_X10_back_9 G v0 Q S) : J p l e rm_X10_back s m args below meth c b D cy 3 (zI b D cy below args s G Q) 0 0 G S 9 [(0, .ref (b + v0))] [] := by
  unfold f_X10_back_9 at h
  refine jB C [(.aload_n 0, 1, 0), (.iconst (-1), 1, (-1))] 11 [(0, .ref (b + v0))] [.int (-1), .ref (b + v0)] (by decide +kernel) rfl rfl ?_
  refine jcV_I C 14 (rest := []) (ok_X10_refuse t_v0 h) (by decide +kernel : decode cX10_back 11 = .ok (.invokevirtual 78, 3)) rfl wd_355 wd_357 wp_0 wd_1 wd_358 ⟨rfl, rfl⟩ hd_X10_refuse ⟨Nat.le_of_ble_eq_true rfl, Nat.le_of_ble_eq_true rfl⟩ t_v0 kX10 (by decide) rfl rfl rfl (Nat.le_of_ble_eq_true rfl) ⟨Nat.zero_le _, Nat.zero_le _⟩ (fun r2 S1 h => ?_)
  exact jRetI C (by decide +kernel : decode cX10_back 14 = .ok (.ireturn, 1)) (Nat.le_refl _) (Nat.le_refl _) ⟨rfl, h⟩
set_option maxHeartbeats 4000000 in
set_option maxRecDepth 100000 in
theorem j_X10_back {p : Program} {l : Launch} {e : Env} {s : State} {m : MethodId} {args : Array Value} {below : List Frame} {meth : Method} {c : Code} {b : Nat} {D : va_G} {cy : Nat → ClassId} {G : Gm} {v0 : Nat} {v1 : Int32} {S : St} {Q : Int32 → St → Prop} (C : CX p s m args meth c b D cy cX10_back RX10 3 (some .int)) (hE : s.heap.size + 0 ≤ b + G.2.2) (t_v0 : ok G 9 v0) (h : f_X10_back G v0 v1 Q S) : J p l e rm_X10_back s m args below meth c b D cy 3 (zI b D cy below args s G Q) 0 0 G S 0 [(0, .ref (b + v0)), (1, .int v1)] [] := by
  unfold f_X10_back at h
  refine jB C [(.iload_n 1, 1, 0)] 1 [(0, .ref (b + v0)), (1, .int v1)] [.int v1] (by decide +kernel) rfl rfl ?_
  refine jIf_lt C 4 9 (by decide +kernel : decode cX10_back 1 = .ok (.ifCond .lt 8, 3)) rfl rfl (fun c1 => ?_) (fun c1 => ?_)
  · have h := it1 h c1
    refine jSub [0] rfl ?_
    exact j_X10_back_9 C hE t_v0 h
  · have h := it2 h c1
    refine jB C [(.iload_n 1, 1, 0), (.iconst 2, 1, 2)] 6 [(0, .ref (b + v0)), (1, .int v1)] [.int 2, .int v1] (by decide +kernel) rfl rfl ?_
    refine jIcmp_lt C 9 15 (by decide +kernel : decode cX10_back 6 = .ok (.if_icmp .lt 9, 3)) rfl rfl (fun c2 => ?_) (fun c2 => ?_)
    · have h := it1 h c2
      refine jB C [(.aload_n 0, 1, 0)] 16 [(0, .ref (b + v0)), (1, .int v1)] [.ref (b + v0)] (by decide +kernel) rfl rfl ?_
      obtain ⟨a3, e_a3, h⟩ := h
      refine jGetR C 19 (by decide +kernel : decode cX10_back 16 = .ok (.getfield 21, 3)) rfl t_v0 kX10 2 (by decide) rfl rfl (by decide) wd_313 e_a3 rfl (fun t_a3 => ?_)
      refine jB C [(.iload_n 1, 1, 0)] 20 [(0, .ref (b + v0)), (1, .int v1)] [.int v1, .ref (b + a3)] (by decide +kernel) rfl rfl ?_
      obtain ⟨y4, h⟩ := h
      refine jAald14 C 21 (by decide +kernel : decode cX10_back 20 = .ok (.aaload, 1)) rfl t_a3 y4 (fun t5 => ?_)
      refine jTopQ (fun r6 e_r6 => ?_)
      rw [← e_r6] at t5
      have h := h r6 e_r6
      refine jAstoreQ_n C 22 (by decide +kernel : decode cX10_back 21 = .ok (.astore_n 2, 1)) rfl (by decide) ?_
      refine jAloadQ_n C 23 (by decide +kernel : decode cX10_back 22 = .ok (.aload_n 2, 1)) rfl 0 rfl ?_
      refine jIfnn C 26 33 (by decide +kernel : decode cX10_back 23 = .ok (.ifnonnull 10, 3)) rfl rfl (fun a7 e_a7 => ?_) (fun e_a7 => ?_)
      · have t8 := t5 a7 e_a7
        replace h := h.1 a7 e_a7
        subst e_a7
        refine jB C [(.aload_n 0, 1, 0)] 34 [(2, .ref (b + a7)), (0, .ref (b + v0)), (1, .int v1)] [.ref (b + v0)] (by decide +kernel) rfl rfl ?_
        obtain ⟨a9, e_a9, h⟩ := h
        refine jGetR C 37 (by decide +kernel : decode cX10_back 34 = .ok (.getfield 14, 3)) rfl t_v0 kX10 0 (by decide) rfl rfl (by decide) wd_311 e_a9 rfl (fun t_a9 => ?_)
        refine jB C [(.aload_n 2, 1, 0)] 38 [(2, .ref (b + a7)), (0, .ref (b + v0)), (1, .int v1)] [.ref (b + a7), .ref (b + a9)] (by decide +kernel) rfl rfl ?_
        refine jcVN_V C 41 (rest := []) (ok_X5_copyFrom t_a9 t8 h) (by decide +kernel : decode cX10_back 38 = .ok (.invokevirtual 301, 3)) rfl wn_1089 wd_782 wp_63 wd_2 wd_783 ⟨rfl, rfl⟩ hd_X5_copyFrom ⟨Nat.le_of_ble_eq_true rfl, Nat.le_of_ble_eq_true rfl⟩ t_a9 kX5 (by decide) rfl rfl rfl (Nat.le_of_ble_eq_true rfl) ⟨Nat.zero_le _, Nat.zero_le _⟩ (fun S10 h => ?_)
        refine jB C [(.aload_n 0, 1, 0)] 42 [(2, .ref (b + a7)), (0, .ref (b + v0)), (1, .int v1)] [.ref (b + v0)] (by decide +kernel) rfl rfl ?_
        obtain ⟨a11, e_a11, h⟩ := h
        refine jGetR C 45 (by decide +kernel : decode cX10_back 42 = .ok (.getfield 28, 3)) rfl t_v0 kX10 3 (by decide) rfl rfl (by decide) wd_314 e_a11 rfl (fun t_a11 => ?_)
        refine jcVN_V C 48 (rest := []) (ok_X9_empty t_a11 h) (by decide +kernel : decode cX10_back 45 = .ok (.invokevirtual 82, 3)) rfl wn_359 wd_361 wp_1 wd_3 wd_362 ⟨rfl, rfl⟩ hd_X9_empty ⟨Nat.le_of_ble_eq_true rfl, Nat.le_of_ble_eq_true rfl⟩ t_a11 kX9 (by decide) rfl rfl rfl (Nat.le_of_ble_eq_true rfl) ⟨Nat.zero_le _, Nat.zero_le _⟩ (fun S12 h => ?_)
        refine jB C [(.aload_n 0, 1, 0), (.iconst 0, 1, 0)] 50 [(2, .ref (b + a7)), (0, .ref (b + v0)), (1, .int v1)] [.int 0, .ref (b + v0)] (by decide +kernel) rfl rfl ?_
        refine jcV_I C 53 (rest := []) (ok_X10_accept t_v0 h) (by decide +kernel : decode cX10_back 50 = .ok (.invokevirtual 89, 3)) rfl wd_387 wd_389 wp_7 wd_1 wd_390 ⟨rfl, rfl⟩ hd_X10_accept ⟨Nat.le_of_ble_eq_true rfl, Nat.le_of_ble_eq_true rfl⟩ t_v0 kX10 (by decide) rfl rfl rfl (Nat.le_of_ble_eq_true rfl) ⟨Nat.zero_le _, Nat.zero_le _⟩ (fun r14 S13 h => ?_)
        exact jRetI C (by decide +kernel : decode cX10_back 53 = .ok (.ireturn, 1)) (Nat.le_refl _) (Nat.le_refl _) ⟨rfl, h⟩
      · replace h := h.2 e_a7
        subst e_a7
        refine jB C [(.aload_n 0, 1, 0), (.bipush (-2), 2, (-2))] 29 [(2, .null), (0, .ref (b + v0)), (1, .int v1)] [.int (-2), .ref (b + v0)] (by decide +kernel) rfl rfl ?_
        refine jcV_I C 32 (rest := []) (ok_X10_refuse t_v0 h) (by decide +kernel : decode cX10_back 29 = .ok (.invokevirtual 78, 3)) rfl wd_355 wd_357 wp_0 wd_1 wd_358 ⟨rfl, rfl⟩ hd_X10_refuse ⟨Nat.le_of_ble_eq_true rfl, Nat.le_of_ble_eq_true rfl⟩ t_v0 kX10 (by decide) rfl rfl rfl (Nat.le_of_ble_eq_true rfl) ⟨Nat.zero_le _, Nat.zero_le _⟩ (fun r16 S15 h => ?_)
        exact jRetI C (by decide +kernel : decode cX10_back 32 = .ok (.ireturn, 1)) (Nat.le_refl _) (Nat.le_refl _) ⟨rfl, h⟩
    · have h := it2 h c2
      refine jSub [0] rfl ?_
      exact j_X10_back_9 C hE t_v0 h
theorem ok_X10_back {G : Gm} {v0 : Nat} {v1 : Int32} {S : St} {Q : Int32 → St → Prop}  (t_v0 : ok G 9 v0) (h : f_X10_back G v0 v1 Q S) : MT yX10_back cX10_back 3 (some .int) rm_X10_back 0 0 (fun b => [.ref (b + v0), .int v1]) G S (QI (fun r G1 S1 => G1 = G ∧ Q r S1)) := MT.ofJ (by decide +kernel) (fun b => [(0, .ref (b + v0)), (1, .int v1)]) (fun b => rfl) (fun b => Nat.le_of_ble_eq_true rfl) (fun l b D cy p e s m below meth c C hE hn => j_X10_back C hE t_v0 h)
theorem hd_X10_back : yX10_back.cls ≠ "java/lang/invoke/MethodHandle" ∧ yX10_back.cls ≠ "java/lang/invoke/VarHandle" ∧ (parseMethodDescriptor yX10_back.desc).map (fun d => d.parameters.length) = some 1 := by decide +kernel
abbrev rm_X10_judged : Room := { frames := 1, cells := 0, slots := 0, locals := 21 }
set_option maxHeartbeats 4000000 in
set_option maxRecDepth 100000 in
theorem j_X10_judged {p : Program} {l : Launch} {e : Env} {s : State} {m : MethodId} {args : Array Value} {below : List Frame} {meth : Method} {c : Code} {b : Nat} {D : va_G} {cy : Nat → ClassId} {G : Gm} {v0 : Nat} {v1 : Int32} {S : St} {Q : Int32 → St → Prop} (C : CX p s m args meth c b D cy cX10_judged RX10 2 (some .int)) (hE : s.heap.size + 0 ≤ b + G.2.2) (t_v0 : ok G 9 v0) (h : f_X10_judged G v0 v1 Q S) : J p l e rm_X10_judged s m args below meth c b D cy 2 (zI b D cy below args s G Q) 0 0 G S 0 [(0, .ref (b + v0)), (1, .int v1)] [] := by
  unfold f_X10_judged at h
  refine jB C [(.iload_n 1, 1, 0)] 1 [(0, .ref (b + v0)), (1, .int v1)] [.int v1] (by decide +kernel) rfl rfl ?_
  refine jIf_ge C 4 12 (by decide +kernel : decode cX10_judged 1 = .ok (.ifCond .ge 11, 3)) rfl rfl (fun c1 => ?_) (fun c1 => ?_)
  · have h := it1 h c1
    refine jB C [(.aload_n 0, 1, 0), (.iload_n 1, 1, 0)] 14 [(0, .ref (b + v0)), (1, .int v1)] [.int v1, .ref (b + v0)] (by decide +kernel) rfl rfl ?_
    refine jcV_I C 17 (rest := []) (ok_X10_accept t_v0 h) (by decide +kernel : decode cX10_judged 14 = .ok (.invokevirtual 89, 3)) rfl wd_387 wd_389 wp_7 wd_1 wd_390 ⟨rfl, rfl⟩ hd_X10_accept ⟨Nat.le_of_ble_eq_true rfl, Nat.le_of_ble_eq_true rfl⟩ t_v0 kX10 (by decide) rfl rfl rfl (Nat.le_of_ble_eq_true rfl) ⟨Nat.zero_le _, Nat.zero_le _⟩ (fun r3 S2 h => ?_)
    exact jRetI C (by decide +kernel : decode cX10_judged 17 = .ok (.ireturn, 1)) (Nat.le_refl _) (Nat.le_refl _) ⟨rfl, h⟩
  · have h := it2 h c1
    refine jB C [(.aload_n 0, 1, 0), (.iload_n 1, 1, 0)] 6 [(0, .ref (b + v0)), (1, .int v1)] [.int v1, .ref (b + v0)] (by decide +kernel) rfl rfl ?_
    refine jcV_I C 9 (rest := []) (ok_X10_refuse t_v0 h) (by decide +kernel : decode cX10_judged 6 = .ok (.invokevirtual 78, 3)) rfl wd_355 wd_357 wp_0 wd_1 wd_358 ⟨rfl, rfl⟩ hd_X10_refuse ⟨Nat.le_of_ble_eq_true rfl, Nat.le_of_ble_eq_true rfl⟩ t_v0 kX10 (by decide) rfl rfl rfl (Nat.le_of_ble_eq_true rfl) ⟨Nat.zero_le _, Nat.zero_le _⟩ (fun r5 S4 h => ?_)
    refine jGoto C 17 (by decide +kernel : decode cX10_judged 9 = .ok (.goto 8, 3)) rfl ?_
    exact jRetI C (by decide +kernel : decode cX10_judged 17 = .ok (.ireturn, 1)) (Nat.le_refl _) (Nat.le_refl _) ⟨rfl, h⟩
theorem ok_X10_judged {G : Gm} {v0 : Nat} {v1 : Int32} {S : St} {Q : Int32 → St → Prop}  (t_v0 : ok G 9 v0) (h : f_X10_judged G v0 v1 Q S) : MT yX10_judged cX10_judged 2 (some .int) rm_X10_judged 0 0 (fun b => [.ref (b + v0), .int v1]) G S (QI (fun r G1 S1 => G1 = G ∧ Q r S1)) := MT.ofJ (by decide +kernel) (fun b => [(0, .ref (b + v0)), (1, .int v1)]) (fun b => rfl) (fun b => Nat.le_of_ble_eq_true rfl) (fun l b D cy p e s m below meth c C hE hn => j_X10_judged C hE t_v0 h)
theorem hd_X10_judged : yX10_judged.cls ≠ "java/lang/invoke/MethodHandle" ∧ yX10_judged.cls ≠ "java/lang/invoke/VarHandle" ∧ (parseMethodDescriptor yX10_judged.desc).map (fun d => d.parameters.length) = some 1 := by decide +kernel
abbrev rm_X10_cloth : Room := { frames := 6, cells := 0, slots := 0, locals := 160 }
set_option maxHeartbeats 4000000 in
set_option maxRecDepth 100000 in
theorem j_X10_cloth {p : Program} {l : Launch} {e : Env} {s : State} {m : MethodId} {args : Array Value} {below : List Frame} {meth : Method} {c : Code} {b : Nat} {D : va_G} {cy : Nat → ClassId} {G : Gm} {v0 : Nat} {v1 : Int32} {S : St} {Q : Int32 → St → Prop} (C : CX p s m args meth c b D cy cX10_cloth RX10 2 (some .int)) (hE : s.heap.size + 0 ≤ b + G.2.2) (t_v0 : ok G 9 v0) (h : f_X10_cloth G v0 v1 Q S) : J p l e rm_X10_cloth s m args below meth c b D cy 2 (zI b D cy below args s G Q) 0 0 G S 0 [(0, .ref (b + v0)), (1, .int v1)] [] := by
  unfold f_X10_cloth at h
  refine jB C [(.aload_n 0, 1, 0), (.aload_n 0, 1, 0)] 2 [(0, .ref (b + v0)), (1, .int v1)] [.ref (b + v0), .ref (b + v0)] (by decide +kernel) rfl rfl ?_
  obtain ⟨a1, e_a1, h⟩ := h
  refine jGetR C 5 (by decide +kernel : decode cX10_cloth 2 = .ok (.getfield 42, 3)) rfl t_v0 kX10 5 (by decide) rfl rfl (by decide) wd_316 e_a1 rfl (fun t_a1 => ?_)
  refine jB C [(.aload_n 0, 1, 0)] 6 [(0, .ref (b + v0)), (1, .int v1)] [.ref (b + v0), .ref (b + a1), .ref (b + v0)] (by decide +kernel) rfl rfl ?_
  obtain ⟨a2, e_a2, h⟩ := h
  refine jGetR C 9 (by decide +kernel : decode cX10_cloth 6 = .ok (.getfield 14, 3)) rfl t_v0 kX10 0 (by decide) rfl rfl (by decide) wd_311 e_a2 rfl (fun t_a2 => ?_)
  refine jB C [(.aload_n 0, 1, 0)] 10 [(0, .ref (b + v0)), (1, .int v1)] [.ref (b + v0), .ref (b + a2), .ref (b + a1), .ref (b + v0)] (by decide +kernel) rfl rfl ?_
  obtain ⟨a3, e_a3, h⟩ := h
  refine jGetR C 13 (by decide +kernel : decode cX10_cloth 10 = .ok (.getfield 28, 3)) rfl t_v0 kX10 3 (by decide) rfl rfl (by decide) wd_314 e_a3 rfl (fun t_a3 => ?_)
  refine jB C [(.iconst 3, 1, 3), (.iload_n 1, 1, 0), (.iconst 0, 1, 0), (.iconst 0, 1, 0)] 17 [(0, .ref (b + v0)), (1, .int v1)] [.int 0, .int 0, .int v1, .int 3, .ref (b + a3), .ref (b + a2), .ref (b + a1), .ref (b + v0)] (by decide +kernel) rfl rfl ?_
  refine jcVN_I C 20 (rest := [.ref (b + v0)]) (ok_X1_act t_a1 t_a2 t_a3 h) (by decide +kernel : decode cX10_cloth 17 = .ok (.invokevirtual 239, 3)) rfl wn_883 wd_817 wp_69 wd_6 wd_818 ⟨rfl, rfl⟩ hd_X1_act ⟨Nat.le_of_ble_eq_true rfl, Nat.le_of_ble_eq_true rfl⟩ t_a1 kX1 (by decide) rfl rfl rfl (Nat.le_of_ble_eq_true rfl) ⟨Nat.zero_le _, Nat.zero_le _⟩ (fun r5 S4 h => ?_)
  refine jcV_I C 23 (rest := []) (ok_X10_judged t_v0 h) (by decide +kernel : decode cX10_cloth 20 = .ok (.invokevirtual 243, 3)) rfl wd_884 wd_886 wp_75 wd_1 wd_887 ⟨rfl, rfl⟩ hd_X10_judged ⟨Nat.le_of_ble_eq_true rfl, Nat.le_of_ble_eq_true rfl⟩ t_v0 kX10 (by decide) rfl rfl rfl (Nat.le_of_ble_eq_true rfl) ⟨Nat.zero_le _, Nat.zero_le _⟩ (fun r7 S6 h => ?_)
  exact jRetI C (by decide +kernel : decode cX10_cloth 23 = .ok (.ireturn, 1)) (Nat.le_refl _) (Nat.le_refl _) ⟨rfl, h⟩
theorem ok_X10_cloth {G : Gm} {v0 : Nat} {v1 : Int32} {S : St} {Q : Int32 → St → Prop}  (t_v0 : ok G 9 v0) (h : f_X10_cloth G v0 v1 Q S) : MT yX10_cloth cX10_cloth 2 (some .int) rm_X10_cloth 0 0 (fun b => [.ref (b + v0), .int v1]) G S (QI (fun r G1 S1 => G1 = G ∧ Q r S1)) := MT.ofJ (by decide +kernel) (fun b => [(0, .ref (b + v0)), (1, .int v1)]) (fun b => rfl) (fun b => Nat.le_of_ble_eq_true rfl) (fun l b D cy p e s m below meth c C hE hn => j_X10_cloth C hE t_v0 h)
theorem hd_X10_cloth : yX10_cloth.cls ≠ "java/lang/invoke/MethodHandle" ∧ yX10_cloth.cls ≠ "java/lang/invoke/VarHandle" ∧ (parseMethodDescriptor yX10_cloth.desc).map (fun d => d.parameters.length) = some 1 := by decide +kernel
abbrev rm_X10_isLens : Room := { frames := 0, cells := 0, slots := 0, locals := 0 }
set_option maxHeartbeats 4000000 in
set_option maxRecDepth 100000 in
theorem j_X10_isLens {p : Program} {l : Launch} {e : Env} {s : State} {m : MethodId} {args : Array Value} {below : List Frame} {meth : Method} {c : Code} {b : Nat} {D : va_G} {cy : Nat → ClassId} {G : Gm} {v0 : Int32} {S : St} {Q : Int32 → St → Prop} (C : CX p s m args meth c b D cy cX10_isLens RX10 1 (some .boolean)) (hE : s.heap.size + 0 ≤ b + G.2.2) (h : f_X10_isLens G v0 Q S) : J p l e rm_X10_isLens s m args below meth c b D cy 1 (zI b D cy below args s G Q) 0 0 G S 0 [(0, .int v0)] [] := by
  unfold f_X10_isLens at h
  refine jB C [(.iload_n 0, 1, 0)] 1 [(0, .int v0)] [.int v0] (by decide +kernel) rfl rfl ?_
  refine jIf_lt C 4 14 (by decide +kernel : decode cX10_isLens 1 = .ok (.ifCond .lt 13, 3)) rfl rfl (fun c1 => ?_) (fun c1 => ?_)
  · have h := it1 h c1
    refine jB C [(.iconst 0, 1, 0)] 15 [(0, .int v0)] [.int 0] (by decide +kernel) rfl rfl ?_
    exact jRetZ C (by decide +kernel : decode cX10_isLens 15 = .ok (.ireturn, 1)) (Nat.le_refl _) (Nat.le_refl _) (by decide) ⟨rfl, h⟩
  · have h := it2 h c1
    refine jB C [(.iload_n 0, 1, 0), (.bipush 8, 2, 8)] 7 [(0, .int v0)] [.int 8, .int v0] (by decide +kernel) rfl rfl ?_
    refine jIcmp_ge C 10 14 (by decide +kernel : decode cX10_isLens 7 = .ok (.if_icmp .ge 7, 3)) rfl rfl (fun c2 => ?_) (fun c2 => ?_)
    · have h := it1 h c2
      refine jB C [(.iconst 0, 1, 0)] 15 [(0, .int v0)] [.int 0] (by decide +kernel) rfl rfl ?_
      exact jRetZ C (by decide +kernel : decode cX10_isLens 15 = .ok (.ireturn, 1)) (Nat.le_refl _) (Nat.le_refl _) (by decide) ⟨rfl, h⟩
    · have h := it2 h c2
      refine jB C [(.iconst 1, 1, 1)] 11 [(0, .int v0)] [.int 1] (by decide +kernel) rfl rfl ?_
      refine jGoto C 15 (by decide +kernel : decode cX10_isLens 11 = .ok (.goto 4, 3)) rfl ?_
      exact jRetZ C (by decide +kernel : decode cX10_isLens 15 = .ok (.ireturn, 1)) (Nat.le_refl _) (Nat.le_refl _) (by decide) ⟨rfl, h⟩
theorem ok_X10_isLens {G : Gm} {v0 : Int32} {S : St} {Q : Int32 → St → Prop}  (h : f_X10_isLens G v0 Q S) : MT yX10_isLens cX10_isLens 1 (some .boolean) rm_X10_isLens 0 0 (fun b => [.int v0]) G S (QI (fun r G1 S1 => G1 = G ∧ Q r S1)) := MT.ofJ (by decide +kernel) (fun b => [(0, .int v0)]) (fun b => rfl) (fun b => Nat.le_of_ble_eq_true rfl) (fun l b D cy p e s m below meth c C hE hn => j_X10_isLens C hE h)
theorem hd_X10_isLens : yX10_isLens.cls ≠ "java/lang/invoke/MethodHandle" ∧ yX10_isLens.cls ≠ "java/lang/invoke/VarHandle" ∧ (parseMethodDescriptor yX10_isLens.desc).map (fun d => d.parameters.length) = some 1 := by decide +kernel
abbrev rm_X4_sinsBehind : Room := { frames := 4, cells := 0, slots := 0, locals := 107 }
set_option maxHeartbeats 4000000 in
set_option maxRecDepth 100000 in
theorem j_X4_sinsBehind_14_n {p : Program} {l : Launch} {e : Env} {s : State} {m : MethodId} {args : Array Value} {below : List Frame} {meth : Method} {c : Code} {b : Nat} {D : va_G} {cy : Nat → ClassId} {G : Gm} {v0 : Nat} {v1 : Nat} {v2 : Int32} {v3 : Int32} {v4 : Int32} {v5 : Int32} {Q : Int32 → St → Prop} (C : CX p s m args meth c b D cy cX4_sinsBehind RX4 8 (some .int)) (hE : s.heap.size + 0 ≤ b + G.2.2) (t_v0 : ok G 3 v0) (t_v1 : ok G 4 v1) : ∀ k (v6 : Int32) (v7 : Int32) S, f_X4_sinsBehind_14_n G v0 v1 v2 v3 v4 v5 Q k v6 v7 S → J p l e rm_X4_sinsBehind s m args below meth c b D cy 8 (zI b D cy below args s G Q) 0 0 G S 14 [(0, .ref (b + v0)), (1, .ref (b + v1)), (2, .int v2), (3, .int v3), (4, .int v4), (5, .int v5), (6, .int v6), (7, .int v7)] [] := by
  intro k
  induction k with
  | zero => intro v6 v7 S h; exact h.elim
  | succ k ih =>
    intro v6 v7 S h
    unfold f_X4_sinsBehind_14_n at h
    refine jB C [(.iload 7, 2, 0), (.bipush 8, 2, 8)] 18 [(0, .ref (b + v0)), (1, .ref (b + v1)), (2, .int v2), (3, .int v3), (4, .int v4), (5, .int v5), (6, .int v6), (7, .int v7)] [.int 8, .int v7] (by decide +kernel) rfl rfl ?_
    refine jIcmp_gt C 21 63 (by decide +kernel : decode cX4_sinsBehind 18 = .ok (.if_icmp .gt 45, 3)) rfl rfl (fun c1 => ?_) (fun c1 => ?_)
    · have h := it1 h c1
      refine jB C [(.aload_n 1, 1, 0), (.iload_n 2, 1, 0), (.iload_n 3, 1, 0), (.iload 5, 2, 0)] 68 [(0, .ref (b + v0)), (1, .ref (b + v1)), (2, .int v2), (3, .int v3), (4, .int v4), (5, .int v5), (6, .int v6), (7, .int v7)] [.int v5, .int v3, .int v2, .ref (b + v1)] (by decide +kernel) rfl rfl ?_
      refine jcVN_V C 71 (rest := []) (ok_X5_setSin t_v1 h) (by decide +kernel : decode cX4_sinsBehind 68 = .ok (.invokevirtual 152, 3)) rfl wn_1029 wd_369 wp_3 wd_2 wd_370 ⟨rfl, rfl⟩ hd_X5_setSin ⟨Nat.le_of_ble_eq_true rfl, Nat.le_of_ble_eq_true rfl⟩ t_v1 kX5 (by decide) rfl rfl rfl (Nat.le_of_ble_eq_true rfl) ⟨Nat.zero_le _, Nat.zero_le _⟩ (fun S2 h => ?_)
      refine jB C [(.iload 6, 2, 0)] 73 [(0, .ref (b + v0)), (1, .ref (b + v1)), (2, .int v2), (3, .int v3), (4, .int v4), (5, .int v5), (6, .int v6), (7, .int v7)] [.int v6] (by decide +kernel) rfl rfl ?_
      exact jRetI C (by decide +kernel : decode cX4_sinsBehind 73 = .ok (.ireturn, 1)) (Nat.le_refl _) (Nat.le_refl _) ⟨rfl, h⟩
    · have h := it2 h c1
      refine jB C [(.aload_n 1, 1, 0), (.iload_n 2, 1, 0), (.iload_n 3, 1, 0), (.iload 7, 2, 0)] 26 [(0, .ref (b + v0)), (1, .ref (b + v1)), (2, .int v2), (3, .int v3), (4, .int v4), (5, .int v5), (6, .int v6), (7, .int v7)] [.int v7, .int v3, .int v2, .ref (b + v1)] (by decide +kernel) rfl rfl ?_
      refine jcVN_V C 29 (rest := []) (ok_X5_setSin t_v1 h) (by decide +kernel : decode cX4_sinsBehind 26 = .ok (.invokevirtual 152, 3)) rfl wn_1029 wd_369 wp_3 wd_2 wd_370 ⟨rfl, rfl⟩ hd_X5_setSin ⟨Nat.le_of_ble_eq_true rfl, Nat.le_of_ble_eq_true rfl⟩ t_v1 kX5 (by decide) rfl rfl rfl (Nat.le_of_ble_eq_true rfl) ⟨Nat.zero_le _, Nat.zero_le _⟩ (fun S3 h => ?_)
      refine jB C [(.aload_n 0, 1, 0)] 30 [(0, .ref (b + v0)), (1, .ref (b + v1)), (2, .int v2), (3, .int v3), (4, .int v4), (5, .int v5), (6, .int v6), (7, .int v7)] [.ref (b + v0)] (by decide +kernel) rfl rfl ?_
      obtain ⟨a4, e_a4, h⟩ := h
      refine jGetR C 33 (by decide +kernel : decode cX4_sinsBehind 30 = .ok (.getfield 12, 3)) rfl t_v0 kX4 0 (by decide) rfl rfl (by decide) wd_191 e_a4 rfl (fun t_a4 => ?_)
      refine jB C [(.aload_n 1, 1, 0), (.aload_n 1, 1, 0)] 35 [(0, .ref (b + v0)), (1, .ref (b + v1)), (2, .int v2), (3, .int v3), (4, .int v4), (5, .int v5), (6, .int v6), (7, .int v7)] [.ref (b + v1), .ref (b + v1), .ref (b + a4)] (by decide +kernel) rfl rfl ?_
      refine jcVN_O C 38 (rest := [.ref (b + v1), .ref (b + a4)]) (ok_X5_lawInForce t_v1 h) (by decide +kernel : decode cX4_sinsBehind 35 = .ok (.invokevirtual 156, 3)) rfl wn_1030 wd_447 wp_15 wd_2 wd_448 ⟨rfl, rfl⟩ hd_X5_lawInForce ⟨Nat.le_of_ble_eq_true rfl, Nat.le_of_ble_eq_true rfl⟩ t_v1 kX5 (by decide) rfl rfl rfl (Nat.le_of_ble_eq_true rfl) ⟨Nat.zero_le _, Nat.zero_le _⟩ (fun r6 S5 h => ?_)
      obtain ⟨t7, h⟩ := h
      refine jB C [(.iload_n 2, 1, 0), (.iload_n 3, 1, 0)] 40 [(0, .ref (b + v0)), (1, .ref (b + v1)), (2, .int v2), (3, .int v3), (4, .int v4), (5, .int v5), (6, .int v6), (7, .int v7)] [.int v3, .int v2, rv b r6, .ref (b + v1), .ref (b + a4)] (by decide +kernel) rfl rfl ?_
      refine jcVN_I C 43 (rest := []) (ok_X2_lensFor t_a4 t_v1 t7 h) (by decide +kernel : decode cX4_sinsBehind 40 = .ok (.invokevirtual 160, 3)) rfl wn_1031 wd_502 wp_24 wd_4 wd_503 ⟨rfl, rfl⟩ hd_X2_lensFor ⟨Nat.le_of_ble_eq_true rfl, Nat.le_of_ble_eq_true rfl⟩ t_a4 kX2 (by decide) rfl rfl rfl (Nat.le_of_ble_eq_true rfl) ⟨Nat.zero_le _, Nat.zero_le _⟩ (fun r9 S8 h => ?_)
      refine jB C [(.iload 4, 2, 0)] 45 [(0, .ref (b + v0)), (1, .ref (b + v1)), (2, .int v2), (3, .int v3), (4, .int v4), (5, .int v5), (6, .int v6), (7, .int v7)] [.int v4, .int r9] (by decide +kernel) rfl rfl ?_
      refine jIcmp_ne C 48 57 (by decide +kernel : decode cX4_sinsBehind 45 = .ok (.if_icmp .ne 12, 3)) rfl rfl (fun c10 => ?_) (fun c10 => ?_)
      · have h := it2 h c10
        refine jB C [(.iinc 7 1, 3, 1)] 60 [(7, .int (v7 + 1)), (0, .ref (b + v0)), (1, .ref (b + v1)), (2, .int v2), (3, .int v3), (4, .int v4), (5, .int v5), (6, .int v6)] [] (by decide +kernel) rfl rfl ?_
        refine jGoto C 14 (by decide +kernel : decode cX4_sinsBehind 60 = .ok (.goto (-46), 3)) rfl ?_
        refine jSub [1, 2, 3, 4, 5, 6, 7, 0] rfl ?_
        exact ih v6 (v7 + 1) S8 h
      · have h := it1 h c10
        refine jB C [(.iload 6, 2, 0), (.iconst 1, 1, 1), (.iload 7, 2, 0), (.ishl, 1, 0), (.ior, 1, 0)] 55 [(0, .ref (b + v0)), (1, .ref (b + v1)), (2, .int v2), (3, .int v3), (4, .int v4), (5, .int v5), (6, .int v6), (7, .int v7)] [.int (v6 ||| (1 <<< ((v7 : Int32) &&& 31)))] (by decide +kernel) rfl rfl ?_
        refine jTopI (fun x11 e_x11 => ?_)
        have h := h x11 e_x11
        refine jB C [(.istore 6, 2, 0), (.iinc 7 1, 3, 1)] 60 [(7, .int (v7 + 1)), (6, .int x11), (0, .ref (b + v0)), (1, .ref (b + v1)), (2, .int v2), (3, .int v3), (4, .int v4), (5, .int v5)] [] (by decide +kernel) rfl rfl ?_
        refine jGoto C 14 (by decide +kernel : decode cX4_sinsBehind 60 = .ok (.goto (-46), 3)) rfl ?_
        refine jSub [2, 3, 4, 5, 6, 7, 1, 0] rfl ?_
        exact ih x11 (v7 + 1) S8 h
theorem j_X4_sinsBehind_14 {p : Program} {l : Launch} {e : Env} {s : State} {m : MethodId} {args : Array Value} {below : List Frame} {meth : Method} {c : Code} {b : Nat} {D : va_G} {cy : Nat → ClassId} {G : Gm} {v0 : Nat} {v1 : Nat} {v2 : Int32} {v3 : Int32} {v4 : Int32} {v5 : Int32} {v6 : Int32} {v7 : Int32} {S : St} {Q : Int32 → St → Prop} (C : CX p s m args meth c b D cy cX4_sinsBehind RX4 8 (some .int)) (hE : s.heap.size + 0 ≤ b + G.2.2) (t_v0 : ok G 3 v0) (t_v1 : ok G 4 v1) (h : f_X4_sinsBehind_14 G v0 v1 v2 v3 v4 v5 Q v6 v7 S) : J p l e rm_X4_sinsBehind s m args below meth c b D cy 8 (zI b D cy below args s G Q) 0 0 G S 14 [(0, .ref (b + v0)), (1, .ref (b + v1)), (2, .int v2), (3, .int v3), (4, .int v4), (5, .int v5), (6, .int v6), (7, .int v7)] [] := by
  obtain ⟨k, h⟩ := h
  exact j_X4_sinsBehind_14_n C hE t_v0 t_v1 k v6 v7 S h
set_option maxHeartbeats 4000000 in
set_option maxRecDepth 100000 in
theorem j_X4_sinsBehind {p : Program} {l : Launch} {e : Env} {s : State} {m : MethodId} {args : Array Value} {below : List Frame} {meth : Method} {c : Code} {b : Nat} {D : va_G} {cy : Nat → ClassId} {G : Gm} {v0 : Nat} {v1 : Nat} {v2 : Int32} {v3 : Int32} {v4 : Int32} {S : St} {Q : Int32 → St → Prop} (C : CX p s m args meth c b D cy cX4_sinsBehind RX4 8 (some .int)) (hE : s.heap.size + 0 ≤ b + G.2.2) (t_v0 : ok G 3 v0) (t_v1 : ok G 4 v1) (h : f_X4_sinsBehind G v0 v1 v2 v3 v4 Q S) : J p l e rm_X4_sinsBehind s m args below meth c b D cy 8 (zI b D cy below args s G Q) 0 0 G S 0 [(0, .ref (b + v0)), (1, .ref (b + v1)), (2, .int v2), (3, .int v3), (4, .int v4)] [] := by
  unfold f_X4_sinsBehind at h
  refine jB C [(.aload_n 1, 1, 0), (.iload_n 2, 1, 0), (.iload_n 3, 1, 0)] 3 [(0, .ref (b + v0)), (1, .ref (b + v1)), (2, .int v2), (3, .int v3), (4, .int v4)] [.int v3, .int v2, .ref (b + v1)] (by decide +kernel) rfl rfl ?_
  refine jcVN_I C 6 (rest := []) (ok_X5_sinOf t_v1 h) (by decide +kernel : decode cX4_sinsBehind 3 = .ok (.invokevirtual 149, 3)) rfl wn_1028 wd_398 wp_8 wd_2 wd_399 ⟨rfl, rfl⟩ hd_X5_sinOf ⟨Nat.le_of_ble_eq_true rfl, Nat.le_of_ble_eq_true rfl⟩ t_v1 kX5 (by decide) rfl rfl rfl (Nat.le_of_ble_eq_true rfl) ⟨Nat.zero_le _, Nat.zero_le _⟩ (fun r2 S1 h => ?_)
  refine jB C [(.istore 5, 2, 0), (.iconst 0, 1, 0), (.istore 6, 2, 0), (.iconst 0, 1, 0), (.istore 7, 2, 0)] 14 [(7, .int 0), (6, .int 0), (5, .int r2), (0, .ref (b + v0)), (1, .ref (b + v1)), (2, .int v2), (3, .int v3), (4, .int v4)] [] (by decide +kernel) rfl rfl ?_
  refine jSub [3, 4, 5, 6, 7, 2, 1, 0] rfl ?_
  exact j_X4_sinsBehind_14 C hE t_v0 t_v1 h
theorem ok_X4_sinsBehind {G : Gm} {v0 : Nat} {v1 : Nat} {v2 : Int32} {v3 : Int32} {v4 : Int32} {S : St} {Q : Int32 → St → Prop}  (t_v0 : ok G 3 v0) (t_v1 : ok G 4 v1) (h : f_X4_sinsBehind G v0 v1 v2 v3 v4 Q S) : MT yX4_sinsBehind cX4_sinsBehind 8 (some .int) rm_X4_sinsBehind 0 0 (fun b => [.ref (b + v0), .ref (b + v1), .int v2, .int v3, .int v4]) G S (QI (fun r G1 S1 => G1 = G ∧ Q r S1)) := MT.ofJ (by decide +kernel) (fun b => [(0, .ref (b + v0)), (1, .ref (b + v1)), (2, .int v2), (3, .int v3), (4, .int v4)]) (fun b => rfl) (fun b => Nat.le_of_ble_eq_true rfl) (fun l b D cy p e s m below meth c C hE hn => j_X4_sinsBehind C hE t_v0 t_v1 h)
theorem hd_X4_sinsBehind : yX4_sinsBehind.cls ≠ "java/lang/invoke/MethodHandle" ∧ yX4_sinsBehind.cls ≠ "java/lang/invoke/VarHandle" ∧ (parseMethodDescriptor yX4_sinsBehind.desc).map (fun d => d.parameters.length) = some 4 := by decide +kernel
abbrev rm_X10_come : Room := { frames := 5, cells := 0, slots := 0, locals := 134 }
set_option maxHeartbeats 4000000 in
set_option maxRecDepth 100000 in
theorem j_X10_come {p : Program} {l : Launch} {e : Env} {s : State} {m : MethodId} {args : Array Value} {below : List Frame} {meth : Method} {c : Code} {b : Nat} {D : va_G} {cy : Nat → ClassId} {G : Gm} {v0 : Nat} {v1 : Int32} {v2 : Int32} {v3 : Int32} {S : St} {Q : Int32 → St → Prop} (C : CX p s m args meth c b D cy cX10_come RX10 4 (some .int)) (hE : s.heap.size + 0 ≤ b + G.2.2) (t_v0 : ok G 9 v0) (h : f_X10_come G v0 v1 v2 v3 Q S) : J p l e rm_X10_come s m args below meth c b D cy 4 (zI b D cy below args s G Q) 0 0 G S 0 [(0, .ref (b + v0)), (1, .int v1), (2, .int v2), (3, .int v3)] [] := by
  unfold f_X10_come at h
  refine jB C [(.aload_n 0, 1, 0)] 1 [(0, .ref (b + v0)), (1, .int v1), (2, .int v2), (3, .int v3)] [.ref (b + v0)] (by decide +kernel) rfl rfl ?_
  obtain ⟨a1, e_a1, h⟩ := h
  refine jGetR C 4 (by decide +kernel : decode cX10_come 1 = .ok (.getfield 14, 3)) rfl t_v0 kX10 0 (by decide) rfl rfl (by decide) wd_311 e_a1 rfl (fun t_a1 => ?_)
  refine jB C [(.iload_n 1, 1, 0)] 5 [(0, .ref (b + v0)), (1, .int v1), (2, .int v2), (3, .int v3)] [.int v1, .ref (b + a1)] (by decide +kernel) rfl rfl ?_
  refine jcVN_I C 8 (rest := []) (ok_X5_has t_a1 h) (by decide +kernel : decode cX10_come 5 = .ok (.invokevirtual 92, 3)) rfl wn_395 wd_373 wp_4 wd_2 wd_374 ⟨rfl, rfl⟩ hd_X5_has ⟨Nat.le_of_ble_eq_true rfl, Nat.le_of_ble_eq_true rfl⟩ t_a1 kX5 (by decide) rfl rfl rfl (Nat.le_of_ble_eq_true rfl) ⟨Nat.zero_le _, Nat.zero_le _⟩ (fun r3 S2 h => ?_)
  refine jIf_eq C 11 25 (by decide +kernel : decode cX10_come 8 = .ok (.ifCond .eq 17, 3)) rfl rfl (fun c4 => ?_) (fun c4 => ?_)
  · have h := it1 h c4
    refine jB C [(.iconst (-1), 1, (-1))] 26 [(0, .ref (b + v0)), (1, .int v1), (2, .int v2), (3, .int v3)] [.int (-1)] (by decide +kernel) rfl rfl ?_
    exact jRetI C (by decide +kernel : decode cX10_come 26 = .ok (.ireturn, 1)) (Nat.le_refl _) (Nat.le_refl _) ⟨rfl, h⟩
  · have h := it2 h c4
    refine jB C [(.iload_n 2, 1, 0)] 12 [(0, .ref (b + v0)), (1, .int v1), (2, .int v2), (3, .int v3)] [.int v2] (by decide +kernel) rfl rfl ?_
    refine jcS_I C 15 (rest := []) (ok_X10_isKind h) (by decide +kernel : decode cX10_come 12 = .ok (.invokestatic 125, 3)) rfl wd_498 wd_376 wd_1 wd_377 ⟨rfl, rfl⟩ hd_X10_isKind ⟨Nat.le_of_ble_eq_true rfl, Nat.le_of_ble_eq_true rfl⟩ rfl rfl (Nat.le_of_ble_eq_true rfl) ⟨Nat.zero_le _, Nat.zero_le _⟩ (fun r6 S5 h => ?_)
    refine jIf_eq C 18 25 (by decide +kernel : decode cX10_come 15 = .ok (.ifCond .eq 10, 3)) rfl rfl (fun c7 => ?_) (fun c7 => ?_)
    · have h := it1 h c7
      refine jB C [(.iconst (-1), 1, (-1))] 26 [(0, .ref (b + v0)), (1, .int v1), (2, .int v2), (3, .int v3)] [.int (-1)] (by decide +kernel) rfl rfl ?_
      exact jRetI C (by decide +kernel : decode cX10_come 26 = .ok (.ireturn, 1)) (Nat.le_refl _) (Nat.le_refl _) ⟨rfl, h⟩
    · have h := it2 h c7
      refine jB C [(.iload_n 3, 1, 0)] 19 [(0, .ref (b + v0)), (1, .int v1), (2, .int v2), (3, .int v3)] [.int v3] (by decide +kernel) rfl rfl ?_
      refine jcS_I C 22 (rest := []) (ok_X10_isLens h) (by decide +kernel : decode cX10_come 19 = .ok (.invokestatic 146, 3)) rfl wd_527 wd_528 wd_1 wd_529 ⟨rfl, rfl⟩ hd_X10_isLens ⟨Nat.le_of_ble_eq_true rfl, Nat.le_of_ble_eq_true rfl⟩ rfl rfl (Nat.le_of_ble_eq_true rfl) ⟨Nat.zero_le _, Nat.zero_le _⟩ (fun r9 S8 h => ?_)
      refine jIf_ne C 25 27 (by decide +kernel : decode cX10_come 22 = .ok (.ifCond .ne 5, 3)) rfl rfl (fun c10 => ?_) (fun c10 => ?_)
      · have h := it2 h c10
        refine jB C [(.aload_n 0, 1, 0)] 28 [(0, .ref (b + v0)), (1, .int v1), (2, .int v2), (3, .int v3)] [.ref (b + v0)] (by decide +kernel) rfl rfl ?_
        obtain ⟨a11, e_a11, h⟩ := h
        refine jGetR C 31 (by decide +kernel : decode cX10_come 28 = .ok (.getfield 56, 3)) rfl t_v0 kX10 7 (by decide) rfl rfl (by decide) wd_318 e_a11 rfl (fun t_a11 => ?_)
        refine jB C [(.aload_n 0, 1, 0)] 32 [(0, .ref (b + v0)), (1, .int v1), (2, .int v2), (3, .int v3)] [.ref (b + v0), .ref (b + a11)] (by decide +kernel) rfl rfl ?_
        obtain ⟨a12, e_a12, h⟩ := h
        refine jGetR C 35 (by decide +kernel : decode cX10_come 32 = .ok (.getfield 14, 3)) rfl t_v0 kX10 0 (by decide) rfl rfl (by decide) wd_311 e_a12 rfl (fun t_a12 => ?_)
        refine jB C [(.iload_n 1, 1, 0), (.iload_n 2, 1, 0), (.iload_n 3, 1, 0)] 38 [(0, .ref (b + v0)), (1, .int v1), (2, .int v2), (3, .int v3)] [.int v3, .int v2, .int v1, .ref (b + a12), .ref (b + a11)] (by decide +kernel) rfl rfl ?_
        refine jcVN_I C 41 (rest := []) (ok_X4_sinsBehind t_a11 t_a12 h) (by decide +kernel : decode cX10_come 38 = .ok (.invokevirtual 276, 3)) rfl wn_1024 wd_1026 wp_91 wd_8 wd_1027 ⟨rfl, rfl⟩ hd_X4_sinsBehind ⟨Nat.le_of_ble_eq_true rfl, Nat.le_of_ble_eq_true rfl⟩ t_a11 kX4 (by decide) rfl rfl rfl (Nat.le_of_ble_eq_true rfl) ⟨Nat.zero_le _, Nat.zero_le _⟩ (fun r14 S13 h => ?_)
        exact jRetI C (by decide +kernel : decode cX10_come 41 = .ok (.ireturn, 1)) (Nat.le_refl _) (Nat.le_refl _) ⟨rfl, h⟩
      · have h := it1 h c10
        refine jB C [(.iconst (-1), 1, (-1))] 26 [(0, .ref (b + v0)), (1, .int v1), (2, .int v2), (3, .int v3)] [.int (-1)] (by decide +kernel) rfl rfl ?_
        exact jRetI C (by decide +kernel : decode cX10_come 26 = .ok (.ireturn, 1)) (Nat.le_refl _) (Nat.le_refl _) ⟨rfl, h⟩
theorem ok_X10_come {G : Gm} {v0 : Nat} {v1 : Int32} {v2 : Int32} {v3 : Int32} {S : St} {Q : Int32 → St → Prop}  (t_v0 : ok G 9 v0) (h : f_X10_come G v0 v1 v2 v3 Q S) : MT yX10_come cX10_come 4 (some .int) rm_X10_come 0 0 (fun b => [.ref (b + v0), .int v1, .int v2, .int v3]) G S (QI (fun r G1 S1 => G1 = G ∧ Q r S1)) := MT.ofJ (by decide +kernel) (fun b => [(0, .ref (b + v0)), (1, .int v1), (2, .int v2), (3, .int v3)]) (fun b => rfl) (fun b => Nat.le_of_ble_eq_true rfl) (fun l b D cy p e s m below meth c C hE hn => j_X10_come C hE t_v0 h)
theorem hd_X10_come : yX10_come.cls ≠ "java/lang/invoke/MethodHandle" ∧ yX10_come.cls ≠ "java/lang/invoke/VarHandle" ∧ (parseMethodDescriptor yX10_come.desc).map (fun d => d.parameters.length) = some 3 := by decide +kernel
abbrev rm_X5_allSins : Room := { frames := 2, cells := 0, slots := 0, locals := 44 }
set_option maxHeartbeats 4000000 in
set_option maxRecDepth 100000 in
theorem j_X5_allSins_4_n {p : Program} {l : Launch} {e : Env} {s : State} {m : MethodId} {args : Array Value} {below : List Frame} {meth : Method} {c : Code} {b : Nat} {D : va_G} {cy : Nat → ClassId} {G : Gm} {v0 : Nat} {Q : Int32 → St → Prop} (C : CX p s m args meth c b D cy cX5_allSins RX5 3 (some .int)) (hE : s.heap.size + 0 ≤ b + G.2.2) (t_v0 : ok G 4 v0) : ∀ k (v1 : Int32) (v2 : Int32) S, f_X5_allSins_4_n G v0 Q k v1 v2 S → J p l e rm_X5_allSins s m args below meth c b D cy 3 (zI b D cy below args s G Q) 0 0 G S 4 [(0, .ref (b + v0)), (1, .int v1), (2, .int v2)] [] := by
  intro k
  induction k with
  | zero => intro v1 v2 S h; exact h.elim
  | succ k ih =>
    intro v1 v2 S h
    unfold f_X5_allSins_4_n at h
    refine jB C [(.iload_n 2, 1, 0), (.aload_n 0, 1, 0)] 6 [(0, .ref (b + v0)), (1, .int v1), (2, .int v2)] [.ref (b + v0), .int v2] (by decide +kernel) rfl rfl ?_
    refine jGetI C 9 (by decide +kernel : decode cX5_allSins 6 = .ok (.getfield 40, 3)) rfl t_v0 kX5 0 (by decide) rfl rfl (by decide) wd_36 ?_
    refine jIcmp_ge C 12 26 (by decide +kernel : decode cX5_allSins 9 = .ok (.if_icmp .ge 17, 3)) rfl rfl (fun c1 => ?_) (fun c1 => ?_)
    · have h := it1 h c1
      refine jB C [(.iload_n 1, 1, 0)] 27 [(0, .ref (b + v0)), (1, .int v1), (2, .int v2)] [.int v1] (by decide +kernel) rfl rfl ?_
      exact jRetI C (by decide +kernel : decode cX5_allSins 27 = .ok (.ireturn, 1)) (Nat.le_refl _) (Nat.le_refl _) ⟨rfl, h⟩
    · have h := it2 h c1
      refine jB C [(.iload_n 1, 1, 0), (.aload_n 0, 1, 0), (.iload_n 2, 1, 0)] 15 [(0, .ref (b + v0)), (1, .int v1), (2, .int v2)] [.int v2, .ref (b + v0), .int v1] (by decide +kernel) rfl rfl ?_
      refine jcV_I C 18 (rest := [.int v1]) (ok_X5_sinsOf t_v0 h) (by decide +kernel : decode cX5_allSins 15 = .ok (.invokevirtual 77, 3)) rfl wd_1120 wd_436 wp_14 wd_2 wd_437 ⟨rfl, rfl⟩ hd_X5_sinsOf ⟨Nat.le_of_ble_eq_true rfl, Nat.le_of_ble_eq_true rfl⟩ t_v0 kX5 (by decide) rfl rfl rfl (Nat.le_of_ble_eq_true rfl) ⟨Nat.zero_le _, Nat.zero_le _⟩ (fun r3 S2 h => ?_)
      refine jB C [(.iadd, 1, 0)] 19 [(0, .ref (b + v0)), (1, .int v1), (2, .int v2)] [.int (v1 + r3)] (by decide +kernel) rfl rfl ?_
      refine jTopI (fun x4 e_x4 => ?_)
      have h := h x4 e_x4
      refine jB C [(.istore_n 1, 1, 0), (.iinc 2 1, 3, 1)] 23 [(2, .int (v2 + 1)), (1, .int x4), (0, .ref (b + v0))] [] (by decide +kernel) rfl rfl ?_
      refine jGoto C 4 (by decide +kernel : decode cX5_allSins 23 = .ok (.goto (-19), 3)) rfl ?_
      refine jSub [2, 1, 0] rfl ?_
      exact ih x4 (v2 + 1) S2 h
theorem j_X5_allSins_4 {p : Program} {l : Launch} {e : Env} {s : State} {m : MethodId} {args : Array Value} {below : List Frame} {meth : Method} {c : Code} {b : Nat} {D : va_G} {cy : Nat → ClassId} {G : Gm} {v0 : Nat} {v1 : Int32} {v2 : Int32} {S : St} {Q : Int32 → St → Prop} (C : CX p s m args meth c b D cy cX5_allSins RX5 3 (some .int)) (hE : s.heap.size + 0 ≤ b + G.2.2) (t_v0 : ok G 4 v0) (h : f_X5_allSins_4 G v0 Q v1 v2 S) : J p l e rm_X5_allSins s m args below meth c b D cy 3 (zI b D cy below args s G Q) 0 0 G S 4 [(0, .ref (b + v0)), (1, .int v1), (2, .int v2)] [] := by
  obtain ⟨k, h⟩ := h
  exact j_X5_allSins_4_n C hE t_v0 k v1 v2 S h
set_option maxHeartbeats 4000000 in
set_option maxRecDepth 100000 in
theorem j_X5_allSins {p : Program} {l : Launch} {e : Env} {s : State} {m : MethodId} {args : Array Value} {below : List Frame} {meth : Method} {c : Code} {b : Nat} {D : va_G} {cy : Nat → ClassId} {G : Gm} {v0 : Nat} {S : St} {Q : Int32 → St → Prop} (C : CX p s m args meth c b D cy cX5_allSins RX5 3 (some .int)) (hE : s.heap.size + 0 ≤ b + G.2.2) (t_v0 : ok G 4 v0) (h : f_X5_allSins G v0 Q S) : J p l e rm_X5_allSins s m args below meth c b D cy 3 (zI b D cy below args s G Q) 0 0 G S 0 [(0, .ref (b + v0))] [] := by
  unfold f_X5_allSins at h
  refine jB C [(.iconst 0, 1, 0), (.istore_n 1, 1, 0), (.iconst 0, 1, 0), (.istore_n 2, 1, 0)] 4 [(2, .int 0), (1, .int 0), (0, .ref (b + v0))] [] (by decide +kernel) rfl rfl ?_
  refine jSub [2, 1, 0] rfl ?_
  exact j_X5_allSins_4 C hE t_v0 h
theorem ok_X5_allSins {G : Gm} {v0 : Nat} {S : St} {Q : Int32 → St → Prop}  (t_v0 : ok G 4 v0) (h : f_X5_allSins G v0 Q S) : MT yX5_allSins cX5_allSins 3 (some .int) rm_X5_allSins 0 0 (fun b => [.ref (b + v0)]) G S (QI (fun r G1 S1 => G1 = G ∧ Q r S1)) := MT.ofJ (by decide +kernel) (fun b => [(0, .ref (b + v0))]) (fun b => rfl) (fun b => Nat.le_of_ble_eq_true rfl) (fun l b D cy p e s m below meth c C hE hn => j_X5_allSins C hE t_v0 h)
theorem hd_X5_allSins : yX5_allSins.cls ≠ "java/lang/invoke/MethodHandle" ∧ yX5_allSins.cls ≠ "java/lang/invoke/VarHandle" ∧ (parseMethodDescriptor yX5_allSins.desc).map (fun d => d.parameters.length) = some 0 := by decide +kernel
abbrev rm_X10_count : Room := { frames := 3, cells := 0, slots := 0, locals := 66 }
set_option maxHeartbeats 4000000 in
set_option maxRecDepth 100000 in
theorem j_X10_count {p : Program} {l : Launch} {e : Env} {s : State} {m : MethodId} {args : Array Value} {below : List Frame} {meth : Method} {c : Code} {b : Nat} {D : va_G} {cy : Nat → ClassId} {G : Gm} {v0 : Nat} {v1 : Int32} {S : St} {Q : Int32 → St → Prop} (C : CX p s m args meth c b D cy cX10_count RX10 2 (some .int)) (hE : s.heap.size + 0 ≤ b + G.2.2) (t_v0 : ok G 9 v0) (h : f_X10_count G v0 v1 Q S) : J p l e rm_X10_count s m args below meth c b D cy 2 (zI b D cy below args s G Q) 0 0 G S 0 [(0, .ref (b + v0)), (1, .int v1)] [] := by
  unfold f_X10_count at h
  refine jB C [(.iload_n 1, 1, 0)] 1 [(0, .ref (b + v0)), (1, .int v1)] [.int v1] (by decide +kernel) rfl rfl ?_
  by_cases c25_0 : v1 = 0
  · have h := it1 h c25_0
    refine jTabIn C 64 0 (by decide +kernel : decode cX10_count 1 = .ok (.tableswitch 155 0 11 #[63, 71, 79, 87, 95, 103, 111, 118, 125, 132, 139, 147], 63)) c25_0 ⟨rfl, rfl, rfl, rfl⟩ ?_
    refine jB C [(.aload_n 0, 1, 0)] 65 [(0, .ref (b + v0)), (1, .int v1)] [.ref (b + v0)] (by decide +kernel) rfl rfl ?_
    obtain ⟨a1, e_a1, h⟩ := h
    refine jGetR C 68 (by decide +kernel : decode cX10_count 65 = .ok (.getfield 14, 3)) rfl t_v0 kX10 0 (by decide) rfl rfl (by decide) wd_311 e_a1 rfl (fun t_a1 => ?_)
    refine jGetIN C 71 (by decide +kernel : decode cX10_count 68 = .ok (.getfield 75, 3)) rfl t_a1 kX5 0 (by decide) rfl rfl (by decide) wn_37 ?_
    exact jRetI C (by decide +kernel : decode cX10_count 71 = .ok (.ireturn, 1)) (Nat.le_refl _) (Nat.le_refl _) ⟨rfl, h⟩
  · have h := it2 h c25_0
    by_cases c25_1 : v1 = 1
    · have h := it1 h c25_1
      refine jTabIn C 72 1 (by decide +kernel : decode cX10_count 1 = .ok (.tableswitch 155 0 11 #[63, 71, 79, 87, 95, 103, 111, 118, 125, 132, 139, 147], 63)) c25_1 ⟨rfl, rfl, rfl, rfl⟩ ?_
      refine jB C [(.aload_n 0, 1, 0)] 73 [(0, .ref (b + v0)), (1, .int v1)] [.ref (b + v0)] (by decide +kernel) rfl rfl ?_
      obtain ⟨a2, e_a2, h⟩ := h
      refine jGetR C 76 (by decide +kernel : decode cX10_count 73 = .ok (.getfield 14, 3)) rfl t_v0 kX10 0 (by decide) rfl rfl (by decide) wd_311 e_a2 rfl (fun t_a2 => ?_)
      refine jcVN_I C 79 (rest := []) (ok_X5_allSins t_a2 h) (by decide +kernel : decode cX10_count 76 = .ok (.invokevirtual 308, 3)) rfl wn_1116 wd_1118 wp_98 wd_2 wd_1119 ⟨rfl, rfl⟩ hd_X5_allSins ⟨Nat.le_of_ble_eq_true rfl, Nat.le_of_ble_eq_true rfl⟩ t_a2 kX5 (by decide) rfl rfl rfl (Nat.le_of_ble_eq_true rfl) ⟨Nat.zero_le _, Nat.zero_le _⟩ (fun r4 S3 h => ?_)
      exact jRetI C (by decide +kernel : decode cX10_count 79 = .ok (.ireturn, 1)) (Nat.le_refl _) (Nat.le_refl _) ⟨rfl, h⟩
    · have h := it2 h c25_1
      by_cases c25_2 : v1 = 2
      · have h := it1 h c25_2
        refine jTabIn C 80 2 (by decide +kernel : decode cX10_count 1 = .ok (.tableswitch 155 0 11 #[63, 71, 79, 87, 95, 103, 111, 118, 125, 132, 139, 147], 63)) c25_2 ⟨rfl, rfl, rfl, rfl⟩ ?_
        refine jB C [(.aload_n 0, 1, 0)] 81 [(0, .ref (b + v0)), (1, .int v1)] [.ref (b + v0)] (by decide +kernel) rfl rfl ?_
        obtain ⟨a5, e_a5, h⟩ := h
        refine jGetR C 84 (by decide +kernel : decode cX10_count 81 = .ok (.getfield 14, 3)) rfl t_v0 kX10 0 (by decide) rfl rfl (by decide) wd_311 e_a5 rfl (fun t_a5 => ?_)
        refine jGetIN C 87 (by decide +kernel : decode cX10_count 84 = .ok (.getfield 256, 3)) rfl t_a5 kX5 5 (by decide) rfl rfl (by decide) wn_48 ?_
        exact jRetI C (by decide +kernel : decode cX10_count 87 = .ok (.ireturn, 1)) (Nat.le_refl _) (Nat.le_refl _) ⟨rfl, h⟩
      · have h := it2 h c25_2
        by_cases c25_3 : v1 = 3
        · have h := it1 h c25_3
          refine jTabIn C 88 3 (by decide +kernel : decode cX10_count 1 = .ok (.tableswitch 155 0 11 #[63, 71, 79, 87, 95, 103, 111, 118, 125, 132, 139, 147], 63)) c25_3 ⟨rfl, rfl, rfl, rfl⟩ ?_
          refine jB C [(.aload_n 0, 1, 0)] 89 [(0, .ref (b + v0)), (1, .int v1)] [.ref (b + v0)] (by decide +kernel) rfl rfl ?_
          obtain ⟨a6, e_a6, h⟩ := h
          refine jGetR C 92 (by decide +kernel : decode cX10_count 89 = .ok (.getfield 14, 3)) rfl t_v0 kX10 0 (by decide) rfl rfl (by decide) wd_311 e_a6 rfl (fun t_a6 => ?_)
          refine jGetIN C 95 (by decide +kernel : decode cX10_count 92 = .ok (.getfield 190, 3)) rfl t_a6 kX5 8 (by decide) rfl rfl (by decide) wn_54 ?_
          exact jRetI C (by decide +kernel : decode cX10_count 95 = .ok (.ireturn, 1)) (Nat.le_refl _) (Nat.le_refl _) ⟨rfl, h⟩
        · have h := it2 h c25_3
          by_cases c25_4 : v1 = 4
          · have h := it1 h c25_4
            refine jTabIn C 96 4 (by decide +kernel : decode cX10_count 1 = .ok (.tableswitch 155 0 11 #[63, 71, 79, 87, 95, 103, 111, 118, 125, 132, 139, 147], 63)) c25_4 ⟨rfl, rfl, rfl, rfl⟩ ?_
            refine jB C [(.aload_n 0, 1, 0)] 97 [(0, .ref (b + v0)), (1, .int v1)] [.ref (b + v0)] (by decide +kernel) rfl rfl ?_
            obtain ⟨a7, e_a7, h⟩ := h
            refine jGetR C 100 (by decide +kernel : decode cX10_count 97 = .ok (.getfield 28, 3)) rfl t_v0 kX10 3 (by decide) rfl rfl (by decide) wd_314 e_a7 rfl (fun t_a7 => ?_)
            refine jGetIN C 103 (by decide +kernel : decode cX10_count 100 = .ok (.getfield 246, 3)) rfl t_a7 kX9 2 (by decide) rfl rfl (by decide) wn_92 ?_
            exact jRetI C (by decide +kernel : decode cX10_count 103 = .ok (.ireturn, 1)) (Nat.le_refl _) (Nat.le_refl _) ⟨rfl, h⟩
          · have h := it2 h c25_4
            by_cases c25_5 : v1 = 5
            · have h := it1 h c25_5
              refine jTabIn C 104 5 (by decide +kernel : decode cX10_count 1 = .ok (.tableswitch 155 0 11 #[63, 71, 79, 87, 95, 103, 111, 118, 125, 132, 139, 147], 63)) c25_5 ⟨rfl, rfl, rfl, rfl⟩ ?_
              refine jB C [(.aload_n 0, 1, 0)] 105 [(0, .ref (b + v0)), (1, .int v1)] [.ref (b + v0)] (by decide +kernel) rfl rfl ?_
              obtain ⟨a8, e_a8, h⟩ := h
              refine jGetR C 108 (by decide +kernel : decode cX10_count 105 = .ok (.getfield 63, 3)) rfl t_v0 kX10 8 (by decide) rfl rfl (by decide) wd_319 e_a8 rfl (fun t_a8 => ?_)
              refine jGetIN C 111 (by decide +kernel : decode cX10_count 108 = .ok (.getfield 171, 3)) rfl t_a8 kX6 1 (by decide) rfl rfl (by decide) wn_276 ?_
              exact jRetI C (by decide +kernel : decode cX10_count 111 = .ok (.ireturn, 1)) (Nat.le_refl _) (Nat.le_refl _) ⟨rfl, h⟩
            · have h := it2 h c25_5
              by_cases c25_6 : v1 = 6
              · have h := it1 h c25_6
                refine jTabIn C 112 6 (by decide +kernel : decode cX10_count 1 = .ok (.tableswitch 155 0 11 #[63, 71, 79, 87, 95, 103, 111, 118, 125, 132, 139, 147], 63)) c25_6 ⟨rfl, rfl, rfl, rfl⟩ ?_
                refine jB C [(.aload_n 0, 1, 0)] 113 [(0, .ref (b + v0)), (1, .int v1)] [.ref (b + v0)] (by decide +kernel) rfl rfl ?_
                obtain ⟨a9, e_a9, h⟩ := h
                refine jGetR C 116 (by decide +kernel : decode cX10_count 113 = .ok (.getfield 67, 3)) rfl t_v0 kX10 9 (by decide) rfl rfl (by decide) wd_320 e_a9 rfl (fun t_a9 => ?_)
                refine jB C [(.iconst 1, 1, 1)] 117 [(0, .ref (b + v0)), (1, .int v1)] [.int 1, .ref (b + a9)] (by decide +kernel) rfl rfl ?_
                obtain ⟨y10, h⟩ := h
                refine jIald C 118 (by decide +kernel : decode cX10_count 117 = .ok (.iaload, 1)) rfl t_a9 y10 ?_
                exact jRetI C (by decide +kernel : decode cX10_count 118 = .ok (.ireturn, 1)) (Nat.le_refl _) (Nat.le_refl _) ⟨rfl, h⟩
              · have h := it2 h c25_6
                by_cases c25_7 : v1 = 7
                · have h := it1 h c25_7
                  refine jTabIn C 119 7 (by decide +kernel : decode cX10_count 1 = .ok (.tableswitch 155 0 11 #[63, 71, 79, 87, 95, 103, 111, 118, 125, 132, 139, 147], 63)) c25_7 ⟨rfl, rfl, rfl, rfl⟩ ?_
                  refine jB C [(.aload_n 0, 1, 0)] 120 [(0, .ref (b + v0)), (1, .int v1)] [.ref (b + v0)] (by decide +kernel) rfl rfl ?_
                  obtain ⟨a11, e_a11, h⟩ := h
                  refine jGetR C 123 (by decide +kernel : decode cX10_count 120 = .ok (.getfield 67, 3)) rfl t_v0 kX10 9 (by decide) rfl rfl (by decide) wd_320 e_a11 rfl (fun t_a11 => ?_)
                  refine jB C [(.iconst 2, 1, 2)] 124 [(0, .ref (b + v0)), (1, .int v1)] [.int 2, .ref (b + a11)] (by decide +kernel) rfl rfl ?_
                  obtain ⟨y12, h⟩ := h
                  refine jIald C 125 (by decide +kernel : decode cX10_count 124 = .ok (.iaload, 1)) rfl t_a11 y12 ?_
                  exact jRetI C (by decide +kernel : decode cX10_count 125 = .ok (.ireturn, 1)) (Nat.le_refl _) (Nat.le_refl _) ⟨rfl, h⟩
                · have h := it2 h c25_7
                  by_cases c25_8 : v1 = 8
                  · have h := it1 h c25_8
                    refine jTabIn C 126 8 (by decide +kernel : decode cX10_count 1 = .ok (.tableswitch 155 0 11 #[63, 71, 79, 87, 95, 103, 111, 118, 125, 132, 139, 147], 63)) c25_8 ⟨rfl, rfl, rfl, rfl⟩ ?_
                    refine jB C [(.aload_n 0, 1, 0)] 127 [(0, .ref (b + v0)), (1, .int v1)] [.ref (b + v0)] (by decide +kernel) rfl rfl ?_
                    obtain ⟨a13, e_a13, h⟩ := h
                    refine jGetR C 130 (by decide +kernel : decode cX10_count 127 = .ok (.getfield 67, 3)) rfl t_v0 kX10 9 (by decide) rfl rfl (by decide) wd_320 e_a13 rfl (fun t_a13 => ?_)
                    refine jB C [(.iconst 3, 1, 3)] 131 [(0, .ref (b + v0)), (1, .int v1)] [.int 3, .ref (b + a13)] (by decide +kernel) rfl rfl ?_
                    obtain ⟨y14, h⟩ := h
                    refine jIald C 132 (by decide +kernel : decode cX10_count 131 = .ok (.iaload, 1)) rfl t_a13 y14 ?_
                    exact jRetI C (by decide +kernel : decode cX10_count 132 = .ok (.ireturn, 1)) (Nat.le_refl _) (Nat.le_refl _) ⟨rfl, h⟩
                  · have h := it2 h c25_8
                    by_cases c25_9 : v1 = 9
                    · have h := it1 h c25_9
                      refine jTabIn C 133 9 (by decide +kernel : decode cX10_count 1 = .ok (.tableswitch 155 0 11 #[63, 71, 79, 87, 95, 103, 111, 118, 125, 132, 139, 147], 63)) c25_9 ⟨rfl, rfl, rfl, rfl⟩ ?_
                      refine jB C [(.aload_n 0, 1, 0)] 134 [(0, .ref (b + v0)), (1, .int v1)] [.ref (b + v0)] (by decide +kernel) rfl rfl ?_
                      obtain ⟨a15, e_a15, h⟩ := h
                      refine jGetR C 137 (by decide +kernel : decode cX10_count 134 = .ok (.getfield 67, 3)) rfl t_v0 kX10 9 (by decide) rfl rfl (by decide) wd_320 e_a15 rfl (fun t_a15 => ?_)
                      refine jB C [(.iconst 5, 1, 5)] 138 [(0, .ref (b + v0)), (1, .int v1)] [.int 5, .ref (b + a15)] (by decide +kernel) rfl rfl ?_
                      obtain ⟨y16, h⟩ := h
                      refine jIald C 139 (by decide +kernel : decode cX10_count 138 = .ok (.iaload, 1)) rfl t_a15 y16 ?_
                      exact jRetI C (by decide +kernel : decode cX10_count 139 = .ok (.ireturn, 1)) (Nat.le_refl _) (Nat.le_refl _) ⟨rfl, h⟩
                    · have h := it2 h c25_9
                      by_cases c25_10 : v1 = 10
                      · have h := it1 h c25_10
                        refine jTabIn C 140 10 (by decide +kernel : decode cX10_count 1 = .ok (.tableswitch 155 0 11 #[63, 71, 79, 87, 95, 103, 111, 118, 125, 132, 139, 147], 63)) c25_10 ⟨rfl, rfl, rfl, rfl⟩ ?_
                        refine jB C [(.aload_n 0, 1, 0)] 141 [(0, .ref (b + v0)), (1, .int v1)] [.ref (b + v0)] (by decide +kernel) rfl rfl ?_
                        obtain ⟨a17, e_a17, h⟩ := h
                        refine jGetR C 144 (by decide +kernel : decode cX10_count 141 = .ok (.getfield 67, 3)) rfl t_v0 kX10 9 (by decide) rfl rfl (by decide) wd_320 e_a17 rfl (fun t_a17 => ?_)
                        refine jB C [(.bipush 6, 2, 6)] 146 [(0, .ref (b + v0)), (1, .int v1)] [.int 6, .ref (b + a17)] (by decide +kernel) rfl rfl ?_
                        obtain ⟨y18, h⟩ := h
                        refine jIald C 147 (by decide +kernel : decode cX10_count 146 = .ok (.iaload, 1)) rfl t_a17 y18 ?_
                        exact jRetI C (by decide +kernel : decode cX10_count 147 = .ok (.ireturn, 1)) (Nat.le_refl _) (Nat.le_refl _) ⟨rfl, h⟩
                      · have h := it2 h c25_10
                        by_cases c25_11 : v1 = 11
                        · have h := it1 h c25_11
                          refine jTabIn C 148 11 (by decide +kernel : decode cX10_count 1 = .ok (.tableswitch 155 0 11 #[63, 71, 79, 87, 95, 103, 111, 118, 125, 132, 139, 147], 63)) c25_11 ⟨rfl, rfl, rfl, rfl⟩ ?_
                          refine jB C [(.aload_n 0, 1, 0)] 149 [(0, .ref (b + v0)), (1, .int v1)] [.ref (b + v0)] (by decide +kernel) rfl rfl ?_
                          obtain ⟨a19, e_a19, h⟩ := h
                          refine jGetR C 152 (by decide +kernel : decode cX10_count 149 = .ok (.getfield 14, 3)) rfl t_v0 kX10 0 (by decide) rfl rfl (by decide) wd_311 e_a19 rfl (fun t_a19 => ?_)
                          refine jGetIN C 155 (by decide +kernel : decode cX10_count 152 = .ok (.getfield 236, 3)) rfl t_a19 kX5 10 (by decide) rfl rfl (by decide) wn_57 ?_
                          exact jRetI C (by decide +kernel : decode cX10_count 155 = .ok (.ireturn, 1)) (Nat.le_refl _) (Nat.le_refl _) ⟨rfl, h⟩
                        · have h := it2 h c25_11
                          refine jTabOut C 156 (by decide +kernel : decode cX10_count 1 = .ok (.tableswitch 155 0 11 #[63, 71, 79, 87, 95, 103, 111, 118, 125, 132, 139, 147], 63)) rfl (by have := lv_neT c25_0 (a := 0) rfl; have := lv_neT c25_1 (a := 1) rfl; have := lv_neT c25_2 (a := 2) rfl; have := lv_neT c25_3 (a := 3) rfl; have := lv_neT c25_4 (a := 4) rfl; have := lv_neT c25_5 (a := 5) rfl; have := lv_neT c25_6 (a := 6) rfl; have := lv_neT c25_7 (a := 7) rfl; have := lv_neT c25_8 (a := 8) rfl; have := lv_neT c25_9 (a := 9) rfl; have := lv_neT c25_10 (a := 10) rfl; have := lv_neT c25_11 (a := 11) rfl; omega) ?_
                          refine jB C [(.iload_n 1, 1, 0), (.bipush 12, 2, 12)] 159 [(0, .ref (b + v0)), (1, .int v1)] [.int 12, .int v1] (by decide +kernel) rfl rfl ?_
                          refine jIcmp_lt C 162 182 (by decide +kernel : decode cX10_count 159 = .ok (.if_icmp .lt 23, 3)) rfl rfl (fun c20 => ?_) (fun c20 => ?_)
                          · have h := it1 h c20
                            refine jB C [(.iconst (-1), 1, (-1))] 183 [(0, .ref (b + v0)), (1, .int v1)] [.int (-1)] (by decide +kernel) rfl rfl ?_
                            exact jRetI C (by decide +kernel : decode cX10_count 183 = .ok (.ireturn, 1)) (Nat.le_refl _) (Nat.le_refl _) ⟨rfl, h⟩
                          · have h := it2 h c20
                            refine jB C [(.iload_n 1, 1, 0), (.bipush 16, 2, 16)] 165 [(0, .ref (b + v0)), (1, .int v1)] [.int 16, .int v1] (by decide +kernel) rfl rfl ?_
                            refine jIcmp_ge C 168 182 (by decide +kernel : decode cX10_count 165 = .ok (.if_icmp .ge 17, 3)) rfl rfl (fun c21 => ?_) (fun c21 => ?_)
                            · have h := it1 h c21
                              refine jB C [(.iconst (-1), 1, (-1))] 183 [(0, .ref (b + v0)), (1, .int v1)] [.int (-1)] (by decide +kernel) rfl rfl ?_
                              exact jRetI C (by decide +kernel : decode cX10_count 183 = .ok (.ireturn, 1)) (Nat.le_refl _) (Nat.le_refl _) ⟨rfl, h⟩
                            · have h := it2 h c21
                              refine jB C [(.aload_n 0, 1, 0)] 169 [(0, .ref (b + v0)), (1, .int v1)] [.ref (b + v0)] (by decide +kernel) rfl rfl ?_
                              obtain ⟨a22, e_a22, h⟩ := h
                              refine jGetR C 172 (by decide +kernel : decode cX10_count 169 = .ok (.getfield 14, 3)) rfl t_v0 kX10 0 (by decide) rfl rfl (by decide) wd_311 e_a22 rfl (fun t_a22 => ?_)
                              refine jB C [(.iload_n 1, 1, 0), (.bipush 12, 2, 12), (.isub, 1, 0)] 176 [(0, .ref (b + v0)), (1, .int v1)] [.int (v1 - 12), .ref (b + a22)] (by decide +kernel) rfl rfl ?_
                              refine jcVN_I C 179 (rest := []) (ok_X5_termOf t_a22 h) (by decide +kernel : decode cX10_count 176 = .ok (.invokevirtual 158, 3)) rfl wn_540 wd_418 wp_11 wd_2 wd_419 ⟨rfl, rfl⟩ hd_X5_termOf ⟨Nat.le_of_ble_eq_true rfl, Nat.le_of_ble_eq_true rfl⟩ t_a22 kX5 (by decide) rfl rfl rfl (Nat.le_of_ble_eq_true rfl) ⟨Nat.zero_le _, Nat.zero_le _⟩ (fun r24 S23 h => ?_)
                              refine jGoto C 183 (by decide +kernel : decode cX10_count 179 = .ok (.goto 4, 3)) rfl ?_
                              exact jRetI C (by decide +kernel : decode cX10_count 183 = .ok (.ireturn, 1)) (Nat.le_refl _) (Nat.le_refl _) ⟨rfl, h⟩
theorem ok_X10_count {G : Gm} {v0 : Nat} {v1 : Int32} {S : St} {Q : Int32 → St → Prop}  (t_v0 : ok G 9 v0) (h : f_X10_count G v0 v1 Q S) : MT yX10_count cX10_count 2 (some .int) rm_X10_count 0 0 (fun b => [.ref (b + v0), .int v1]) G S (QI (fun r G1 S1 => G1 = G ∧ Q r S1)) := MT.ofJ (by decide +kernel) (fun b => [(0, .ref (b + v0)), (1, .int v1)]) (fun b => rfl) (fun b => Nat.le_of_ble_eq_true rfl) (fun l b D cy p e s m below meth c C hE hn => j_X10_count C hE t_v0 h)
theorem hd_X10_count : yX10_count.cls ≠ "java/lang/invoke/MethodHandle" ∧ yX10_count.cls ≠ "java/lang/invoke/VarHandle" ∧ (parseMethodDescriptor yX10_count.desc).map (fun d => d.parameters.length) = some 1 := by decide +kernel
abbrev rm_X4_spread : Room := { frames := 1, cells := 0, slots := 0, locals := 23 }
set_option maxHeartbeats 4000000 in
set_option maxRecDepth 100000 in
theorem j_X4_spread_71_n {p : Program} {l : Launch} {e : Env} {s : State} {m : MethodId} {args : Array Value} {below : List Frame} {meth : Method} {c : Code} {b : Nat} {D : va_G} {cy : Nat → ClassId} {G : Gm} {k48 : Int32 → Int32 → St → Prop} {v0 : Nat} {v3 : Int32} {v4 : Int32} {Q : St → Prop} (C : CX p s m args meth c b D cy cX4_spread RX4 7 none) (hE : s.heap.size + 0 ≤ b + G.2.2) (t_v0 : ok G 3 v0) (hk48 : ∀ v2' v3' S, k48 v2' v3' S → J p l e rm_X4_spread s m args below meth c b D cy 7 (zV b D cy below args s G Q) 0 0 G S 48 [(0, .ref (b + v0)), (2, .int (v2')), (3, .int (v3'))] []) : ∀ k (v2 : Int32) (v5 : Int32) S, f_X4_spread_71_n G k48 v0 v3 v4 Q k v2 v5 S → J p l e rm_X4_spread s m args below meth c b D cy 7 (zV b D cy below args s G Q) 0 0 G S 71 [(0, .ref (b + v0)), (2, .int v2), (3, .int v3), (4, .int v4), (5, .int v5)] [] := by
  intro k
  induction k with
  | zero => intro v2 v5 S h; exact h.elim
  | succ k ih =>
    intro v2 v5 S h
    unfold f_X4_spread_71_n at h
    refine jB C [(.iload 5, 2, 0), (.bipush 8, 2, 8)] 75 [(0, .ref (b + v0)), (2, .int v2), (3, .int v3), (4, .int v4), (5, .int v5)] [.int 8, .int v5] (by decide +kernel) rfl rfl ?_
    refine jIcmp_ge C 78 164 (by decide +kernel : decode cX4_spread 75 = .ok (.if_icmp .ge 89, 3)) rfl rfl (fun c1 => ?_) (fun c1 => ?_)
    · have h := it1 h c1
      refine jB C [(.iinc 3 1, 3, 1)] 167 [(3, .int (v3 + 1)), (0, .ref (b + v0)), (2, .int v2), (4, .int v4), (5, .int v5)] [] (by decide +kernel) rfl rfl ?_
      refine jGoto C 48 (by decide +kernel : decode cX4_spread 167 = .ok (.goto (-119), 3)) rfl ?_
      refine jSub [1, 2, 0] rfl ?_
      exact hk48 v2 (v3 + 1) S h
    · have h := it2 h c1
      refine jB C [(.iload 5, 2, 0), (.iload 4, 2, 0)] 82 [(0, .ref (b + v0)), (2, .int v2), (3, .int v3), (4, .int v4), (5, .int v5)] [.int v4, .int v5] (by decide +kernel) rfl rfl ?_
      refine jcSN_I C 85 (rest := []) (ok_X3_bend h) (by decide +kernel : decode cX4_spread 82 = .ok (.invokestatic 76, 3)) rfl wn_929 wd_424 wd_13 wd_425 ⟨rfl, rfl⟩ hd_X3_bend ⟨Nat.le_of_ble_eq_true rfl, Nat.le_of_ble_eq_true rfl⟩ rfl rfl (Nat.le_of_ble_eq_true rfl) ⟨Nat.zero_le _, Nat.zero_le _⟩ (fun r3 S2 h => ?_)
      refine jB C [(.istore 6, 2, 0), (.iload 6, 2, 0)] 89 [(6, .int r3), (0, .ref (b + v0)), (2, .int v2), (3, .int v3), (4, .int v4), (5, .int v5)] [.int r3] (by decide +kernel) rfl rfl ?_
      refine jcSN_I C 92 (rest := []) (ok_X10_isNumber h) (by decide +kernel : decode cX4_spread 89 = .ok (.invokestatic 72, 3)) rfl wn_928 wd_531 wd_1 wd_532 ⟨rfl, rfl⟩ hd_X10_isNumber ⟨Nat.le_of_ble_eq_true rfl, Nat.le_of_ble_eq_true rfl⟩ rfl rfl (Nat.le_of_ble_eq_true rfl) ⟨Nat.zero_le _, Nat.zero_le _⟩ (fun r5 S4 h => ?_)
      refine jIf_eq C 95 158 (by decide +kernel : decode cX4_spread 92 = .ok (.ifCond .eq 66, 3)) rfl rfl (fun c6 => ?_) (fun c6 => ?_)
      · have h := it1 h c6
        refine jB C [(.iinc 5 1, 3, 1)] 161 [(5, .int (v5 + 1)), (6, .int r3), (0, .ref (b + v0)), (2, .int v2), (3, .int v3), (4, .int v4)] [] (by decide +kernel) rfl rfl ?_
        refine jGoto C 71 (by decide +kernel : decode cX4_spread 161 = .ok (.goto (-90), 3)) rfl ?_
        refine jSub [2, 3, 4, 5, 0] rfl ?_
        exact ih v2 (v5 + 1) S4 h
      · have h := it2 h c6
        refine jB C [(.aload_n 0, 1, 0)] 96 [(6, .int r3), (0, .ref (b + v0)), (2, .int v2), (3, .int v3), (4, .int v4), (5, .int v5)] [.ref (b + v0)] (by decide +kernel) rfl rfl ?_
        obtain ⟨a7, e_a7, h⟩ := h
        refine jGetR C 99 (by decide +kernel : decode cX4_spread 96 = .ok (.getfield 28, 3)) rfl t_v0 kX4 4 (by decide) rfl rfl (by decide) wd_195 e_a7 rfl (fun t_a7 => ?_)
        refine jB C [(.iload 6, 2, 0)] 101 [(6, .int r3), (0, .ref (b + v0)), (2, .int v2), (3, .int v3), (4, .int v4), (5, .int v5)] [.int r3, .ref (b + a7)] (by decide +kernel) rfl rfl ?_
        obtain ⟨y8, h⟩ := h
        refine jIald C 102 (by decide +kernel : decode cX4_spread 101 = .ok (.iaload, 1)) rfl t_a7 y8 ?_
        refine jB C [(.iconst (-1), 1, (-1))] 103 [(6, .int r3), (0, .ref (b + v0)), (2, .int v2), (3, .int v3), (4, .int v4), (5, .int v5)] [.int (-1), .int (S4.1 a7 r3.toNatClampNeg)] (by decide +kernel) rfl rfl ?_
        refine jIcmp_ne C 106 158 (by decide +kernel : decode cX4_spread 103 = .ok (.if_icmp .ne 55, 3)) rfl rfl (fun c9 => ?_) (fun c9 => ?_)
        · have h := it2 h c9
          refine jB C [(.iinc 5 1, 3, 1)] 161 [(5, .int (v5 + 1)), (6, .int r3), (0, .ref (b + v0)), (2, .int v2), (3, .int v3), (4, .int v4)] [] (by decide +kernel) rfl rfl ?_
          refine jGoto C 71 (by decide +kernel : decode cX4_spread 161 = .ok (.goto (-90), 3)) rfl ?_
          refine jSub [2, 3, 4, 5, 0] rfl ?_
          exact ih v2 (v5 + 1) S4 h
        · have h := it1 h c9
          refine jB C [(.iload_n 2, 1, 0), (.sipush 256, 3, 256)] 110 [(6, .int r3), (0, .ref (b + v0)), (2, .int v2), (3, .int v3), (4, .int v4), (5, .int v5)] [.int 256, .int v2] (by decide +kernel) rfl rfl ?_
          refine jIcmp_ge C 113 158 (by decide +kernel : decode cX4_spread 110 = .ok (.if_icmp .ge 48, 3)) rfl rfl (fun c10 => ?_) (fun c10 => ?_)
          · have h := it1 h c10
            refine jB C [(.iinc 5 1, 3, 1)] 161 [(5, .int (v5 + 1)), (6, .int r3), (0, .ref (b + v0)), (2, .int v2), (3, .int v3), (4, .int v4)] [] (by decide +kernel) rfl rfl ?_
            refine jGoto C 71 (by decide +kernel : decode cX4_spread 161 = .ok (.goto (-90), 3)) rfl ?_
            refine jSub [2, 3, 4, 5, 0] rfl ?_
            exact ih v2 (v5 + 1) S4 h
          · have h := it2 h c10
            refine jB C [(.aload_n 0, 1, 0)] 114 [(6, .int r3), (0, .ref (b + v0)), (2, .int v2), (3, .int v3), (4, .int v4), (5, .int v5)] [.ref (b + v0)] (by decide +kernel) rfl rfl ?_
            obtain ⟨a11, e_a11, h⟩ := h
            refine jGetR C 117 (by decide +kernel : decode cX4_spread 114 = .ok (.getfield 28, 3)) rfl t_v0 kX4 4 (by decide) rfl rfl (by decide) wd_195 e_a11 rfl (fun t_a11 => ?_)
            refine jB C [(.iload 6, 2, 0), (.aload_n 0, 1, 0)] 120 [(6, .int r3), (0, .ref (b + v0)), (2, .int v2), (3, .int v3), (4, .int v4), (5, .int v5)] [.ref (b + v0), .int r3, .ref (b + a11)] (by decide +kernel) rfl rfl ?_
            obtain ⟨a12, e_a12, h⟩ := h
            refine jGetR C 123 (by decide +kernel : decode cX4_spread 120 = .ok (.getfield 28, 3)) rfl t_v0 kX4 4 (by decide) rfl rfl (by decide) wd_195 e_a12 rfl (fun t_a12 => ?_)
            refine jB C [(.iload 4, 2, 0)] 125 [(6, .int r3), (0, .ref (b + v0)), (2, .int v2), (3, .int v3), (4, .int v4), (5, .int v5)] [.int v4, .ref (b + a12), .int r3, .ref (b + a11)] (by decide +kernel) rfl rfl ?_
            obtain ⟨y13, h⟩ := h
            refine jIald C 126 (by decide +kernel : decode cX4_spread 125 = .ok (.iaload, 1)) rfl t_a12 y13 ?_
            refine jB C [(.iconst 1, 1, 1), (.iadd, 1, 0)] 128 [(6, .int r3), (0, .ref (b + v0)), (2, .int v2), (3, .int v3), (4, .int v4), (5, .int v5)] [.int ((S4.1 a12 v4.toNatClampNeg) + 1), .int r3, .ref (b + a11)] (by decide +kernel) rfl rfl ?_
            obtain ⟨y14, h⟩ := h
            refine jIast C 129 (by decide +kernel : decode cX4_spread 128 = .ok (.iastore, 1)) rfl hE t_a11 y14 ?_
            refine jTopS (fun S15 e_S15 => ?_)
            have h := h S15 e_S15
            refine jB C [(.aload_n 0, 1, 0)] 130 [(6, .int r3), (0, .ref (b + v0)), (2, .int v2), (3, .int v3), (4, .int v4), (5, .int v5)] [.ref (b + v0)] (by decide +kernel) rfl rfl ?_
            obtain ⟨a16, e_a16, h⟩ := h
            refine jGetR C 133 (by decide +kernel : decode cX4_spread 130 = .ok (.getfield 22, 3)) rfl t_v0 kX4 2 (by decide) rfl rfl (by decide) wd_193 e_a16 rfl (fun t_a16 => ?_)
            refine jB C [(.iload 6, 2, 0), (.iload 4, 2, 0)] 137 [(6, .int r3), (0, .ref (b + v0)), (2, .int v2), (3, .int v3), (4, .int v4), (5, .int v5)] [.int v4, .int r3, .ref (b + a16)] (by decide +kernel) rfl rfl ?_
            obtain ⟨y17, h⟩ := h
            refine jIast C 138 (by decide +kernel : decode cX4_spread 137 = .ok (.iastore, 1)) rfl hE t_a16 y17 ?_
            refine jTopS (fun S18 e_S18 => ?_)
            have h := h S18 e_S18
            refine jB C [(.aload_n 0, 1, 0)] 139 [(6, .int r3), (0, .ref (b + v0)), (2, .int v2), (3, .int v3), (4, .int v4), (5, .int v5)] [.ref (b + v0)] (by decide +kernel) rfl rfl ?_
            obtain ⟨a19, e_a19, h⟩ := h
            refine jGetR C 142 (by decide +kernel : decode cX4_spread 139 = .ok (.getfield 25, 3)) rfl t_v0 kX4 3 (by decide) rfl rfl (by decide) wd_194 e_a19 rfl (fun t_a19 => ?_)
            refine jB C [(.iload 6, 2, 0), (.iload 5, 2, 0)] 146 [(6, .int r3), (0, .ref (b + v0)), (2, .int v2), (3, .int v3), (4, .int v4), (5, .int v5)] [.int v5, .int r3, .ref (b + a19)] (by decide +kernel) rfl rfl ?_
            obtain ⟨y20, h⟩ := h
            refine jIast C 147 (by decide +kernel : decode cX4_spread 146 = .ok (.iastore, 1)) rfl hE t_a19 y20 ?_
            refine jTopS (fun S21 e_S21 => ?_)
            have h := h S21 e_S21
            refine jB C [(.aload_n 0, 1, 0)] 148 [(6, .int r3), (0, .ref (b + v0)), (2, .int v2), (3, .int v3), (4, .int v4), (5, .int v5)] [.ref (b + v0)] (by decide +kernel) rfl rfl ?_
            obtain ⟨a22, e_a22, h⟩ := h
            refine jGetR C 151 (by decide +kernel : decode cX4_spread 148 = .ok (.getfield 18, 3)) rfl t_v0 kX4 1 (by decide) rfl rfl (by decide) wd_192 e_a22 rfl (fun t_a22 => ?_)
            refine jB C [(.iload_n 2, 1, 0), (.iload 6, 2, 0)] 154 [(6, .int r3), (0, .ref (b + v0)), (2, .int v2), (3, .int v3), (4, .int v4), (5, .int v5)] [.int r3, .int v2, .ref (b + a22)] (by decide +kernel) rfl rfl ?_
            obtain ⟨y23, h⟩ := h
            refine jIast C 155 (by decide +kernel : decode cX4_spread 154 = .ok (.iastore, 1)) rfl hE t_a22 y23 ?_
            refine jTopS (fun S24 e_S24 => ?_)
            have h := h S24 e_S24
            refine jB C [(.iinc 2 1, 3, 1), (.iinc 5 1, 3, 1)] 161 [(5, .int (v5 + 1)), (2, .int (v2 + 1)), (6, .int r3), (0, .ref (b + v0)), (3, .int v3), (4, .int v4)] [] (by decide +kernel) rfl rfl ?_
            refine jGoto C 71 (by decide +kernel : decode cX4_spread 161 = .ok (.goto (-90), 3)) rfl ?_
            refine jSub [3, 1, 4, 5, 0] rfl ?_
            exact ih (v2 + 1) (v5 + 1) S24 h
theorem j_X4_spread_71 {p : Program} {l : Launch} {e : Env} {s : State} {m : MethodId} {args : Array Value} {below : List Frame} {meth : Method} {c : Code} {b : Nat} {D : va_G} {cy : Nat → ClassId} {G : Gm} {k48 : Int32 → Int32 → St → Prop} {v0 : Nat} {v3 : Int32} {v4 : Int32} {v2 : Int32} {v5 : Int32} {S : St} {Q : St → Prop} (C : CX p s m args meth c b D cy cX4_spread RX4 7 none) (hE : s.heap.size + 0 ≤ b + G.2.2) (t_v0 : ok G 3 v0) (hk48 : ∀ v2' v3' S, k48 v2' v3' S → J p l e rm_X4_spread s m args below meth c b D cy 7 (zV b D cy below args s G Q) 0 0 G S 48 [(0, .ref (b + v0)), (2, .int (v2')), (3, .int (v3'))] []) (h : f_X4_spread_71 G k48 v0 v3 v4 Q v2 v5 S) : J p l e rm_X4_spread s m args below meth c b D cy 7 (zV b D cy below args s G Q) 0 0 G S 71 [(0, .ref (b + v0)), (2, .int v2), (3, .int v3), (4, .int v4), (5, .int v5)] [] := by
  obtain ⟨k, h⟩ := h
  exact j_X4_spread_71_n C hE t_v0 hk48 k v2 v5 S h
set_option maxHeartbeats 4000000 in
set_option maxRecDepth 100000 in
theorem j_X4_spread_48_n {p : Program} {l : Launch} {e : Env} {s : State} {m : MethodId} {args : Array Value} {below : List Frame} {meth : Method} {c : Code} {b : Nat} {D : va_G} {cy : Nat → ClassId} {G : Gm} {v0 : Nat} {Q : St → Prop} (C : CX p s m args meth c b D cy cX4_spread RX4 7 none) (hE : s.heap.size + 0 ≤ b + G.2.2) (t_v0 : ok G 3 v0) : ∀ k (v2 : Int32) (v3 : Int32) S, f_X4_spread_48_n G v0 Q k v2 v3 S → J p l e rm_X4_spread s m args below meth c b D cy 7 (zV b D cy below args s G Q) 0 0 G S 48 [(0, .ref (b + v0)), (2, .int v2), (3, .int v3)] [] := by
  intro k
  induction k with
  | zero => intro v2 v3 S h; exact h.elim
  | succ k ih =>
    intro v2 v3 S h
    unfold f_X4_spread_48_n at h
    refine jB C [(.iload_n 3, 1, 0), (.iload_n 2, 1, 0)] 50 [(0, .ref (b + v0)), (2, .int v2), (3, .int v3)] [.int v2, .int v3] (by decide +kernel) rfl rfl ?_
    refine jIcmp_ge C 53 170 (by decide +kernel : decode cX4_spread 50 = .ok (.if_icmp .ge 120, 3)) rfl rfl (fun c1 => ?_) (fun c1 => ?_)
    · have h := it1 h c1
      exact jRetV C (by decide +kernel : decode cX4_spread 170 = .ok (.return_, 1)) (Nat.le_refl _) (Nat.le_refl _) ⟨rfl, h⟩
    · have h := it2 h c1
      refine jB C [(.iload_n 3, 1, 0), (.sipush 256, 3, 256)] 57 [(0, .ref (b + v0)), (2, .int v2), (3, .int v3)] [.int 256, .int v3] (by decide +kernel) rfl rfl ?_
      refine jIcmp_ge C 60 170 (by decide +kernel : decode cX4_spread 57 = .ok (.if_icmp .ge 113, 3)) rfl rfl (fun c2 => ?_) (fun c2 => ?_)
      · have h := it1 h c2
        exact jRetV C (by decide +kernel : decode cX4_spread 170 = .ok (.return_, 1)) (Nat.le_refl _) (Nat.le_refl _) ⟨rfl, h⟩
      · have h := it2 h c2
        refine jB C [(.aload_n 0, 1, 0)] 61 [(0, .ref (b + v0)), (2, .int v2), (3, .int v3)] [.ref (b + v0)] (by decide +kernel) rfl rfl ?_
        obtain ⟨a3, e_a3, h⟩ := h
        refine jGetR C 64 (by decide +kernel : decode cX4_spread 61 = .ok (.getfield 18, 3)) rfl t_v0 kX4 1 (by decide) rfl rfl (by decide) wd_192 e_a3 rfl (fun t_a3 => ?_)
        refine jB C [(.iload_n 3, 1, 0)] 65 [(0, .ref (b + v0)), (2, .int v2), (3, .int v3)] [.int v3, .ref (b + a3)] (by decide +kernel) rfl rfl ?_
        obtain ⟨y4, h⟩ := h
        refine jIald C 66 (by decide +kernel : decode cX4_spread 65 = .ok (.iaload, 1)) rfl t_a3 y4 ?_
        refine jTopI (fun x5 e_x5 => ?_)
        have h := h x5 e_x5
        refine jB C [(.istore 4, 2, 0), (.iconst 1, 1, 1), (.istore 5, 2, 0)] 71 [(5, .int 1), (4, .int x5), (0, .ref (b + v0)), (2, .int v2), (3, .int v3)] [] (by decide +kernel) rfl rfl ?_
        refine jSub [2, 3, 4, 1, 0] rfl ?_
        exact j_X4_spread_71 C hE t_v0 ih h
theorem j_X4_spread_48 {p : Program} {l : Launch} {e : Env} {s : State} {m : MethodId} {args : Array Value} {below : List Frame} {meth : Method} {c : Code} {b : Nat} {D : va_G} {cy : Nat → ClassId} {G : Gm} {v0 : Nat} {v2 : Int32} {v3 : Int32} {S : St} {Q : St → Prop} (C : CX p s m args meth c b D cy cX4_spread RX4 7 none) (hE : s.heap.size + 0 ≤ b + G.2.2) (t_v0 : ok G 3 v0) (h : f_X4_spread_48 G v0 Q v2 v3 S) : J p l e rm_X4_spread s m args below meth c b D cy 7 (zV b D cy below args s G Q) 0 0 G S 48 [(0, .ref (b + v0)), (2, .int v2), (3, .int v3)] [] := by
  obtain ⟨k, h⟩ := h
  exact j_X4_spread_48_n C hE t_v0 k v2 v3 S h
set_option maxHeartbeats 4000000 in
set_option maxRecDepth 100000 in
theorem j_X4_spread_2_n {p : Program} {l : Launch} {e : Env} {s : State} {m : MethodId} {args : Array Value} {below : List Frame} {meth : Method} {c : Code} {b : Nat} {D : va_G} {cy : Nat → ClassId} {G : Gm} {v0 : Nat} {v1 : Int32} {Q : St → Prop} (C : CX p s m args meth c b D cy cX4_spread RX4 7 none) (hE : s.heap.size + 0 ≤ b + G.2.2) (t_v0 : ok G 3 v0) : ∀ k (v2 : Int32) S, f_X4_spread_2_n G v0 v1 Q k v2 S → J p l e rm_X4_spread s m args below meth c b D cy 7 (zV b D cy below args s G Q) 0 0 G S 2 [(0, .ref (b + v0)), (1, .int v1), (2, .int v2)] [] := by
  intro k
  induction k with
  | zero => intro v2 S h; exact h.elim
  | succ k ih =>
    intro v2 S h
    unfold f_X4_spread_2_n at h
    refine jB C [(.iload_n 2, 1, 0), (.sipush 256, 3, 256)] 6 [(0, .ref (b + v0)), (1, .int v1), (2, .int v2)] [.int 256, .int v2] (by decide +kernel) rfl rfl ?_
    refine jIcmp_ge C 9 22 (by decide +kernel : decode cX4_spread 6 = .ok (.if_icmp .ge 16, 3)) rfl rfl (fun c1 => ?_) (fun c1 => ?_)
    · have h := it1 h c1
      refine jB C [(.iload_n 1, 1, 0)] 23 [(0, .ref (b + v0)), (1, .int v1), (2, .int v2)] [.int v1] (by decide +kernel) rfl rfl ?_
      refine jcSN_I C 26 (rest := []) (ok_X10_isNumber h) (by decide +kernel : decode cX4_spread 23 = .ok (.invokestatic 72, 3)) rfl wn_928 wd_531 wd_1 wd_532 ⟨rfl, rfl⟩ hd_X10_isNumber ⟨Nat.le_of_ble_eq_true rfl, Nat.le_of_ble_eq_true rfl⟩ rfl rfl (Nat.le_of_ble_eq_true rfl) ⟨Nat.zero_le _, Nat.zero_le _⟩ (fun r3 S2 h => ?_)
      refine jIf_ne C 29 30 (by decide +kernel : decode cX4_spread 26 = .ok (.ifCond .ne 4, 3)) rfl rfl (fun c4 => ?_) (fun c4 => ?_)
      · have h := it2 h c4
        refine jB C [(.aload_n 0, 1, 0)] 31 [(0, .ref (b + v0)), (1, .int v1), (2, .int v2)] [.ref (b + v0)] (by decide +kernel) rfl rfl ?_
        obtain ⟨a5, e_a5, h⟩ := h
        refine jGetR C 34 (by decide +kernel : decode cX4_spread 31 = .ok (.getfield 28, 3)) rfl t_v0 kX4 4 (by decide) rfl rfl (by decide) wd_195 e_a5 rfl (fun t_a5 => ?_)
        refine jB C [(.iload_n 1, 1, 0), (.iconst 0, 1, 0)] 36 [(0, .ref (b + v0)), (1, .int v1), (2, .int v2)] [.int 0, .int v1, .ref (b + a5)] (by decide +kernel) rfl rfl ?_
        obtain ⟨y6, h⟩ := h
        refine jIast C 37 (by decide +kernel : decode cX4_spread 36 = .ok (.iastore, 1)) rfl hE t_a5 y6 ?_
        refine jTopS (fun S7 e_S7 => ?_)
        have h := h S7 e_S7
        refine jB C [(.aload_n 0, 1, 0)] 38 [(0, .ref (b + v0)), (1, .int v1), (2, .int v2)] [.ref (b + v0)] (by decide +kernel) rfl rfl ?_
        obtain ⟨a8, e_a8, h⟩ := h
        refine jGetR C 41 (by decide +kernel : decode cX4_spread 38 = .ok (.getfield 18, 3)) rfl t_v0 kX4 1 (by decide) rfl rfl (by decide) wd_192 e_a8 rfl (fun t_a8 => ?_)
        refine jB C [(.iconst 0, 1, 0), (.iload_n 1, 1, 0)] 43 [(0, .ref (b + v0)), (1, .int v1), (2, .int v2)] [.int v1, .int 0, .ref (b + a8)] (by decide +kernel) rfl rfl ?_
        obtain ⟨y9, h⟩ := h
        refine jIast C 44 (by decide +kernel : decode cX4_spread 43 = .ok (.iastore, 1)) rfl hE t_a8 y9 ?_
        refine jTopS (fun S10 e_S10 => ?_)
        have h := h S10 e_S10
        refine jB C [(.iconst 1, 1, 1), (.istore_n 2, 1, 0), (.iconst 0, 1, 0), (.istore_n 3, 1, 0)] 48 [(3, .int 0), (2, .int 1), (0, .ref (b + v0)), (1, .int v1)] [] (by decide +kernel) rfl rfl ?_
        refine jSub [2, 1, 0] rfl ?_
        exact j_X4_spread_48 C hE t_v0 h
      · have h := it1 h c4
        exact jRetV C (by decide +kernel : decode cX4_spread 29 = .ok (.return_, 1)) (Nat.le_refl _) (Nat.le_refl _) ⟨rfl, h⟩
    · have h := it2 h c1
      refine jB C [(.aload_n 0, 1, 0)] 10 [(0, .ref (b + v0)), (1, .int v1), (2, .int v2)] [.ref (b + v0)] (by decide +kernel) rfl rfl ?_
      obtain ⟨a11, e_a11, h⟩ := h
      refine jGetR C 13 (by decide +kernel : decode cX4_spread 10 = .ok (.getfield 28, 3)) rfl t_v0 kX4 4 (by decide) rfl rfl (by decide) wd_195 e_a11 rfl (fun t_a11 => ?_)
      refine jB C [(.iload_n 2, 1, 0), (.iconst (-1), 1, (-1))] 15 [(0, .ref (b + v0)), (1, .int v1), (2, .int v2)] [.int (-1), .int v2, .ref (b + a11)] (by decide +kernel) rfl rfl ?_
      obtain ⟨y12, h⟩ := h
      refine jIast C 16 (by decide +kernel : decode cX4_spread 15 = .ok (.iastore, 1)) rfl hE t_a11 y12 ?_
      refine jTopS (fun S13 e_S13 => ?_)
      have h := h S13 e_S13
      refine jB C [(.iinc 2 1, 3, 1)] 19 [(2, .int (v2 + 1)), (0, .ref (b + v0)), (1, .int v1)] [] (by decide +kernel) rfl rfl ?_
      refine jGoto C 2 (by decide +kernel : decode cX4_spread 19 = .ok (.goto (-17), 3)) rfl ?_
      refine jSub [1, 2, 0] rfl ?_
      exact ih (v2 + 1) S13 h
theorem j_X4_spread_2 {p : Program} {l : Launch} {e : Env} {s : State} {m : MethodId} {args : Array Value} {below : List Frame} {meth : Method} {c : Code} {b : Nat} {D : va_G} {cy : Nat → ClassId} {G : Gm} {v0 : Nat} {v1 : Int32} {v2 : Int32} {S : St} {Q : St → Prop} (C : CX p s m args meth c b D cy cX4_spread RX4 7 none) (hE : s.heap.size + 0 ≤ b + G.2.2) (t_v0 : ok G 3 v0) (h : f_X4_spread_2 G v0 v1 Q v2 S) : J p l e rm_X4_spread s m args below meth c b D cy 7 (zV b D cy below args s G Q) 0 0 G S 2 [(0, .ref (b + v0)), (1, .int v1), (2, .int v2)] [] := by
  obtain ⟨k, h⟩ := h
  exact j_X4_spread_2_n C hE t_v0 k v2 S h
set_option maxHeartbeats 4000000 in
set_option maxRecDepth 100000 in
theorem j_X4_spread {p : Program} {l : Launch} {e : Env} {s : State} {m : MethodId} {args : Array Value} {below : List Frame} {meth : Method} {c : Code} {b : Nat} {D : va_G} {cy : Nat → ClassId} {G : Gm} {v0 : Nat} {v1 : Int32} {S : St} {Q : St → Prop} (C : CX p s m args meth c b D cy cX4_spread RX4 7 none) (hE : s.heap.size + 0 ≤ b + G.2.2) (t_v0 : ok G 3 v0) (h : f_X4_spread G v0 v1 Q S) : J p l e rm_X4_spread s m args below meth c b D cy 7 (zV b D cy below args s G Q) 0 0 G S 0 [(0, .ref (b + v0)), (1, .int v1)] [] := by
  unfold f_X4_spread at h
  refine jB C [(.iconst 0, 1, 0), (.istore_n 2, 1, 0)] 2 [(2, .int 0), (0, .ref (b + v0)), (1, .int v1)] [] (by decide +kernel) rfl rfl ?_
  refine jSub [1, 2, 0] rfl ?_
  exact j_X4_spread_2 C hE t_v0 h
theorem ok_X4_spread {G : Gm} {v0 : Nat} {v1 : Int32} {S : St} {Q : St → Prop}  (t_v0 : ok G 3 v0) (h : f_X4_spread G v0 v1 Q S) : MT yX4_spread cX4_spread 7 none rm_X4_spread 0 0 (fun b => [.ref (b + v0), .int v1]) G S (QV (fun G1 S1 => G1 = G ∧ Q S1)) := MT.ofJ (by decide +kernel) (fun b => [(0, .ref (b + v0)), (1, .int v1)]) (fun b => rfl) (fun b => Nat.le_of_ble_eq_true rfl) (fun l b D cy p e s m below meth c C hE hn => j_X4_spread C hE t_v0 h)
theorem hd_X4_spread : yX4_spread.cls ≠ "java/lang/invoke/MethodHandle" ∧ yX4_spread.cls ≠ "java/lang/invoke/VarHandle" ∧ (parseMethodDescriptor yX4_spread.desc).map (fun d => d.parameters.length) = some 1 := by decide +kernel
abbrev rm_X4_lensOnTheWay : Room := { frames := 1, cells := 0, slots := 0, locals := 20 }
set_option maxHeartbeats 4000000 in
set_option maxRecDepth 100000 in
theorem j_X4_lensOnTheWay_31 {p : Program} {l : Launch} {e : Env} {s : State} {m : MethodId} {args : Array Value} {below : List Frame} {meth : Method} {c : Code} {b : Nat} {D : va_G} {cy : Nat → ClassId} {G : Gm} {v0 : Nat} {v3 : Int32} {S : St} {Q : Int32 → St → Prop} (C : CX p s m args meth c b D cy cX4_lensOnTheWay RX4 5 (some .int)) (hE : s.heap.size + 0 ≤ b + G.2.2) (t_v0 : ok G 3 v0) (h : f_X4_lensOnTheWay_31 G v0 v3 Q S) : J p l e rm_X4_lensOnTheWay s m args below meth c b D cy 5 (zI b D cy below args s G Q) 0 0 G S 31 [(0, .ref (b + v0)), (3, .int v3)] [] := by
  unfold f_X4_lensOnTheWay_31 at h
  refine jB C [(.iload_n 3, 1, 0)] 32 [(0, .ref (b + v0)), (3, .int v3)] [.int v3] (by decide +kernel) rfl rfl ?_
  refine jcSN_I C 35 (rest := []) (ok_X10_isNumber h) (by decide +kernel : decode cX4_lensOnTheWay 32 = .ok (.invokestatic 72, 3)) rfl wn_928 wd_531 wd_1 wd_532 ⟨rfl, rfl⟩ hd_X10_isNumber ⟨Nat.le_of_ble_eq_true rfl, Nat.le_of_ble_eq_true rfl⟩ rfl rfl (Nat.le_of_ble_eq_true rfl) ⟨Nat.zero_le _, Nat.zero_le _⟩ (fun r2 S1 h => ?_)
  refine jIf_eq C 38 47 (by decide +kernel : decode cX4_lensOnTheWay 35 = .ok (.ifCond .eq 12, 3)) rfl rfl (fun c3 => ?_) (fun c3 => ?_)
  · have h := it1 h c3
    refine jB C [(.iconst (-1), 1, (-1))] 48 [(0, .ref (b + v0)), (3, .int v3)] [.int (-1)] (by decide +kernel) rfl rfl ?_
    exact jRetI C (by decide +kernel : decode cX4_lensOnTheWay 48 = .ok (.ireturn, 1)) (Nat.le_refl _) (Nat.le_refl _) ⟨rfl, h⟩
  · have h := it2 h c3
    refine jB C [(.aload_n 0, 1, 0)] 39 [(0, .ref (b + v0)), (3, .int v3)] [.ref (b + v0)] (by decide +kernel) rfl rfl ?_
    obtain ⟨a4, e_a4, h⟩ := h
    refine jGetR C 42 (by decide +kernel : decode cX4_lensOnTheWay 39 = .ok (.getfield 25, 3)) rfl t_v0 kX4 3 (by decide) rfl rfl (by decide) wd_194 e_a4 rfl (fun t_a4 => ?_)
    refine jB C [(.iload_n 3, 1, 0)] 43 [(0, .ref (b + v0)), (3, .int v3)] [.int v3, .ref (b + a4)] (by decide +kernel) rfl rfl ?_
    obtain ⟨y5, h⟩ := h
    refine jIald C 44 (by decide +kernel : decode cX4_lensOnTheWay 43 = .ok (.iaload, 1)) rfl t_a4 y5 ?_
    refine jGoto C 48 (by decide +kernel : decode cX4_lensOnTheWay 44 = .ok (.goto 4, 3)) rfl ?_
    exact jRetI C (by decide +kernel : decode cX4_lensOnTheWay 48 = .ok (.ireturn, 1)) (Nat.le_refl _) (Nat.le_refl _) ⟨rfl, h⟩
set_option maxHeartbeats 4000000 in
set_option maxRecDepth 100000 in
theorem j_X4_lensOnTheWay_5_n {p : Program} {l : Launch} {e : Env} {s : State} {m : MethodId} {args : Array Value} {below : List Frame} {meth : Method} {c : Code} {b : Nat} {D : va_G} {cy : Nat → ClassId} {G : Gm} {v0 : Nat} {v2 : Int32} {Q : Int32 → St → Prop} (C : CX p s m args meth c b D cy cX4_lensOnTheWay RX4 5 (some .int)) (hE : s.heap.size + 0 ≤ b + G.2.2) (t_v0 : ok G 3 v0) : ∀ k (v3 : Int32) (v4 : Int32) S, f_X4_lensOnTheWay_5_n G v0 v2 Q k v3 v4 S → J p l e rm_X4_lensOnTheWay s m args below meth c b D cy 5 (zI b D cy below args s G Q) 0 0 G S 5 [(0, .ref (b + v0)), (2, .int v2), (3, .int v3), (4, .int v4)] [] := by
  intro k
  induction k with
  | zero => intro v3 v4 S h; exact h.elim
  | succ k ih =>
    intro v3 v4 S h
    unfold f_X4_lensOnTheWay_5_n at h
    refine jB C [(.iload 4, 2, 0), (.iload_n 2, 1, 0)] 8 [(0, .ref (b + v0)), (2, .int v2), (3, .int v3), (4, .int v4)] [.int v2, .int v4] (by decide +kernel) rfl rfl ?_
    refine jIcmp_ge C 11 31 (by decide +kernel : decode cX4_lensOnTheWay 8 = .ok (.if_icmp .ge 23, 3)) rfl rfl (fun c1 => ?_) (fun c1 => ?_)
    · have h := it1 h c1
      refine jSub [0, 2] rfl ?_
      exact j_X4_lensOnTheWay_31 C hE t_v0 h
    · have h := it2 h c1
      refine jB C [(.iload_n 3, 1, 0)] 12 [(0, .ref (b + v0)), (2, .int v2), (3, .int v3), (4, .int v4)] [.int v3] (by decide +kernel) rfl rfl ?_
      refine jcSN_I C 15 (rest := []) (ok_X10_isNumber h) (by decide +kernel : decode cX4_lensOnTheWay 12 = .ok (.invokestatic 72, 3)) rfl wn_928 wd_531 wd_1 wd_532 ⟨rfl, rfl⟩ hd_X10_isNumber ⟨Nat.le_of_ble_eq_true rfl, Nat.le_of_ble_eq_true rfl⟩ rfl rfl (Nat.le_of_ble_eq_true rfl) ⟨Nat.zero_le _, Nat.zero_le _⟩ (fun r3 S2 h => ?_)
      refine jIf_eq C 18 31 (by decide +kernel : decode cX4_lensOnTheWay 15 = .ok (.ifCond .eq 16, 3)) rfl rfl (fun c4 => ?_) (fun c4 => ?_)
      · have h := it1 h c4
        refine jSub [0, 2] rfl ?_
        exact j_X4_lensOnTheWay_31 C hE t_v0 h
      · have h := it2 h c4
        refine jB C [(.aload_n 0, 1, 0)] 19 [(0, .ref (b + v0)), (2, .int v2), (3, .int v3), (4, .int v4)] [.ref (b + v0)] (by decide +kernel) rfl rfl ?_
        obtain ⟨a5, e_a5, h⟩ := h
        refine jGetR C 22 (by decide +kernel : decode cX4_lensOnTheWay 19 = .ok (.getfield 22, 3)) rfl t_v0 kX4 2 (by decide) rfl rfl (by decide) wd_193 e_a5 rfl (fun t_a5 => ?_)
        refine jB C [(.iload_n 3, 1, 0)] 23 [(0, .ref (b + v0)), (2, .int v2), (3, .int v3), (4, .int v4)] [.int v3, .ref (b + a5)] (by decide +kernel) rfl rfl ?_
        obtain ⟨y6, h⟩ := h
        refine jIald C 24 (by decide +kernel : decode cX4_lensOnTheWay 23 = .ok (.iaload, 1)) rfl t_a5 y6 ?_
        refine jTopI (fun x7 e_x7 => ?_)
        have h := h x7 e_x7
        refine jB C [(.istore_n 3, 1, 0), (.iinc 4 1, 3, 1)] 28 [(4, .int (v4 + 1)), (3, .int x7), (0, .ref (b + v0)), (2, .int v2)] [] (by decide +kernel) rfl rfl ?_
        refine jGoto C 5 (by decide +kernel : decode cX4_lensOnTheWay 28 = .ok (.goto (-23), 3)) rfl ?_
        refine jSub [2, 3, 1, 0] rfl ?_
        exact ih x7 (v4 + 1) S2 h
theorem j_X4_lensOnTheWay_5 {p : Program} {l : Launch} {e : Env} {s : State} {m : MethodId} {args : Array Value} {below : List Frame} {meth : Method} {c : Code} {b : Nat} {D : va_G} {cy : Nat → ClassId} {G : Gm} {v0 : Nat} {v2 : Int32} {v3 : Int32} {v4 : Int32} {S : St} {Q : Int32 → St → Prop} (C : CX p s m args meth c b D cy cX4_lensOnTheWay RX4 5 (some .int)) (hE : s.heap.size + 0 ≤ b + G.2.2) (t_v0 : ok G 3 v0) (h : f_X4_lensOnTheWay_5 G v0 v2 Q v3 v4 S) : J p l e rm_X4_lensOnTheWay s m args below meth c b D cy 5 (zI b D cy below args s G Q) 0 0 G S 5 [(0, .ref (b + v0)), (2, .int v2), (3, .int v3), (4, .int v4)] [] := by
  obtain ⟨k, h⟩ := h
  exact j_X4_lensOnTheWay_5_n C hE t_v0 k v3 v4 S h
set_option maxHeartbeats 4000000 in
set_option maxRecDepth 100000 in
theorem j_X4_lensOnTheWay {p : Program} {l : Launch} {e : Env} {s : State} {m : MethodId} {args : Array Value} {below : List Frame} {meth : Method} {c : Code} {b : Nat} {D : va_G} {cy : Nat → ClassId} {G : Gm} {v0 : Nat} {v1 : Int32} {v2 : Int32} {S : St} {Q : Int32 → St → Prop} (C : CX p s m args meth c b D cy cX4_lensOnTheWay RX4 5 (some .int)) (hE : s.heap.size + 0 ≤ b + G.2.2) (t_v0 : ok G 3 v0) (h : f_X4_lensOnTheWay G v0 v1 v2 Q S) : J p l e rm_X4_lensOnTheWay s m args below meth c b D cy 5 (zI b D cy below args s G Q) 0 0 G S 0 [(0, .ref (b + v0)), (1, .int v1), (2, .int v2)] [] := by
  unfold f_X4_lensOnTheWay at h
  refine jB C [(.iload_n 1, 1, 0), (.istore_n 3, 1, 0), (.iconst 0, 1, 0), (.istore 4, 2, 0)] 5 [(4, .int 0), (3, .int v1), (0, .ref (b + v0)), (1, .int v1), (2, .int v2)] [] (by decide +kernel) rfl rfl ?_
  refine jSub [2, 4, 1, 0] rfl ?_
  exact j_X4_lensOnTheWay_5 C hE t_v0 h
theorem ok_X4_lensOnTheWay {G : Gm} {v0 : Nat} {v1 : Int32} {v2 : Int32} {S : St} {Q : Int32 → St → Prop}  (t_v0 : ok G 3 v0) (h : f_X4_lensOnTheWay G v0 v1 v2 Q S) : MT yX4_lensOnTheWay cX4_lensOnTheWay 5 (some .int) rm_X4_lensOnTheWay 0 0 (fun b => [.ref (b + v0), .int v1, .int v2]) G S (QI (fun r G1 S1 => G1 = G ∧ Q r S1)) := MT.ofJ (by decide +kernel) (fun b => [(0, .ref (b + v0)), (1, .int v1), (2, .int v2)]) (fun b => rfl) (fun b => Nat.le_of_ble_eq_true rfl) (fun l b D cy p e s m below meth c C hE hn => j_X4_lensOnTheWay C hE t_v0 h)
theorem hd_X4_lensOnTheWay : yX4_lensOnTheWay.cls ≠ "java/lang/invoke/MethodHandle" ∧ yX4_lensOnTheWay.cls ≠ "java/lang/invoke/VarHandle" ∧ (parseMethodDescriptor yX4_lensOnTheWay.desc).map (fun d => d.parameters.length) = some 2 := by decide +kernel
abbrev rm_X4_cureOf : Room := { frames := 3, cells := 0, slots := 0, locals := 68 }
set_option maxHeartbeats 4000000 in
set_option maxRecDepth 100000 in
theorem j_X4_cureOf_40 {p : Program} {l : Launch} {e : Env} {s : State} {m : MethodId} {args : Array Value} {below : List Frame} {meth : Method} {c : Code} {b : Nat} {D : va_G} {cy : Nat → ClassId} {G : Gm} {v0 : Nat} {v3 : Int32} {v4 : Int32} {u0 : Int32} {S : St} {Q : Int32 → St → Prop} (C : CX p s m args meth c b D cy cX4_cureOf RX4 6 (some .int)) (hE : s.heap.size + 0 ≤ b + G.2.2) (t_v0 : ok G 3 v0) (h : f_X4_cureOf_40 G v0 v3 v4 u0 Q S) : J p l e rm_X4_cureOf s m args below meth c b D cy 6 (zI b D cy below args s G Q) 0 0 G S 40 [(0, .ref (b + v0)), (3, .int v3), (4, .int v4)] [.int u0] := by
  unfold f_X4_cureOf_40 at h
  refine jB C [(.istore 5, 2, 0), (.iload 5, 2, 0), (.iconst (-1), 1, (-1))] 45 [(5, .int u0), (0, .ref (b + v0)), (3, .int v3), (4, .int v4)] [.int (-1), .int u0] (by decide +kernel) rfl rfl ?_
  refine jIcmp_eq C 48 53 (by decide +kernel : decode cX4_cureOf 45 = .ok (.if_icmp .eq 8, 3)) rfl rfl (fun c1 => ?_) (fun c1 => ?_)
  · have h := it1 h c1
    refine jB C [(.iload 5, 2, 0)] 55 [(5, .int u0), (0, .ref (b + v0)), (3, .int v3), (4, .int v4)] [.int u0] (by decide +kernel) rfl rfl ?_
    exact jRetI C (by decide +kernel : decode cX4_cureOf 55 = .ok (.ireturn, 1)) (Nat.le_refl _) (Nat.le_refl _) ⟨rfl, h⟩
  · have h := it2 h c1
    refine jB C [(.iload_n 3, 1, 0), (.iconst (-1), 1, (-1))] 50 [(5, .int u0), (0, .ref (b + v0)), (3, .int v3), (4, .int v4)] [.int (-1), .int v3] (by decide +kernel) rfl rfl ?_
    refine jIcmp_ne C 53 56 (by decide +kernel : decode cX4_cureOf 50 = .ok (.if_icmp .ne 6, 3)) rfl rfl (fun c2 => ?_) (fun c2 => ?_)
    · have h := it2 h c2
      refine jB C [(.iload_n 3, 1, 0), (.iload 5, 2, 0)] 59 [(5, .int u0), (0, .ref (b + v0)), (3, .int v3), (4, .int v4)] [.int u0, .int v3] (by decide +kernel) rfl rfl ?_
      refine jIcmp_ge C 62 77 (by decide +kernel : decode cX4_cureOf 59 = .ok (.if_icmp .ge 18, 3)) rfl rfl (fun c3 => ?_) (fun c3 => ?_)
      · have h := it1 h c3
        refine jB C [(.iconst (-1), 1, (-1))] 78 [(5, .int u0), (0, .ref (b + v0)), (3, .int v3), (4, .int v4)] [.int (-1)] (by decide +kernel) rfl rfl ?_
        exact jRetI C (by decide +kernel : decode cX4_cureOf 78 = .ok (.ireturn, 1)) (Nat.le_refl _) (Nat.le_refl _) ⟨rfl, h⟩
      · have h := it2 h c3
        refine jB C [(.aload_n 0, 1, 0), (.iload 4, 2, 0), (.iload 5, 2, 0), (.iconst 1, 1, 1), (.isub, 1, 0), (.iload_n 3, 1, 0), (.isub, 1, 0)] 71 [(5, .int u0), (0, .ref (b + v0)), (3, .int v3), (4, .int v4)] [.int ((u0 - 1) - v3), .int v4, .ref (b + v0)] (by decide +kernel) rfl rfl ?_
        refine jcV_I C 74 (rest := []) (ok_X4_lensOnTheWay t_v0 h) (by decide +kernel : decode cX4_cureOf 71 = .ok (.invokevirtual 68, 3)) rfl wd_930 wd_932 wp_79 wd_8 wd_933 ⟨rfl, rfl⟩ hd_X4_lensOnTheWay ⟨Nat.le_of_ble_eq_true rfl, Nat.le_of_ble_eq_true rfl⟩ t_v0 kX4 (by decide) rfl rfl rfl (Nat.le_of_ble_eq_true rfl) ⟨Nat.zero_le _, Nat.zero_le _⟩ (fun r5 S4 h => ?_)
        refine jGoto C 78 (by decide +kernel : decode cX4_cureOf 74 = .ok (.goto 4, 3)) rfl ?_
        exact jRetI C (by decide +kernel : decode cX4_cureOf 78 = .ok (.ireturn, 1)) (Nat.le_refl _) (Nat.le_refl _) ⟨rfl, h⟩
    · have h := it1 h c2
      refine jB C [(.iload 5, 2, 0)] 55 [(5, .int u0), (0, .ref (b + v0)), (3, .int v3), (4, .int v4)] [.int u0] (by decide +kernel) rfl rfl ?_
      exact jRetI C (by decide +kernel : decode cX4_cureOf 55 = .ok (.ireturn, 1)) (Nat.le_refl _) (Nat.le_refl _) ⟨rfl, h⟩
set_option maxHeartbeats 4000000 in
set_option maxRecDepth 100000 in
theorem j_X4_cureOf_39 {p : Program} {l : Launch} {e : Env} {s : State} {m : MethodId} {args : Array Value} {below : List Frame} {meth : Method} {c : Code} {b : Nat} {D : va_G} {cy : Nat → ClassId} {G : Gm} {v0 : Nat} {v3 : Int32} {v4 : Int32} {S : St} {Q : Int32 → St → Prop} (C : CX p s m args meth c b D cy cX4_cureOf RX4 6 (some .int)) (hE : s.heap.size + 0 ≤ b + G.2.2) (t_v0 : ok G 3 v0) (h : f_X4_cureOf_39 G v0 v3 v4 Q S) : J p l e rm_X4_cureOf s m args below meth c b D cy 6 (zI b D cy below args s G Q) 0 0 G S 39 [(0, .ref (b + v0)), (3, .int v3), (4, .int v4)] [] := by
  unfold f_X4_cureOf_39 at h
  refine jB C [(.iconst (-1), 1, (-1))] 40 [(0, .ref (b + v0)), (3, .int v3), (4, .int v4)] [.int (-1)] (by decide +kernel) rfl rfl ?_
  refine jSub [0, 1, 2] rfl ?_
  exact j_X4_cureOf_40 C hE t_v0 h
set_option maxHeartbeats 4000000 in
set_option maxRecDepth 100000 in
theorem j_X4_cureOf {p : Program} {l : Launch} {e : Env} {s : State} {m : MethodId} {args : Array Value} {below : List Frame} {meth : Method} {c : Code} {b : Nat} {D : va_G} {cy : Nat → ClassId} {G : Gm} {v0 : Nat} {v1 : Nat} {v2 : Int32} {v3 : Int32} {S : St} {Q : Int32 → St → Prop} (C : CX p s m args meth c b D cy cX4_cureOf RX4 6 (some .int)) (hE : s.heap.size + 0 ≤ b + G.2.2) (t_v0 : ok G 3 v0) (t_v1 : ok G 4 v1) (h : f_X4_cureOf G v0 v1 v2 v3 Q S) : J p l e rm_X4_cureOf s m args below meth c b D cy 6 (zI b D cy below args s G Q) 0 0 G S 0 [(0, .ref (b + v0)), (1, .ref (b + v1)), (2, .int v2), (3, .int v3)] [] := by
  unfold f_X4_cureOf at h
  refine jB C [(.aload_n 1, 1, 0), (.iconst 3, 1, 3)] 2 [(0, .ref (b + v0)), (1, .ref (b + v1)), (2, .int v2), (3, .int v3)] [.int 3, .ref (b + v1)] (by decide +kernel) rfl rfl ?_
  refine jcVN_I C 5 (rest := []) (ok_X5_termOf t_v1 h) (by decide +kernel : decode cX4_cureOf 2 = .ok (.invokevirtual 55, 3)) rfl wn_922 wd_418 wp_11 wd_2 wd_419 ⟨rfl, rfl⟩ hd_X5_termOf ⟨Nat.le_of_ble_eq_true rfl, Nat.le_of_ble_eq_true rfl⟩ t_v1 kX5 (by decide) rfl rfl rfl (Nat.le_of_ble_eq_true rfl) ⟨Nat.zero_le _, Nat.zero_le _⟩ (fun r2 S1 h => ?_)
  refine jB C [(.istore 4, 2, 0), (.aload_n 0, 1, 0), (.aload_n 1, 1, 0), (.iload_n 2, 1, 0)] 10 [(4, .int r2), (0, .ref (b + v0)), (1, .ref (b + v1)), (2, .int v2), (3, .int v3)] [.int v2, .ref (b + v1), .ref (b + v0)] (by decide +kernel) rfl rfl ?_
  refine jcVN_I C 13 (rest := [.ref (b + v0)]) (ok_X5_sightOf t_v1 h) (by decide +kernel : decode cX4_cureOf 10 = .ok (.invokevirtual 61, 3)) rfl wn_923 wd_413 wp_10 wd_2 wd_414 ⟨rfl, rfl⟩ hd_X5_sightOf ⟨Nat.le_of_ble_eq_true rfl, Nat.le_of_ble_eq_true rfl⟩ t_v1 kX5 (by decide) rfl rfl rfl (Nat.le_of_ble_eq_true rfl) ⟨Nat.zero_le _, Nat.zero_le _⟩ (fun r4 S3 h => ?_)
  refine jcV_V C 16 (rest := []) (ok_X4_spread t_v0 h) (by decide +kernel : decode cX4_cureOf 13 = .ok (.invokevirtual 64, 3)) rfl wd_924 wd_926 wp_78 wd_8 wd_927 ⟨rfl, rfl⟩ hd_X4_spread ⟨Nat.le_of_ble_eq_true rfl, Nat.le_of_ble_eq_true rfl⟩ t_v0 kX4 (by decide) rfl rfl rfl (Nat.le_of_ble_eq_true rfl) ⟨Nat.zero_le _, Nat.zero_le _⟩ (fun S5 h => ?_)
  refine jB C [(.iload 4, 2, 0)] 18 [(4, .int r2), (0, .ref (b + v0)), (1, .ref (b + v1)), (2, .int v2), (3, .int v3)] [.int r2] (by decide +kernel) rfl rfl ?_
  refine jIf_lt C 21 39 (by decide +kernel : decode cX4_cureOf 18 = .ok (.ifCond .lt 21, 3)) rfl rfl (fun c6 => ?_) (fun c6 => ?_)
  · have h := it1 h c6
    refine jSub [1, 4, 0] rfl ?_
    exact j_X4_cureOf_39 C hE t_v0 h
  · have h := it2 h c6
    refine jB C [(.iload 4, 2, 0), (.sipush 256, 3, 256)] 26 [(4, .int r2), (0, .ref (b + v0)), (1, .ref (b + v1)), (2, .int v2), (3, .int v3)] [.int 256, .int r2] (by decide +kernel) rfl rfl ?_
    refine jIcmp_ge C 29 39 (by decide +kernel : decode cX4_cureOf 26 = .ok (.if_icmp .ge 13, 3)) rfl rfl (fun c7 => ?_) (fun c7 => ?_)
    · have h := it1 h c7
      refine jSub [1, 4, 0] rfl ?_
      exact j_X4_cureOf_39 C hE t_v0 h
    · have h := it2 h c7
      refine jB C [(.aload_n 0, 1, 0)] 30 [(4, .int r2), (0, .ref (b + v0)), (1, .ref (b + v1)), (2, .int v2), (3, .int v3)] [.ref (b + v0)] (by decide +kernel) rfl rfl ?_
      obtain ⟨a8, e_a8, h⟩ := h
      refine jGetR C 33 (by decide +kernel : decode cX4_cureOf 30 = .ok (.getfield 28, 3)) rfl t_v0 kX4 4 (by decide) rfl rfl (by decide) wd_195 e_a8 rfl (fun t_a8 => ?_)
      refine jB C [(.iload 4, 2, 0)] 35 [(4, .int r2), (0, .ref (b + v0)), (1, .ref (b + v1)), (2, .int v2), (3, .int v3)] [.int r2, .ref (b + a8)] (by decide +kernel) rfl rfl ?_
      obtain ⟨y9, h⟩ := h
      refine jIald C 36 (by decide +kernel : decode cX4_cureOf 35 = .ok (.iaload, 1)) rfl t_a8 y9 ?_
      refine jGoto C 40 (by decide +kernel : decode cX4_cureOf 36 = .ok (.goto 4, 3)) rfl ?_
      refine jSub [1, 4, 0] rfl ?_
      exact j_X4_cureOf_40 C hE t_v0 h
theorem ok_X4_cureOf {G : Gm} {v0 : Nat} {v1 : Nat} {v2 : Int32} {v3 : Int32} {S : St} {Q : Int32 → St → Prop}  (t_v0 : ok G 3 v0) (t_v1 : ok G 4 v1) (h : f_X4_cureOf G v0 v1 v2 v3 Q S) : MT yX4_cureOf cX4_cureOf 6 (some .int) rm_X4_cureOf 0 0 (fun b => [.ref (b + v0), .ref (b + v1), .int v2, .int v3]) G S (QI (fun r G1 S1 => G1 = G ∧ Q r S1)) := MT.ofJ (by decide +kernel) (fun b => [(0, .ref (b + v0)), (1, .ref (b + v1)), (2, .int v2), (3, .int v3)]) (fun b => rfl) (fun b => Nat.le_of_ble_eq_true rfl) (fun l b D cy p e s m below meth c C hE hn => j_X4_cureOf C hE t_v0 t_v1 h)
theorem hd_X4_cureOf : yX4_cureOf.cls ≠ "java/lang/invoke/MethodHandle" ∧ yX4_cureOf.cls ≠ "java/lang/invoke/VarHandle" ∧ (parseMethodDescriptor yX4_cureOf.desc).map (fun d => d.parameters.length) = some 3 := by decide +kernel
