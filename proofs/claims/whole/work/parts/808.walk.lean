abbrev rm_X8_repeatsOf : Room := { frames := 0, cells := 0, slots := 0, locals := 0 }
set_option maxHeartbeats 4000000 in
set_option maxRecDepth 100000 in
theorem j_X8_repeatsOf {p : Program} {l : Launch} {e : Env} {s : State} {m : MethodId} {args : Array Value} {below : List Frame} {meth : Method} {c : Code} {b : Nat} {D : va_G} {cy : Nat → ClassId} {G : Gm} {v0 : Nat} {v1 : Int32} {S : St} {Q : Int32 → St → Prop} (C : CX p s m args meth c b D cy cX8_repeatsOf RX8 2 (some .int)) (hE : s.heap.size + 0 ≤ b + G.2.2) (t_v0 : ok G 7 v0) (h : f_X8_repeatsOf G v0 v1 Q S) : J p l e rm_X8_repeatsOf s m args below meth c b D cy 2 (zI b D cy below args s G Q) 0 0 G S 0 [(0, .ref (b + v0)), (1, .int v1)] [] := by
  unfold f_X8_repeatsOf at h
  refine jB C [(.iload_n 1, 1, 0)] 1 [(0, .ref (b + v0)), (1, .int v1)] [.int v1] (by decide +kernel) rfl rfl ?_
  refine jIf_lt C 4 22 (by decide +kernel : decode cX8_repeatsOf 1 = .ok (.ifCond .lt 21, 3)) rfl rfl (fun c1 => ?_) (fun c1 => ?_)
  · have h := it1 h c1
    refine jB C [(.iconst 0, 1, 0)] 23 [(0, .ref (b + v0)), (1, .int v1)] [.int 0] (by decide +kernel) rfl rfl ?_
    exact jRetI C (by decide +kernel : decode cX8_repeatsOf 23 = .ok (.ireturn, 1)) (Nat.le_refl _) (Nat.le_refl _) ⟨rfl, h⟩
  · have h := it2 h c1
    refine jB C [(.iload_n 1, 1, 0), (.aload_n 0, 1, 0)] 6 [(0, .ref (b + v0)), (1, .int v1)] [.ref (b + v0), .int v1] (by decide +kernel) rfl rfl ?_
    obtain ⟨a2, e_a2, h⟩ := h
    refine jGetR C 9 (by decide +kernel : decode cX8_repeatsOf 6 = .ok (.getfield 19, 3)) rfl t_v0 kX8 1 (by decide) rfl rfl (by decide) wd_250 e_a2 rfl (fun t_a2 => ?_)
    refine jAlen11 C 10 (by decide +kernel : decode cX8_repeatsOf 9 = .ok (.arraylength, 1)) rfl t_a2 ?_
    refine jIcmp_ge C 13 22 (by decide +kernel : decode cX8_repeatsOf 10 = .ok (.if_icmp .ge 12, 3)) rfl rfl (fun c3 => ?_) (fun c3 => ?_)
    · have h := it1 h c3
      refine jB C [(.iconst 0, 1, 0)] 23 [(0, .ref (b + v0)), (1, .int v1)] [.int 0] (by decide +kernel) rfl rfl ?_
      exact jRetI C (by decide +kernel : decode cX8_repeatsOf 23 = .ok (.ireturn, 1)) (Nat.le_refl _) (Nat.le_refl _) ⟨rfl, h⟩
    · have h := it2 h c3
      refine jB C [(.aload_n 0, 1, 0)] 14 [(0, .ref (b + v0)), (1, .int v1)] [.ref (b + v0)] (by decide +kernel) rfl rfl ?_
      obtain ⟨a4, e_a4, h⟩ := h
      refine jGetR C 17 (by decide +kernel : decode cX8_repeatsOf 14 = .ok (.getfield 19, 3)) rfl t_v0 kX8 1 (by decide) rfl rfl (by decide) wd_250 e_a4 rfl (fun t_a4 => ?_)
      refine jB C [(.iload_n 1, 1, 0)] 18 [(0, .ref (b + v0)), (1, .int v1)] [.int v1, .ref (b + a4)] (by decide +kernel) rfl rfl ?_
      obtain ⟨y5, h⟩ := h
      refine jIald C 19 (by decide +kernel : decode cX8_repeatsOf 18 = .ok (.iaload, 1)) rfl t_a4 y5 ?_
      refine jGoto C 23 (by decide +kernel : decode cX8_repeatsOf 19 = .ok (.goto 4, 3)) rfl ?_
      exact jRetI C (by decide +kernel : decode cX8_repeatsOf 23 = .ok (.ireturn, 1)) (Nat.le_refl _) (Nat.le_refl _) ⟨rfl, h⟩
theorem ok_X8_repeatsOf {G : Gm} {v0 : Nat} {v1 : Int32} {S : St} {Q : Int32 → St → Prop}  (t_v0 : ok G 7 v0) (h : f_X8_repeatsOf G v0 v1 Q S) : MT yX8_repeatsOf cX8_repeatsOf 2 (some .int) rm_X8_repeatsOf 0 0 (fun b => [.ref (b + v0), .int v1]) G S (QI (fun r G1 S1 => G1 = G ∧ Q r S1)) := MT.ofJ (by decide +kernel) (fun b => [(0, .ref (b + v0)), (1, .int v1)]) (fun b => rfl) (fun b => Nat.le_of_ble_eq_true rfl) (fun l b D cy p e s m below meth c C hE hn => j_X8_repeatsOf C hE t_v0 h)
theorem hd_X8_repeatsOf : yX8_repeatsOf.cls ≠ "java/lang/invoke/MethodHandle" ∧ yX8_repeatsOf.cls ≠ "java/lang/invoke/VarHandle" ∧ (parseMethodDescriptor yX8_repeatsOf.desc).map (fun d => d.parameters.length) = some 1 := by decide +kernel
abbrev rm_X10_orders : Room := { frames := 73, cells := 0, slots := 0, locals := 2366 }
set_option maxHeartbeats 4000000 in
set_option maxRecDepth 100000 in
theorem j_X10_orders_58_n {p : Program} {l : Launch} {e : Env} {s : State} {m : MethodId} {args : Array Value} {below : List Frame} {meth : Method} {c : Code} {b : Nat} {D : va_G} {cy : Nat → ClassId} {G : Gm} {k48 : Int32 → St → Prop} {v0 : Nat} {v1 : Nat} {v2 : Int32} {Q : Int32 → St → Prop} (C : CX p s m args meth c b D cy cX10_orders RX10 4 (some .int)) (hE : s.heap.size + 0 ≤ b + G.2.2) (t_v0 : ok G 9 v0) (t_v1 : ok G 7 v1) (hk48 : ∀ v2' S, k48 v2' S → J p l e rm_X10_orders s m args below meth c b D cy 4 (zI b D cy below args s G Q) 0 0 G S 48 [(0, .ref (b + v0)), (1, .ref (b + v1)), (2, .int (v2'))] []) : ∀ k (v3 : Int32) S, f_X10_orders_58_n G k48 v0 v1 v2 Q k v3 S → J p l e rm_X10_orders s m args below meth c b D cy 4 (zI b D cy below args s G Q) 0 0 G S 58 [(0, .ref (b + v0)), (1, .ref (b + v1)), (2, .int v2), (3, .int v3)] [] := by
  intro k
  induction k with
  | zero => intro v3 S h; exact h.elim
  | succ k ih =>
    intro v3 S h
    unfold f_X10_orders_58_n at h
    refine jB C [(.iload_n 3, 1, 0), (.aload_n 1, 1, 0), (.iload_n 2, 1, 0)] 61 [(0, .ref (b + v0)), (1, .ref (b + v1)), (2, .int v2), (3, .int v3)] [.int v2, .ref (b + v1), .int v3] (by decide +kernel) rfl rfl ?_
    refine jcVN_I C 64 (rest := [.int v3]) (ok_X8_repeatsOf t_v1 h) (by decide +kernel : decode cX10_orders 61 = .ok (.invokevirtual 217, 3)) rfl wn_790 wd_792 wp_65 wd_10 wd_793 ⟨rfl, rfl⟩ hd_X8_repeatsOf ⟨Nat.le_of_ble_eq_true rfl, Nat.le_of_ble_eq_true rfl⟩ t_v1 kX8 (by decide) rfl rfl rfl (Nat.le_of_ble_eq_true rfl) ⟨Nat.zero_le _, Nat.zero_le _⟩ (fun r2 S1 h => ?_)
    refine jIcmp_ge C 67 120 (by decide +kernel : decode cX10_orders 64 = .ok (.if_icmp .ge 56, 3)) rfl rfl (fun c3 => ?_) (fun c3 => ?_)
    · have h := it1 h c3
      refine jB C [(.iinc 2 1, 3, 1)] 123 [(2, .int (v2 + 1)), (0, .ref (b + v0)), (1, .ref (b + v1)), (3, .int v3)] [] (by decide +kernel) rfl rfl ?_
      refine jGoto C 48 (by decide +kernel : decode cX10_orders 123 = .ok (.goto (-75), 3)) rfl ?_
      refine jSub [1, 2, 0] rfl ?_
      exact hk48 (v2 + 1) S1 h
    · have h := it2 h c3
      refine jB C [(.aload_n 0, 1, 0)] 68 [(0, .ref (b + v0)), (1, .ref (b + v1)), (2, .int v2), (3, .int v3)] [.ref (b + v0)] (by decide +kernel) rfl rfl ?_
      obtain ⟨a4, e_a4, h⟩ := h
      refine jGetR C 71 (by decide +kernel : decode cX10_orders 68 = .ok (.getfield 49, 3)) rfl t_v0 kX10 6 (by decide) rfl rfl (by decide) wd_317 e_a4 rfl (fun t_a4 => ?_)
      refine jB C [(.aload_n 1, 1, 0), (.iload_n 2, 1, 0), (.aload_n 0, 1, 0)] 74 [(0, .ref (b + v0)), (1, .ref (b + v1)), (2, .int v2), (3, .int v3)] [.ref (b + v0), .int v2, .ref (b + v1), .ref (b + a4)] (by decide +kernel) rfl rfl ?_
      obtain ⟨a5, e_a5, h⟩ := h
      refine jGetR C 77 (by decide +kernel : decode cX10_orders 74 = .ok (.getfield 14, 3)) rfl t_v0 kX10 0 (by decide) rfl rfl (by decide) wd_311 e_a5 rfl (fun t_a5 => ?_)
      refine jB C [(.aload_n 0, 1, 0)] 78 [(0, .ref (b + v0)), (1, .ref (b + v1)), (2, .int v2), (3, .int v3)] [.ref (b + v0), .ref (b + a5), .int v2, .ref (b + v1), .ref (b + a4)] (by decide +kernel) rfl rfl ?_
      obtain ⟨a6, e_a6, h⟩ := h
      refine jGetR C 81 (by decide +kernel : decode cX10_orders 78 = .ok (.getfield 28, 3)) rfl t_v0 kX10 3 (by decide) rfl rfl (by decide) wd_314 e_a6 rfl (fun t_a6 => ?_)
      refine jcVN_I C 84 (rest := []) (ok_X0_runOnce t_a4 t_v1 t_a5 t_a6 h) (by decide +kernel : decode cX10_orders 81 = .ok (.invokevirtual 220, 3)) rfl wn_794 wd_796 wp_66 wd_7 wd_797 ⟨rfl, rfl⟩ hd_X0_runOnce ⟨Nat.le_of_ble_eq_true rfl, Nat.le_of_ble_eq_true rfl⟩ t_a4 kX0 (by decide) rfl rfl rfl (Nat.le_of_ble_eq_true rfl) ⟨Nat.zero_le _, Nat.zero_le _⟩ (fun r8 S7 h => ?_)
      refine jIf_ne C 87 114 (by decide +kernel : decode cX10_orders 84 = .ok (.ifCond .ne 30, 3)) rfl rfl (fun c9 => ?_) (fun c9 => ?_)
      · have h := it2 h c9
        refine jB C [(.iinc 3 1, 3, 1)] 117 [(3, .int (v3 + 1)), (0, .ref (b + v0)), (1, .ref (b + v1)), (2, .int v2)] [] (by decide +kernel) rfl rfl ?_
        refine jGoto C 58 (by decide +kernel : decode cX10_orders 117 = .ok (.goto (-59), 3)) rfl ?_
        refine jSub [1, 2, 3, 0] rfl ?_
        exact ih (v3 + 1) S7 h
      · have h := it1 h c9
        refine jB C [(.aload_n 0, 1, 0)] 88 [(0, .ref (b + v0)), (1, .ref (b + v1)), (2, .int v2), (3, .int v3)] [.ref (b + v0)] (by decide +kernel) rfl rfl ?_
        obtain ⟨a10, e_a10, h⟩ := h
        refine jGetR C 91 (by decide +kernel : decode cX10_orders 88 = .ok (.getfield 49, 3)) rfl t_v0 kX10 6 (by decide) rfl rfl (by decide) wd_317 e_a10 rfl (fun t_a10 => ?_)
        refine jB C [(.aload_n 0, 1, 0)] 92 [(0, .ref (b + v0)), (1, .ref (b + v1)), (2, .int v2), (3, .int v3)] [.ref (b + v0), .ref (b + a10)] (by decide +kernel) rfl rfl ?_
        obtain ⟨a11, e_a11, h⟩ := h
        refine jGetR C 95 (by decide +kernel : decode cX10_orders 92 = .ok (.getfield 14, 3)) rfl t_v0 kX10 0 (by decide) rfl rfl (by decide) wd_311 e_a11 rfl (fun t_a11 => ?_)
        refine jB C [(.aload_n 0, 1, 0)] 96 [(0, .ref (b + v0)), (1, .ref (b + v1)), (2, .int v2), (3, .int v3)] [.ref (b + v0), .ref (b + a11), .ref (b + a10)] (by decide +kernel) rfl rfl ?_
        obtain ⟨a12, e_a12, h⟩ := h
        refine jGetR C 99 (by decide +kernel : decode cX10_orders 96 = .ok (.getfield 28, 3)) rfl t_v0 kX10 3 (by decide) rfl rfl (by decide) wd_314 e_a12 rfl (fun t_a12 => ?_)
        refine jcVN_V C 102 (rest := []) (ok_X0_takeBack t_a10 t_a11 t_a12 h) (by decide +kernel : decode cX10_orders 99 = .ok (.invokevirtual 224, 3)) rfl wn_862 wd_864 wp_74 wd_7 wd_865 ⟨rfl, rfl⟩ hd_X0_takeBack ⟨Nat.le_of_ble_eq_true rfl, Nat.le_of_ble_eq_true rfl⟩ t_a10 kX0 (by decide) rfl rfl rfl (Nat.le_of_ble_eq_true rfl) ⟨Nat.zero_le _, Nat.zero_le _⟩ (fun S13 h => ?_)
        refine jB C [(.aload_n 0, 1, 0), (.iload_n 2, 1, 0)] 104 [(0, .ref (b + v0)), (1, .ref (b + v1)), (2, .int v2), (3, .int v3)] [.int v2, .ref (b + v0)] (by decide +kernel) rfl rfl ?_
        refine jPutI C 107 (by decide +kernel : decode cX10_orders 104 = .ok (.putfield 71, 3)) rfl hE t_v0 kX10 12 (by decide) rfl rfl (by decide) rfl wd_323 rfl rfl rfl ?_
        refine jTopS (fun S14 e_S14 => ?_)
        have h := h S14 e_S14
        refine jB C [(.aload_n 0, 1, 0), (.bipush (-3), 2, (-3))] 110 [(0, .ref (b + v0)), (1, .ref (b + v1)), (2, .int v2), (3, .int v3)] [.int (-3), .ref (b + v0)] (by decide +kernel) rfl rfl ?_
        refine jcV_I C 113 (rest := []) (ok_X10_refuse t_v0 h) (by decide +kernel : decode cX10_orders 110 = .ok (.invokevirtual 78, 3)) rfl wd_355 wd_357 wp_0 wd_1 wd_358 ⟨rfl, rfl⟩ hd_X10_refuse ⟨Nat.le_of_ble_eq_true rfl, Nat.le_of_ble_eq_true rfl⟩ t_v0 kX10 (by decide) rfl rfl rfl (Nat.le_of_ble_eq_true rfl) ⟨Nat.zero_le _, Nat.zero_le _⟩ (fun r16 S15 h => ?_)
        exact jRetI C (by decide +kernel : decode cX10_orders 113 = .ok (.ireturn, 1)) (Nat.le_refl _) (Nat.le_refl _) ⟨rfl, h⟩
theorem j_X10_orders_58 {p : Program} {l : Launch} {e : Env} {s : State} {m : MethodId} {args : Array Value} {below : List Frame} {meth : Method} {c : Code} {b : Nat} {D : va_G} {cy : Nat → ClassId} {G : Gm} {k48 : Int32 → St → Prop} {v0 : Nat} {v1 : Nat} {v2 : Int32} {v3 : Int32} {S : St} {Q : Int32 → St → Prop} (C : CX p s m args meth c b D cy cX10_orders RX10 4 (some .int)) (hE : s.heap.size + 0 ≤ b + G.2.2) (t_v0 : ok G 9 v0) (t_v1 : ok G 7 v1) (hk48 : ∀ v2' S, k48 v2' S → J p l e rm_X10_orders s m args below meth c b D cy 4 (zI b D cy below args s G Q) 0 0 G S 48 [(0, .ref (b + v0)), (1, .ref (b + v1)), (2, .int (v2'))] []) (h : f_X10_orders_58 G k48 v0 v1 v2 Q v3 S) : J p l e rm_X10_orders s m args below meth c b D cy 4 (zI b D cy below args s G Q) 0 0 G S 58 [(0, .ref (b + v0)), (1, .ref (b + v1)), (2, .int v2), (3, .int v3)] [] := by
  obtain ⟨k, h⟩ := h
  exact j_X10_orders_58_n C hE t_v0 t_v1 hk48 k v3 S h
set_option maxHeartbeats 4000000 in
set_option maxRecDepth 100000 in
theorem j_X10_orders_48_n {p : Program} {l : Launch} {e : Env} {s : State} {m : MethodId} {args : Array Value} {below : List Frame} {meth : Method} {c : Code} {b : Nat} {D : va_G} {cy : Nat → ClassId} {G : Gm} {v0 : Nat} {v1 : Nat} {Q : Int32 → St → Prop} (C : CX p s m args meth c b D cy cX10_orders RX10 4 (some .int)) (hE : s.heap.size + 0 ≤ b + G.2.2) (t_v0 : ok G 9 v0) (t_v1 : ok G 7 v1) : ∀ k (v2 : Int32) S, f_X10_orders_48_n G v0 v1 Q k v2 S → J p l e rm_X10_orders s m args below meth c b D cy 4 (zI b D cy below args s G Q) 0 0 G S 48 [(0, .ref (b + v0)), (1, .ref (b + v1)), (2, .int v2)] [] := by
  intro k
  induction k with
  | zero => intro v2 S h; exact h.elim
  | succ k ih =>
    intro v2 S h
    unfold f_X10_orders_48_n at h
    refine jB C [(.iload_n 2, 1, 0), (.aload_n 1, 1, 0)] 50 [(0, .ref (b + v0)), (1, .ref (b + v1)), (2, .int v2)] [.ref (b + v1), .int v2] (by decide +kernel) rfl rfl ?_
    refine jGetIN C 53 (by decide +kernel : decode cX10_orders 50 = .ok (.getfield 214, 3)) rfl t_v1 kX8 5 (by decide) rfl rfl (by decide) wn_257 ?_
    refine jIcmp_ge C 56 126 (by decide +kernel : decode cX10_orders 53 = .ok (.if_icmp .ge 73, 3)) rfl rfl (fun c1 => ?_) (fun c1 => ?_)
    · have h := it1 h c1
      refine jB C [(.aload_n 0, 1, 0), (.aload_n 0, 1, 0)] 128 [(0, .ref (b + v0)), (1, .ref (b + v1)), (2, .int v2)] [.ref (b + v0), .ref (b + v0)] (by decide +kernel) rfl rfl ?_
      obtain ⟨a2, e_a2, h⟩ := h
      refine jGetR C 131 (by decide +kernel : decode cX10_orders 128 = .ok (.getfield 49, 3)) rfl t_v0 kX10 6 (by decide) rfl rfl (by decide) wd_317 e_a2 rfl (fun t_a2 => ?_)
      refine jGetIN C 134 (by decide +kernel : decode cX10_orders 131 = .ok (.getfield 227, 3)) rfl t_a2 kX0 6 (by decide) rfl rfl (by decide) wn_162 ?_
      refine jcV_I C 137 (rest := []) (ok_X10_accept t_v0 h) (by decide +kernel : decode cX10_orders 134 = .ok (.invokevirtual 89, 3)) rfl wd_387 wd_389 wp_7 wd_1 wd_390 ⟨rfl, rfl⟩ hd_X10_accept ⟨Nat.le_of_ble_eq_true rfl, Nat.le_of_ble_eq_true rfl⟩ t_v0 kX10 (by decide) rfl rfl rfl (Nat.le_of_ble_eq_true rfl) ⟨Nat.zero_le _, Nat.zero_le _⟩ (fun r4 S3 h => ?_)
      exact jRetI C (by decide +kernel : decode cX10_orders 137 = .ok (.ireturn, 1)) (Nat.le_refl _) (Nat.le_refl _) ⟨rfl, h⟩
    · have h := it2 h c1
      refine jB C [(.iconst 0, 1, 0), (.istore_n 3, 1, 0)] 58 [(3, .int 0), (0, .ref (b + v0)), (1, .ref (b + v1)), (2, .int v2)] [] (by decide +kernel) rfl rfl ?_
      refine jSub [1, 2, 3, 0] rfl ?_
      exact j_X10_orders_58 C hE t_v0 t_v1 ih h
theorem j_X10_orders_48 {p : Program} {l : Launch} {e : Env} {s : State} {m : MethodId} {args : Array Value} {below : List Frame} {meth : Method} {c : Code} {b : Nat} {D : va_G} {cy : Nat → ClassId} {G : Gm} {v0 : Nat} {v1 : Nat} {v2 : Int32} {S : St} {Q : Int32 → St → Prop} (C : CX p s m args meth c b D cy cX10_orders RX10 4 (some .int)) (hE : s.heap.size + 0 ≤ b + G.2.2) (t_v0 : ok G 9 v0) (t_v1 : ok G 7 v1) (h : f_X10_orders_48 G v0 v1 Q v2 S) : J p l e rm_X10_orders s m args below meth c b D cy 4 (zI b D cy below args s G Q) 0 0 G S 48 [(0, .ref (b + v0)), (1, .ref (b + v1)), (2, .int v2)] [] := by
  obtain ⟨k, h⟩ := h
  exact j_X10_orders_48_n C hE t_v0 t_v1 k v2 S h
set_option maxHeartbeats 4000000 in
set_option maxRecDepth 100000 in
theorem j_X10_orders {p : Program} {l : Launch} {e : Env} {s : State} {m : MethodId} {args : Array Value} {below : List Frame} {meth : Method} {c : Code} {b : Nat} {D : va_G} {cy : Nat → ClassId} {G : Gm} {v0 : Nat} {S : St} {Q : Int32 → St → Prop} (C : CX p s m args meth c b D cy cX10_orders RX10 4 (some .int)) (hE : s.heap.size + 0 ≤ b + G.2.2) (t_v0 : ok G 9 v0) (h : f_X10_orders G v0 Q S) : J p l e rm_X10_orders s m args below meth c b D cy 4 (zI b D cy below args s G Q) 0 0 G S 0 [(0, .ref (b + v0))] [] := by
  unfold f_X10_orders at h
  refine jB C [(.aload_n 0, 1, 0), (.iconst (-1), 1, (-1))] 2 [(0, .ref (b + v0))] [.int (-1), .ref (b + v0)] (by decide +kernel) rfl rfl ?_
  refine jPutI C 5 (by decide +kernel : decode cX10_orders 2 = .ok (.putfield 71, 3)) rfl hE t_v0 kX10 12 (by decide) rfl rfl (by decide) rfl wd_323 rfl rfl rfl ?_
  refine jTopS (fun S1 e_S1 => ?_)
  have h := h S1 e_S1
  refine jB C [(.aload_n 0, 1, 0)] 6 [(0, .ref (b + v0))] [.ref (b + v0)] (by decide +kernel) rfl rfl ?_
  obtain ⟨a2, e_a2, h⟩ := h
  refine jGetR C 9 (by decide +kernel : decode cX10_orders 6 = .ok (.getfield 63, 3)) rfl t_v0 kX10 8 (by decide) rfl rfl (by decide) wd_319 e_a2 rfl (fun t_a2 => ?_)
  refine jB C [(.iconst 0, 1, 0)] 10 [(0, .ref (b + v0))] [.int 0, .ref (b + a2)] (by decide +kernel) rfl rfl ?_
  refine jcVN_I C 13 (rest := []) (ok_X6_reads t_a2 h) (by decide +kernel : decode cX10_orders 10 = .ok (.invokevirtual 193, 3)) rfl wn_587 wd_589 wp_33 wd_9 wd_590 ⟨rfl, rfl⟩ hd_X6_reads ⟨Nat.le_of_ble_eq_true rfl, Nat.le_of_ble_eq_true rfl⟩ t_a2 kX6 (by decide) rfl rfl rfl (Nat.le_of_ble_eq_true rfl) ⟨Nat.zero_le _, Nat.zero_le _⟩ (fun r4 S3 h => ?_)
  refine jIf_ne C 16 23 (by decide +kernel : decode cX10_orders 13 = .ok (.ifCond .ne 10, 3)) rfl rfl (fun c5 => ?_) (fun c5 => ?_)
  · have h := it2 h c5
    refine jB C [(.aload_n 0, 1, 0)] 24 [(0, .ref (b + v0))] [.ref (b + v0)] (by decide +kernel) rfl rfl ?_
    obtain ⟨a6, e_a6, h⟩ := h
    refine jGetR C 27 (by decide +kernel : decode cX10_orders 24 = .ok (.getfield 49, 3)) rfl t_v0 kX10 6 (by decide) rfl rfl (by decide) wd_317 e_a6 rfl (fun t_a6 => ?_)
    refine jB C [(.aload_n 0, 1, 0)] 28 [(0, .ref (b + v0))] [.ref (b + v0), .ref (b + a6)] (by decide +kernel) rfl rfl ?_
    obtain ⟨a7, e_a7, h⟩ := h
    refine jGetR C 31 (by decide +kernel : decode cX10_orders 28 = .ok (.getfield 14, 3)) rfl t_v0 kX10 0 (by decide) rfl rfl (by decide) wd_311 e_a7 rfl (fun t_a7 => ?_)
    refine jB C [(.aload_n 0, 1, 0)] 32 [(0, .ref (b + v0))] [.ref (b + v0), .ref (b + a7), .ref (b + a6)] (by decide +kernel) rfl rfl ?_
    obtain ⟨a8, e_a8, h⟩ := h
    refine jGetR C 35 (by decide +kernel : decode cX10_orders 32 = .ok (.getfield 28, 3)) rfl t_v0 kX10 3 (by decide) rfl rfl (by decide) wd_314 e_a8 rfl (fun t_a8 => ?_)
    refine jcVN_V C 38 (rest := []) (ok_X0_begin t_a6 t_a7 t_a8 h) (by decide +kernel : decode cX10_orders 35 = .ok (.invokevirtual 210, 3)) rfl wn_776 wd_778 wp_62 wd_7 wd_779 ⟨rfl, rfl⟩ hd_X0_begin ⟨Nat.le_of_ble_eq_true rfl, Nat.le_of_ble_eq_true rfl⟩ t_a6 kX0 (by decide) rfl rfl rfl (Nat.le_of_ble_eq_true rfl) ⟨Nat.zero_le _, Nat.zero_le _⟩ (fun S9 h => ?_)
    refine jB C [(.aload_n 0, 1, 0)] 39 [(0, .ref (b + v0))] [.ref (b + v0)] (by decide +kernel) rfl rfl ?_
    obtain ⟨a10, e_a10, h⟩ := h
    refine jGetR C 42 (by decide +kernel : decode cX10_orders 39 = .ok (.getfield 63, 3)) rfl t_v0 kX10 8 (by decide) rfl rfl (by decide) wd_319 e_a10 rfl (fun t_a10 => ?_)
    obtain ⟨a11, e_a11, h⟩ := h
    refine jGetRN C 45 (by decide +kernel : decode cX10_orders 42 = .ok (.getfield 197, 3)) rfl t_a10 kX6 10 (by decide) rfl rfl (by decide) wn_287 e_a11 rfl (fun t_a11 => ?_)
    refine jB C [(.astore_n 1, 1, 0), (.iconst 0, 1, 0), (.istore_n 2, 1, 0)] 48 [(2, .int 0), (1, .ref (b + a11)), (0, .ref (b + v0))] [] (by decide +kernel) rfl rfl ?_
    refine jSub [2, 1, 0] rfl ?_
    exact j_X10_orders_48 C hE t_v0 t_a11 h
  · have h := it1 h c5
    refine jB C [(.aload_n 0, 1, 0), (.bipush (-6), 2, (-6))] 19 [(0, .ref (b + v0))] [.int (-6), .ref (b + v0)] (by decide +kernel) rfl rfl ?_
    refine jcV_I C 22 (rest := []) (ok_X10_refuse t_v0 h) (by decide +kernel : decode cX10_orders 19 = .ok (.invokevirtual 78, 3)) rfl wd_355 wd_357 wp_0 wd_1 wd_358 ⟨rfl, rfl⟩ hd_X10_refuse ⟨Nat.le_of_ble_eq_true rfl, Nat.le_of_ble_eq_true rfl⟩ t_v0 kX10 (by decide) rfl rfl rfl (Nat.le_of_ble_eq_true rfl) ⟨Nat.zero_le _, Nat.zero_le _⟩ (fun r13 S12 h => ?_)
    exact jRetI C (by decide +kernel : decode cX10_orders 22 = .ok (.ireturn, 1)) (Nat.le_refl _) (Nat.le_refl _) ⟨rfl, h⟩
theorem ok_X10_orders {G : Gm} {v0 : Nat} {S : St} {Q : Int32 → St → Prop}  (t_v0 : ok G 9 v0) (h : f_X10_orders G v0 Q S) : MT yX10_orders cX10_orders 4 (some .int) rm_X10_orders 0 0 (fun b => [.ref (b + v0)]) G S (QI (fun r G1 S1 => G1 = G ∧ Q r S1)) := MT.ofJ (by decide +kernel) (fun b => [(0, .ref (b + v0))]) (fun b => rfl) (fun b => Nat.le_of_ble_eq_true rfl) (fun l b D cy p e s m below meth c C hE hn => j_X10_orders C hE t_v0 h)
theorem hd_X10_orders : yX10_orders.cls ≠ "java/lang/invoke/MethodHandle" ∧ yX10_orders.cls ≠ "java/lang/invoke/VarHandle" ∧ (parseMethodDescriptor yX10_orders.desc).map (fun d => d.parameters.length) = some 0 := by decide +kernel
abbrev rm_X10_pass : Room := { frames := 6, cells := 0, slots := 0, locals := 160 }
set_option maxHeartbeats 4000000 in
set_option maxRecDepth 100000 in
theorem j_X10_pass {p : Program} {l : Launch} {e : Env} {s : State} {m : MethodId} {args : Array Value} {below : List Frame} {meth : Method} {c : Code} {b : Nat} {D : va_G} {cy : Nat → ClassId} {G : Gm} {v0 : Nat} {S : St} {Q : Int32 → St → Prop} (C : CX p s m args meth c b D cy cX10_pass RX10 1 (some .int)) (hE : s.heap.size + 0 ≤ b + G.2.2) (t_v0 : ok G 9 v0) (h : f_X10_pass G v0 Q S) : J p l e rm_X10_pass s m args below meth c b D cy 1 (zI b D cy below args s G Q) 0 0 G S 0 [(0, .ref (b + v0))] [] := by
  unfold f_X10_pass at h
  refine jB C [(.aload_n 0, 1, 0), (.aload_n 0, 1, 0)] 2 [(0, .ref (b + v0))] [.ref (b + v0), .ref (b + v0)] (by decide +kernel) rfl rfl ?_
  obtain ⟨a1, e_a1, h⟩ := h
  refine jGetR C 5 (by decide +kernel : decode cX10_pass 2 = .ok (.getfield 42, 3)) rfl t_v0 kX10 5 (by decide) rfl rfl (by decide) wd_316 e_a1 rfl (fun t_a1 => ?_)
  refine jB C [(.aload_n 0, 1, 0)] 6 [(0, .ref (b + v0))] [.ref (b + v0), .ref (b + a1), .ref (b + v0)] (by decide +kernel) rfl rfl ?_
  obtain ⟨a2, e_a2, h⟩ := h
  refine jGetR C 9 (by decide +kernel : decode cX10_pass 6 = .ok (.getfield 14, 3)) rfl t_v0 kX10 0 (by decide) rfl rfl (by decide) wd_311 e_a2 rfl (fun t_a2 => ?_)
  refine jB C [(.aload_n 0, 1, 0)] 10 [(0, .ref (b + v0))] [.ref (b + v0), .ref (b + a2), .ref (b + a1), .ref (b + v0)] (by decide +kernel) rfl rfl ?_
  obtain ⟨a3, e_a3, h⟩ := h
  refine jGetR C 13 (by decide +kernel : decode cX10_pass 10 = .ok (.getfield 28, 3)) rfl t_v0 kX10 3 (by decide) rfl rfl (by decide) wd_314 e_a3 rfl (fun t_a3 => ?_)
  refine jB C [(.iconst 4, 1, 4), (.iconst 0, 1, 0), (.iconst 0, 1, 0), (.iconst 0, 1, 0)] 17 [(0, .ref (b + v0))] [.int 0, .int 0, .int 0, .int 4, .ref (b + a3), .ref (b + a2), .ref (b + a1), .ref (b + v0)] (by decide +kernel) rfl rfl ?_
  refine jcVN_I C 20 (rest := [.ref (b + v0)]) (ok_X1_act t_a1 t_a2 t_a3 h) (by decide +kernel : decode cX10_pass 17 = .ok (.invokevirtual 239, 3)) rfl wn_883 wd_817 wp_69 wd_6 wd_818 ⟨rfl, rfl⟩ hd_X1_act ⟨Nat.le_of_ble_eq_true rfl, Nat.le_of_ble_eq_true rfl⟩ t_a1 kX1 (by decide) rfl rfl rfl (Nat.le_of_ble_eq_true rfl) ⟨Nat.zero_le _, Nat.zero_le _⟩ (fun r5 S4 h => ?_)
  refine jcV_I C 23 (rest := []) (ok_X10_judged t_v0 h) (by decide +kernel : decode cX10_pass 20 = .ok (.invokevirtual 243, 3)) rfl wd_884 wd_886 wp_75 wd_1 wd_887 ⟨rfl, rfl⟩ hd_X10_judged ⟨Nat.le_of_ble_eq_true rfl, Nat.le_of_ble_eq_true rfl⟩ t_v0 kX10 (by decide) rfl rfl rfl (Nat.le_of_ble_eq_true rfl) ⟨Nat.zero_le _, Nat.zero_le _⟩ (fun r7 S6 h => ?_)
  exact jRetI C (by decide +kernel : decode cX10_pass 23 = .ok (.ireturn, 1)) (Nat.le_refl _) (Nat.le_refl _) ⟨rfl, h⟩
theorem ok_X10_pass {G : Gm} {v0 : Nat} {S : St} {Q : Int32 → St → Prop}  (t_v0 : ok G 9 v0) (h : f_X10_pass G v0 Q S) : MT yX10_pass cX10_pass 1 (some .int) rm_X10_pass 0 0 (fun b => [.ref (b + v0)]) G S (QI (fun r G1 S1 => G1 = G ∧ Q r S1)) := MT.ofJ (by decide +kernel) (fun b => [(0, .ref (b + v0))]) (fun b => rfl) (fun b => Nat.le_of_ble_eq_true rfl) (fun l b D cy p e s m below meth c C hE hn => j_X10_pass C hE t_v0 h)
theorem hd_X10_pass : yX10_pass.cls ≠ "java/lang/invoke/MethodHandle" ∧ yX10_pass.cls ≠ "java/lang/invoke/VarHandle" ∧ (parseMethodDescriptor yX10_pass.desc).map (fun d => d.parameters.length) = some 0 := by decide +kernel
abbrev rm_X10_person : Room := { frames := 4, cells := 0, slots := 0, locals := 97 }
set_option maxHeartbeats 4000000 in
set_option maxRecDepth 100000 in
theorem j_X10_person {p : Program} {l : Launch} {e : Env} {s : State} {m : MethodId} {args : Array Value} {below : List Frame} {meth : Method} {c : Code} {b : Nat} {D : va_G} {cy : Nat → ClassId} {G : Gm} {v0 : Nat} {S : St} {Q : Int32 → St → Prop} (C : CX p s m args meth c b D cy cX10_person RX10 1 (some .int)) (hE : s.heap.size + 0 ≤ b + G.2.2) (t_v0 : ok G 9 v0) (h : f_X10_person G v0 Q S) : J p l e rm_X10_person s m args below meth c b D cy 1 (zI b D cy below args s G Q) 0 0 G S 0 [(0, .ref (b + v0))] [] := by
  unfold f_X10_person at h
  refine jB C [(.aload_n 0, 1, 0)] 1 [(0, .ref (b + v0))] [.ref (b + v0)] (by decide +kernel) rfl rfl ?_
  obtain ⟨a1, e_a1, h⟩ := h
  refine jGetR C 4 (by decide +kernel : decode cX10_person 1 = .ok (.getfield 14, 3)) rfl t_v0 kX10 0 (by decide) rfl rfl (by decide) wd_311 e_a1 rfl (fun t_a1 => ?_)
  refine jGetIN C 7 (by decide +kernel : decode cX10_person 4 = .ok (.getfield 75, 3)) rfl t_a1 kX5 0 (by decide) rfl rfl (by decide) wn_37 ?_
  refine jB C [(.bipush 6, 2, 6)] 9 [(0, .ref (b + v0))] [.int 6, .int (S.1 a1 0)] (by decide +kernel) rfl rfl ?_
  refine jIcmp_lt C 12 19 (by decide +kernel : decode cX10_person 9 = .ok (.if_icmp .lt 10, 3)) rfl rfl (fun c2 => ?_) (fun c2 => ?_)
  · have h := it1 h c2
    refine jB C [(.aload_n 0, 1, 0)] 20 [(0, .ref (b + v0))] [.ref (b + v0)] (by decide +kernel) rfl rfl ?_
    obtain ⟨a3, e_a3, h⟩ := h
    refine jGetR C 23 (by decide +kernel : decode cX10_person 20 = .ok (.getfield 28, 3)) rfl t_v0 kX10 3 (by decide) rfl rfl (by decide) wd_314 e_a3 rfl (fun t_a3 => ?_)
    refine jcVN_V C 26 (rest := []) (ok_X9_empty t_a3 h) (by decide +kernel : decode cX10_person 23 = .ok (.invokevirtual 82, 3)) rfl wn_359 wd_361 wp_1 wd_3 wd_362 ⟨rfl, rfl⟩ hd_X9_empty ⟨Nat.le_of_ble_eq_true rfl, Nat.le_of_ble_eq_true rfl⟩ t_a3 kX9 (by decide) rfl rfl rfl (Nat.le_of_ble_eq_true rfl) ⟨Nat.zero_le _, Nat.zero_le _⟩ (fun S4 h => ?_)
    refine jB C [(.aload_n 0, 1, 0), (.aload_n 0, 1, 0)] 28 [(0, .ref (b + v0))] [.ref (b + v0), .ref (b + v0)] (by decide +kernel) rfl rfl ?_
    obtain ⟨a5, e_a5, h⟩ := h
    refine jGetR C 31 (by decide +kernel : decode cX10_person 28 = .ok (.getfield 14, 3)) rfl t_v0 kX10 0 (by decide) rfl rfl (by decide) wd_311 e_a5 rfl (fun t_a5 => ?_)
    refine jcVN_I C 34 (rest := [.ref (b + v0)]) (ok_X5_addPerson t_a5 h) (by decide +kernel : decode cX10_person 31 = .ok (.invokevirtual 85, 3)) rfl wn_363 wd_365 wp_2 wd_2 wd_366 ⟨rfl, rfl⟩ hd_X5_addPerson ⟨Nat.le_of_ble_eq_true rfl, Nat.le_of_ble_eq_true rfl⟩ t_a5 kX5 (by decide) rfl rfl rfl (Nat.le_of_ble_eq_true rfl) ⟨Nat.zero_le _, Nat.zero_le _⟩ (fun r7 S6 h => ?_)
    refine jcV_I C 37 (rest := []) (ok_X10_accept t_v0 h) (by decide +kernel : decode cX10_person 34 = .ok (.invokevirtual 89, 3)) rfl wd_387 wd_389 wp_7 wd_1 wd_390 ⟨rfl, rfl⟩ hd_X10_accept ⟨Nat.le_of_ble_eq_true rfl, Nat.le_of_ble_eq_true rfl⟩ t_v0 kX10 (by decide) rfl rfl rfl (Nat.le_of_ble_eq_true rfl) ⟨Nat.zero_le _, Nat.zero_le _⟩ (fun r9 S8 h => ?_)
    exact jRetI C (by decide +kernel : decode cX10_person 37 = .ok (.ireturn, 1)) (Nat.le_refl _) (Nat.le_refl _) ⟨rfl, h⟩
  · have h := it2 h c2
    refine jB C [(.aload_n 0, 1, 0), (.bipush (-5), 2, (-5))] 15 [(0, .ref (b + v0))] [.int (-5), .ref (b + v0)] (by decide +kernel) rfl rfl ?_
    refine jcV_I C 18 (rest := []) (ok_X10_refuse t_v0 h) (by decide +kernel : decode cX10_person 15 = .ok (.invokevirtual 78, 3)) rfl wd_355 wd_357 wp_0 wd_1 wd_358 ⟨rfl, rfl⟩ hd_X10_refuse ⟨Nat.le_of_ble_eq_true rfl, Nat.le_of_ble_eq_true rfl⟩ t_v0 kX10 (by decide) rfl rfl rfl (Nat.le_of_ble_eq_true rfl) ⟨Nat.zero_le _, Nat.zero_le _⟩ (fun r11 S10 h => ?_)
    exact jRetI C (by decide +kernel : decode cX10_person 18 = .ok (.ireturn, 1)) (Nat.le_refl _) (Nat.le_refl _) ⟨rfl, h⟩
theorem ok_X10_person {G : Gm} {v0 : Nat} {S : St} {Q : Int32 → St → Prop}  (t_v0 : ok G 9 v0) (h : f_X10_person G v0 Q S) : MT yX10_person cX10_person 1 (some .int) rm_X10_person 0 0 (fun b => [.ref (b + v0)]) G S (QI (fun r G1 S1 => G1 = G ∧ Q r S1)) := MT.ofJ (by decide +kernel) (fun b => [(0, .ref (b + v0))]) (fun b => rfl) (fun b => Nat.le_of_ble_eq_true rfl) (fun l b D cy p e s m below meth c C hE hn => j_X10_person C hE t_v0 h)
theorem hd_X10_person : yX10_person.cls ≠ "java/lang/invoke/MethodHandle" ∧ yX10_person.cls ≠ "java/lang/invoke/VarHandle" ∧ (parseMethodDescriptor yX10_person.desc).map (fun d => d.parameters.length) = some 0 := by decide +kernel
abbrev rm_X6_hasSinsAt : Room := { frames := 1, cells := 0, slots := 0, locals := 21 }
set_option maxHeartbeats 4000000 in
set_option maxRecDepth 100000 in
theorem j_X6_hasSinsAt_2_n {p : Program} {l : Launch} {e : Env} {s : State} {m : MethodId} {args : Array Value} {below : List Frame} {meth : Method} {c : Code} {b : Nat} {D : va_G} {cy : Nat → ClassId} {G : Gm} {v0 : Nat} {v1 : Int32} {Q : Int32 → St → Prop} (C : CX p s m args meth c b D cy cX6_hasSinsAt RX6 4 (some .boolean)) (hE : s.heap.size + 0 ≤ b + G.2.2) (t_v0 : ok G 5 v0) : ∀ k (v2 : Int32) S, f_X6_hasSinsAt_2_n G v0 v1 Q k v2 S → J p l e rm_X6_hasSinsAt s m args below meth c b D cy 4 (zI b D cy below args s G Q) 0 0 G S 2 [(0, .ref (b + v0)), (1, .int v1), (2, .int v2)] [] := by
  intro k
  induction k with
  | zero => intro v2 S h; exact h.elim
  | succ k ih =>
    intro v2 S h
    unfold f_X6_hasSinsAt_2_n at h
    refine jB C [(.iload_n 2, 1, 0), (.iload_n 1, 1, 0), (.iconst 4, 1, 4), (.iadd, 1, 0)] 6 [(0, .ref (b + v0)), (1, .int v1), (2, .int v2)] [.int (v1 + 4), .int v2] (by decide +kernel) rfl rfl ?_
    refine jIcmp_ge C 9 33 (by decide +kernel : decode cX6_hasSinsAt 6 = .ok (.if_icmp .ge 27, 3)) rfl rfl (fun c1 => ?_) (fun c1 => ?_)
    · have h := it1 h c1
      refine jB C [(.iconst 1, 1, 1)] 34 [(0, .ref (b + v0)), (1, .int v1), (2, .int v2)] [.int 1] (by decide +kernel) rfl rfl ?_
      exact jRetZ C (by decide +kernel : decode cX6_hasSinsAt 34 = .ok (.ireturn, 1)) (Nat.le_refl _) (Nat.le_refl _) (by decide) ⟨rfl, h⟩
    · have h := it2 h c1
      refine jB C [(.aload_n 0, 1, 0), (.iload_n 2, 1, 0)] 11 [(0, .ref (b + v0)), (1, .int v1), (2, .int v2)] [.int v2, .ref (b + v0)] (by decide +kernel) rfl rfl ?_
      refine jcV_I C 14 (rest := []) (ok_X6_byteAt t_v0 h) (by decide +kernel : decode cX6_hasSinsAt 11 = .ok (.invokevirtual 40, 3)) rfl wd_569 wd_571 wp_31 wd_9 wd_572 ⟨rfl, rfl⟩ hd_X6_byteAt ⟨Nat.le_of_ble_eq_true rfl, Nat.le_of_ble_eq_true rfl⟩ t_v0 kX6 (by decide) rfl rfl rfl (Nat.le_of_ble_eq_true rfl) ⟨Nat.zero_le _, Nat.zero_le _⟩ (fun r3 S2 h => ?_)
      refine jB C [(.istore_n 3, 1, 0), (.iload_n 3, 1, 0)] 16 [(3, .int r3), (0, .ref (b + v0)), (1, .int v1), (2, .int v2)] [.int r3] (by decide +kernel) rfl rfl ?_
      refine jIf_lt C 19 25 (by decide +kernel : decode cX6_hasSinsAt 16 = .ok (.ifCond .lt 9, 3)) rfl rfl (fun c4 => ?_) (fun c4 => ?_)
      · have h := it1 h c4
        refine jB C [(.iconst 0, 1, 0)] 26 [(3, .int r3), (0, .ref (b + v0)), (1, .int v1), (2, .int v2)] [.int 0] (by decide +kernel) rfl rfl ?_
        exact jRetZ C (by decide +kernel : decode cX6_hasSinsAt 26 = .ok (.ireturn, 1)) (Nat.le_refl _) (Nat.le_refl _) (by decide) ⟨rfl, h⟩
      · have h := it2 h c4
        refine jB C [(.iload_n 3, 1, 0), (.bipush 8, 2, 8)] 22 [(3, .int r3), (0, .ref (b + v0)), (1, .int v1), (2, .int v2)] [.int 8, .int r3] (by decide +kernel) rfl rfl ?_
        refine jIcmp_le C 25 27 (by decide +kernel : decode cX6_hasSinsAt 22 = .ok (.if_icmp .le 5, 3)) rfl rfl (fun c5 => ?_) (fun c5 => ?_)
        · have h := it1 h c5
          refine jB C [(.iinc 2 1, 3, 1)] 30 [(2, .int (v2 + 1)), (3, .int r3), (0, .ref (b + v0)), (1, .int v1)] [] (by decide +kernel) rfl rfl ?_
          refine jGoto C 2 (by decide +kernel : decode cX6_hasSinsAt 30 = .ok (.goto (-28), 3)) rfl ?_
          refine jSub [2, 3, 0] rfl ?_
          exact ih (v2 + 1) S2 h
        · have h := it2 h c5
          refine jB C [(.iconst 0, 1, 0)] 26 [(3, .int r3), (0, .ref (b + v0)), (1, .int v1), (2, .int v2)] [.int 0] (by decide +kernel) rfl rfl ?_
          exact jRetZ C (by decide +kernel : decode cX6_hasSinsAt 26 = .ok (.ireturn, 1)) (Nat.le_refl _) (Nat.le_refl _) (by decide) ⟨rfl, h⟩
theorem j_X6_hasSinsAt_2 {p : Program} {l : Launch} {e : Env} {s : State} {m : MethodId} {args : Array Value} {below : List Frame} {meth : Method} {c : Code} {b : Nat} {D : va_G} {cy : Nat → ClassId} {G : Gm} {v0 : Nat} {v1 : Int32} {v2 : Int32} {S : St} {Q : Int32 → St → Prop} (C : CX p s m args meth c b D cy cX6_hasSinsAt RX6 4 (some .boolean)) (hE : s.heap.size + 0 ≤ b + G.2.2) (t_v0 : ok G 5 v0) (h : f_X6_hasSinsAt_2 G v0 v1 Q v2 S) : J p l e rm_X6_hasSinsAt s m args below meth c b D cy 4 (zI b D cy below args s G Q) 0 0 G S 2 [(0, .ref (b + v0)), (1, .int v1), (2, .int v2)] [] := by
  obtain ⟨k, h⟩ := h
  exact j_X6_hasSinsAt_2_n C hE t_v0 k v2 S h
set_option maxHeartbeats 4000000 in
set_option maxRecDepth 100000 in
theorem j_X6_hasSinsAt {p : Program} {l : Launch} {e : Env} {s : State} {m : MethodId} {args : Array Value} {below : List Frame} {meth : Method} {c : Code} {b : Nat} {D : va_G} {cy : Nat → ClassId} {G : Gm} {v0 : Nat} {v1 : Int32} {S : St} {Q : Int32 → St → Prop} (C : CX p s m args meth c b D cy cX6_hasSinsAt RX6 4 (some .boolean)) (hE : s.heap.size + 0 ≤ b + G.2.2) (t_v0 : ok G 5 v0) (h : f_X6_hasSinsAt G v0 v1 Q S) : J p l e rm_X6_hasSinsAt s m args below meth c b D cy 4 (zI b D cy below args s G Q) 0 0 G S 0 [(0, .ref (b + v0)), (1, .int v1)] [] := by
  unfold f_X6_hasSinsAt at h
  refine jB C [(.iload_n 1, 1, 0), (.istore_n 2, 1, 0)] 2 [(2, .int v1), (0, .ref (b + v0)), (1, .int v1)] [] (by decide +kernel) rfl rfl ?_
  refine jSub [1, 2, 0] rfl ?_
  exact j_X6_hasSinsAt_2 C hE t_v0 h
theorem ok_X6_hasSinsAt {G : Gm} {v0 : Nat} {v1 : Int32} {S : St} {Q : Int32 → St → Prop}  (t_v0 : ok G 5 v0) (h : f_X6_hasSinsAt G v0 v1 Q S) : MT yX6_hasSinsAt cX6_hasSinsAt 4 (some .boolean) rm_X6_hasSinsAt 0 0 (fun b => [.ref (b + v0), .int v1]) G S (QI (fun r G1 S1 => G1 = G ∧ Q r S1)) := MT.ofJ (by decide +kernel) (fun b => [(0, .ref (b + v0)), (1, .int v1)]) (fun b => rfl) (fun b => Nat.le_of_ble_eq_true rfl) (fun l b D cy p e s m below meth c C hE hn => j_X6_hasSinsAt C hE t_v0 h)
theorem hd_X6_hasSinsAt : yX6_hasSinsAt.cls ≠ "java/lang/invoke/MethodHandle" ∧ yX6_hasSinsAt.cls ≠ "java/lang/invoke/VarHandle" ∧ (parseMethodDescriptor yX6_hasSinsAt.desc).map (fun d => d.parameters.length) = some 1 := by decide +kernel
abbrev rm_X10_row : Room := { frames := 5, cells := 0, slots := 0, locals := 120 }
set_option maxHeartbeats 4000000 in
set_option maxRecDepth 100000 in
theorem j_X10_row_30_n {p : Program} {l : Launch} {e : Env} {s : State} {m : MethodId} {args : Array Value} {below : List Frame} {meth : Method} {c : Code} {b : Nat} {D : va_G} {cy : Nat → ClassId} {G : Gm} {v0 : Nat} {Q : Int32 → St → Prop} (C : CX p s m args meth c b D cy cX10_row RX10 4 (some .int)) (hE : s.heap.size + 0 ≤ b + G.2.2) (t_v0 : ok G 9 v0) : ∀ k (v1 : Int32) (v2 : Int32) (v3 : Int32) S, f_X10_row_30_n G v0 Q k v1 v2 v3 S → J p l e rm_X10_row s m args below meth c b D cy 4 (zI b D cy below args s G Q) 0 0 G S 30 [(0, .ref (b + v0)), (1, .int v1), (2, .int v2), (3, .int v3)] [] := by
  intro k
  induction k with
  | zero => intro v1 v2 v3 S h; exact h.elim
  | succ k ih =>
    intro v1 v2 v3 S h
    unfold f_X10_row_30_n at h
    refine jB C [(.iload_n 3, 1, 0), (.aload_n 0, 1, 0)] 32 [(0, .ref (b + v0)), (1, .int v1), (2, .int v2), (3, .int v3)] [.ref (b + v0), .int v3] (by decide +kernel) rfl rfl ?_
    obtain ⟨a1, e_a1, h⟩ := h
    refine jGetR C 35 (by decide +kernel : decode cX10_row 32 = .ok (.getfield 63, 3)) rfl t_v0 kX10 8 (by decide) rfl rfl (by decide) wd_319 e_a1 rfl (fun t_a1 => ?_)
    refine jGetIN C 38 (by decide +kernel : decode cX10_row 35 = .ok (.getfield 171, 3)) rfl t_a1 kX6 1 (by decide) rfl rfl (by decide) wn_276 ?_
    refine jIcmp_ge C 41 84 (by decide +kernel : decode cX10_row 38 = .ok (.if_icmp .ge 46, 3)) rfl rfl (fun c2 => ?_) (fun c2 => ?_)
    · have h := it1 h c2
      refine jB C [(.aload_n 0, 1, 0)] 85 [(0, .ref (b + v0)), (1, .int v1), (2, .int v2), (3, .int v3)] [.ref (b + v0)] (by decide +kernel) rfl rfl ?_
      obtain ⟨a3, e_a3, h⟩ := h
      refine jGetR C 88 (by decide +kernel : decode cX10_row 85 = .ok (.getfield 63, 3)) rfl t_v0 kX10 8 (by decide) rfl rfl (by decide) wd_319 e_a3 rfl (fun t_a3 => ?_)
      refine jB C [(.iconst 0, 1, 0)] 89 [(0, .ref (b + v0)), (1, .int v1), (2, .int v2), (3, .int v3)] [.int 0, .ref (b + a3)] (by decide +kernel) rfl rfl ?_
      refine jPutIN C 92 (by decide +kernel : decode cX10_row 89 = .ok (.putfield 171, 3)) rfl hE t_a3 kX6 1 (by decide) rfl rfl (by decide) rfl wn_276 rfl rfl rfl ?_
      refine jTopS (fun S4 e_S4 => ?_)
      have h := h S4 e_S4
      refine jB C [(.aload_n 0, 1, 0), (.iload_n 2, 1, 0)] 94 [(0, .ref (b + v0)), (1, .int v1), (2, .int v2), (3, .int v3)] [.int v2, .ref (b + v0)] (by decide +kernel) rfl rfl ?_
      refine jPutI C 97 (by decide +kernel : decode cX10_row 94 = .ok (.putfield 180, 3)) rfl hE t_v0 kX10 11 (by decide) rfl rfl (by decide) rfl wd_322 rfl rfl rfl ?_
      refine jTopS (fun S5 e_S5 => ?_)
      have h := h S5 e_S5
      refine jB C [(.aload_n 0, 1, 0), (.iload_n 1, 1, 0)] 99 [(0, .ref (b + v0)), (1, .int v1), (2, .int v2), (3, .int v3)] [.int v1, .ref (b + v0)] (by decide +kernel) rfl rfl ?_
      refine jcV_I C 102 (rest := []) (ok_X10_accept t_v0 h) (by decide +kernel : decode cX10_row 99 = .ok (.invokevirtual 89, 3)) rfl wd_387 wd_389 wp_7 wd_1 wd_390 ⟨rfl, rfl⟩ hd_X10_accept ⟨Nat.le_of_ble_eq_true rfl, Nat.le_of_ble_eq_true rfl⟩ t_v0 kX10 (by decide) rfl rfl rfl (Nat.le_of_ble_eq_true rfl) ⟨Nat.zero_le _, Nat.zero_le _⟩ (fun r7 S6 h => ?_)
      exact jRetI C (by decide +kernel : decode cX10_row 102 = .ok (.ireturn, 1)) (Nat.le_refl _) (Nat.le_refl _) ⟨rfl, h⟩
    · have h := it2 h c2
      refine jB C [(.aload_n 0, 1, 0)] 42 [(0, .ref (b + v0)), (1, .int v1), (2, .int v2), (3, .int v3)] [.ref (b + v0)] (by decide +kernel) rfl rfl ?_
      obtain ⟨a8, e_a8, h⟩ := h
      refine jGetR C 45 (by decide +kernel : decode cX10_row 42 = .ok (.getfield 63, 3)) rfl t_v0 kX10 8 (by decide) rfl rfl (by decide) wd_319 e_a8 rfl (fun t_a8 => ?_)
      refine jB C [(.iload_n 3, 1, 0)] 46 [(0, .ref (b + v0)), (1, .int v1), (2, .int v2), (3, .int v3)] [.int v3, .ref (b + a8)] (by decide +kernel) rfl rfl ?_
      refine jcVN_I C 49 (rest := []) (ok_X6_hasSinsAt t_a8 h) (by decide +kernel : decode cX10_row 46 = .ok (.invokevirtual 174, 3)) rfl wn_565 wd_567 wp_30 wd_9 wd_568 ⟨rfl, rfl⟩ hd_X6_hasSinsAt ⟨Nat.le_of_ble_eq_true rfl, Nat.le_of_ble_eq_true rfl⟩ t_a8 kX6 (by decide) rfl rfl rfl (Nat.le_of_ble_eq_true rfl) ⟨Nat.zero_le _, Nat.zero_le _⟩ (fun r10 S9 h => ?_)
      refine jIf_eq C 52 75 (by decide +kernel : decode cX10_row 49 = .ok (.ifCond .eq 26, 3)) rfl rfl (fun c11 => ?_) (fun c11 => ?_)
      · have h := it1 h c11
        refine jB C [(.iinc 2 1, 3, 1), (.iinc 3 4, 3, 4)] 81 [(3, .int (v3 + 4)), (2, .int (v2 + 1)), (0, .ref (b + v0)), (1, .int v1)] [] (by decide +kernel) rfl rfl ?_
        refine jGoto C 30 (by decide +kernel : decode cX10_row 81 = .ok (.goto (-51), 3)) rfl ?_
        refine jSub [2, 3, 1, 0] rfl ?_
        exact ih v1 (v2 + 1) (v3 + 4) S9 h
      · have h := it2 h c11
        refine jB C [(.aload_n 0, 1, 0)] 53 [(0, .ref (b + v0)), (1, .int v1), (2, .int v2), (3, .int v3)] [.ref (b + v0)] (by decide +kernel) rfl rfl ?_
        obtain ⟨a12, e_a12, h⟩ := h
        refine jGetR C 56 (by decide +kernel : decode cX10_row 53 = .ok (.getfield 14, 3)) rfl t_v0 kX10 0 (by decide) rfl rfl (by decide) wd_311 e_a12 rfl (fun t_a12 => ?_)
        refine jGetIN C 59 (by decide +kernel : decode cX10_row 56 = .ok (.getfield 75, 3)) rfl t_a12 kX5 0 (by decide) rfl rfl (by decide) wn_37 ?_
        refine jB C [(.bipush 6, 2, 6)] 61 [(0, .ref (b + v0)), (1, .int v1), (2, .int v2), (3, .int v3)] [.int 6, .int (S9.1 a12 0)] (by decide +kernel) rfl rfl ?_
        refine jIcmp_ge C 64 75 (by decide +kernel : decode cX10_row 61 = .ok (.if_icmp .ge 14, 3)) rfl rfl (fun c13 => ?_) (fun c13 => ?_)
        · have h := it1 h c13
          refine jB C [(.iinc 2 1, 3, 1), (.iinc 3 4, 3, 4)] 81 [(3, .int (v3 + 4)), (2, .int (v2 + 1)), (0, .ref (b + v0)), (1, .int v1)] [] (by decide +kernel) rfl rfl ?_
          refine jGoto C 30 (by decide +kernel : decode cX10_row 81 = .ok (.goto (-51), 3)) rfl ?_
          refine jSub [2, 3, 1, 0] rfl ?_
          exact ih v1 (v2 + 1) (v3 + 4) S9 h
        · have h := it2 h c13
          refine jB C [(.aload_n 0, 1, 0), (.iload_n 3, 1, 0)] 66 [(0, .ref (b + v0)), (1, .int v1), (2, .int v2), (3, .int v3)] [.int v3, .ref (b + v0)] (by decide +kernel) rfl rfl ?_
          refine jcV_V C 69 (rest := []) (ok_X10_addSinner t_v0 h) (by decide +kernel : decode cX10_row 66 = .ok (.invokevirtual 177, 3)) rfl wd_573 wd_575 wp_32 wd_1 wd_576 ⟨rfl, rfl⟩ hd_X10_addSinner ⟨Nat.le_of_ble_eq_true rfl, Nat.le_of_ble_eq_true rfl⟩ t_v0 kX10 (by decide) rfl rfl rfl (Nat.le_of_ble_eq_true rfl) ⟨Nat.zero_le _, Nat.zero_le _⟩ (fun S14 h => ?_)
          refine jB C [(.iinc 1 1, 3, 1)] 72 [(1, .int (v1 + 1)), (0, .ref (b + v0)), (2, .int v2), (3, .int v3)] [] (by decide +kernel) rfl rfl ?_
          refine jGoto C 78 (by decide +kernel : decode cX10_row 72 = .ok (.goto 6, 3)) rfl ?_
          refine jB C [(.iinc 3 4, 3, 4)] 81 [(3, .int (v3 + 4)), (1, .int (v1 + 1)), (0, .ref (b + v0)), (2, .int v2)] [] (by decide +kernel) rfl rfl ?_
          refine jGoto C 30 (by decide +kernel : decode cX10_row 81 = .ok (.goto (-51), 3)) rfl ?_
          refine jSub [2, 1, 3, 0] rfl ?_
          exact ih (v1 + 1) v2 (v3 + 4) S14 h
theorem j_X10_row_30 {p : Program} {l : Launch} {e : Env} {s : State} {m : MethodId} {args : Array Value} {below : List Frame} {meth : Method} {c : Code} {b : Nat} {D : va_G} {cy : Nat → ClassId} {G : Gm} {v0 : Nat} {v1 : Int32} {v2 : Int32} {v3 : Int32} {S : St} {Q : Int32 → St → Prop} (C : CX p s m args meth c b D cy cX10_row RX10 4 (some .int)) (hE : s.heap.size + 0 ≤ b + G.2.2) (t_v0 : ok G 9 v0) (h : f_X10_row_30 G v0 Q v1 v2 v3 S) : J p l e rm_X10_row s m args below meth c b D cy 4 (zI b D cy below args s G Q) 0 0 G S 30 [(0, .ref (b + v0)), (1, .int v1), (2, .int v2), (3, .int v3)] [] := by
  obtain ⟨k, h⟩ := h
  exact j_X10_row_30_n C hE t_v0 k v1 v2 v3 S h
set_option maxHeartbeats 4000000 in
set_option maxRecDepth 100000 in
theorem j_X10_row {p : Program} {l : Launch} {e : Env} {s : State} {m : MethodId} {args : Array Value} {below : List Frame} {meth : Method} {c : Code} {b : Nat} {D : va_G} {cy : Nat → ClassId} {G : Gm} {v0 : Nat} {S : St} {Q : Int32 → St → Prop} (C : CX p s m args meth c b D cy cX10_row RX10 4 (some .int)) (hE : s.heap.size + 0 ≤ b + G.2.2) (t_v0 : ok G 9 v0) (h : f_X10_row G v0 Q S) : J p l e rm_X10_row s m args below meth c b D cy 4 (zI b D cy below args s G Q) 0 0 G S 0 [(0, .ref (b + v0))] [] := by
  unfold f_X10_row at h
  refine jB C [(.aload_n 0, 1, 0)] 1 [(0, .ref (b + v0))] [.ref (b + v0)] (by decide +kernel) rfl rfl ?_
  obtain ⟨a1, e_a1, h⟩ := h
  refine jGetR C 4 (by decide +kernel : decode cX10_row 1 = .ok (.getfield 63, 3)) rfl t_v0 kX10 8 (by decide) rfl rfl (by decide) wd_319 e_a1 rfl (fun t_a1 => ?_)
  refine jGetIN C 7 (by decide +kernel : decode cX10_row 4 = .ok (.getfield 171, 3)) rfl t_a1 kX6 1 (by decide) rfl rfl (by decide) wn_276 ?_
  refine jIf_ne C 10 17 (by decide +kernel : decode cX10_row 7 = .ok (.ifCond .ne 10, 3)) rfl rfl (fun c2 => ?_) (fun c2 => ?_)
  · have h := it2 h c2
    refine jB C [(.aload_n 0, 1, 0)] 18 [(0, .ref (b + v0))] [.ref (b + v0)] (by decide +kernel) rfl rfl ?_
    obtain ⟨a3, e_a3, h⟩ := h
    refine jGetR C 21 (by decide +kernel : decode cX10_row 18 = .ok (.getfield 28, 3)) rfl t_v0 kX10 3 (by decide) rfl rfl (by decide) wd_314 e_a3 rfl (fun t_a3 => ?_)
    refine jcVN_V C 24 (rest := []) (ok_X9_empty t_a3 h) (by decide +kernel : decode cX10_row 21 = .ok (.invokevirtual 82, 3)) rfl wn_359 wd_361 wp_1 wd_3 wd_362 ⟨rfl, rfl⟩ hd_X9_empty ⟨Nat.le_of_ble_eq_true rfl, Nat.le_of_ble_eq_true rfl⟩ t_a3 kX9 (by decide) rfl rfl rfl (Nat.le_of_ble_eq_true rfl) ⟨Nat.zero_le _, Nat.zero_le _⟩ (fun S4 h => ?_)
    refine jB C [(.iconst 0, 1, 0), (.istore_n 1, 1, 0), (.iconst 0, 1, 0), (.istore_n 2, 1, 0), (.iconst 0, 1, 0), (.istore_n 3, 1, 0)] 30 [(3, .int 0), (2, .int 0), (1, .int 0), (0, .ref (b + v0))] [] (by decide +kernel) rfl rfl ?_
    refine jSub [3, 2, 1, 0] rfl ?_
    exact j_X10_row_30 C hE t_v0 h
  · have h := it1 h c2
    refine jB C [(.aload_n 0, 1, 0), (.bipush (-6), 2, (-6))] 13 [(0, .ref (b + v0))] [.int (-6), .ref (b + v0)] (by decide +kernel) rfl rfl ?_
    refine jcV_I C 16 (rest := []) (ok_X10_refuse t_v0 h) (by decide +kernel : decode cX10_row 13 = .ok (.invokevirtual 78, 3)) rfl wd_355 wd_357 wp_0 wd_1 wd_358 ⟨rfl, rfl⟩ hd_X10_refuse ⟨Nat.le_of_ble_eq_true rfl, Nat.le_of_ble_eq_true rfl⟩ t_v0 kX10 (by decide) rfl rfl rfl (Nat.le_of_ble_eq_true rfl) ⟨Nat.zero_le _, Nat.zero_le _⟩ (fun r6 S5 h => ?_)
    exact jRetI C (by decide +kernel : decode cX10_row 16 = .ok (.ireturn, 1)) (Nat.le_refl _) (Nat.le_refl _) ⟨rfl, h⟩
theorem ok_X10_row {G : Gm} {v0 : Nat} {S : St} {Q : Int32 → St → Prop}  (t_v0 : ok G 9 v0) (h : f_X10_row G v0 Q S) : MT yX10_row cX10_row 4 (some .int) rm_X10_row 0 0 (fun b => [.ref (b + v0)]) G S (QI (fun r G1 S1 => G1 = G ∧ Q r S1)) := MT.ofJ (by decide +kernel) (fun b => [(0, .ref (b + v0))]) (fun b => rfl) (fun b => Nat.le_of_ble_eq_true rfl) (fun l b D cy p e s m below meth c C hE hn => j_X10_row C hE t_v0 h)
theorem hd_X10_row : yX10_row.cls ≠ "java/lang/invoke/MethodHandle" ∧ yX10_row.cls ≠ "java/lang/invoke/VarHandle" ∧ (parseMethodDescriptor yX10_row.desc).map (fun d => d.parameters.length) = some 0 := by decide +kernel
abbrev rm_X5_addSeen : Room := { frames := 0, cells := 0, slots := 0, locals := 0 }
set_option maxHeartbeats 4000000 in
set_option maxRecDepth 100000 in
theorem j_X5_addSeen_46 {p : Program} {l : Launch} {e : Env} {s : State} {m : MethodId} {args : Array Value} {below : List Frame} {meth : Method} {c : Code} {b : Nat} {D : va_G} {cy : Nat → ClassId} {G : Gm} {v0 : Nat} {S : St} {Q : Int32 → St → Prop} (C : CX p s m args meth c b D cy cX5_addSeen RX5 3 (some .int)) (hE : s.heap.size + 0 ≤ b + G.2.2) (t_v0 : ok G 4 v0) (h : f_X5_addSeen_46 G v0 Q S) : J p l e rm_X5_addSeen s m args below meth c b D cy 3 (zI b D cy below args s G Q) 0 0 G S 46 [(0, .ref (b + v0))] [] := by
  unfold f_X5_addSeen_46 at h
  refine jB C [(.aload_n 0, 1, 0)] 47 [(0, .ref (b + v0))] [.ref (b + v0)] (by decide +kernel) rfl rfl ?_
  refine jGetI C 50 (by decide +kernel : decode cX5_addSeen 47 = .ok (.getfield 49, 3)) rfl t_v0 kX5 5 (by decide) rfl rfl (by decide) wd_46 ?_
  exact jRetI C (by decide +kernel : decode cX5_addSeen 50 = .ok (.ireturn, 1)) (Nat.le_refl _) (Nat.le_refl _) ⟨rfl, h⟩
set_option maxHeartbeats 4000000 in
set_option maxRecDepth 100000 in
theorem j_X5_addSeen {p : Program} {l : Launch} {e : Env} {s : State} {m : MethodId} {args : Array Value} {below : List Frame} {meth : Method} {c : Code} {b : Nat} {D : va_G} {cy : Nat → ClassId} {G : Gm} {v0 : Nat} {v1 : Int32} {v2 : Int32} {S : St} {Q : Int32 → St → Prop} (C : CX p s m args meth c b D cy cX5_addSeen RX5 3 (some .int)) (hE : s.heap.size + 0 ≤ b + G.2.2) (t_v0 : ok G 4 v0) (h : f_X5_addSeen G v0 v1 v2 Q S) : J p l e rm_X5_addSeen s m args below meth c b D cy 3 (zI b D cy below args s G Q) 0 0 G S 0 [(0, .ref (b + v0)), (1, .int v1), (2, .int v2)] [] := by
  unfold f_X5_addSeen at h
  refine jB C [(.aload_n 0, 1, 0)] 1 [(0, .ref (b + v0)), (1, .int v1), (2, .int v2)] [.ref (b + v0)] (by decide +kernel) rfl rfl ?_
  refine jGetI C 4 (by decide +kernel : decode cX5_addSeen 1 = .ok (.getfield 49, 3)) rfl t_v0 kX5 5 (by decide) rfl rfl (by decide) wd_46 ?_
  refine jIf_lt C 7 46 (by decide +kernel : decode cX5_addSeen 4 = .ok (.ifCond .lt 42, 3)) rfl rfl (fun c1 => ?_) (fun c1 => ?_)
  · have h := it1 h c1
    refine jSub [0] rfl ?_
    exact j_X5_addSeen_46 C hE t_v0 h
  · have h := it2 h c1
    refine jB C [(.aload_n 0, 1, 0)] 8 [(0, .ref (b + v0)), (1, .int v1), (2, .int v2)] [.ref (b + v0)] (by decide +kernel) rfl rfl ?_
    refine jGetI C 11 (by decide +kernel : decode cX5_addSeen 8 = .ok (.getfield 49, 3)) rfl t_v0 kX5 5 (by decide) rfl rfl (by decide) wd_46 ?_
    refine jB C [(.bipush 8, 2, 8)] 13 [(0, .ref (b + v0)), (1, .int v1), (2, .int v2)] [.int 8, .int (S.1 v0 5)] (by decide +kernel) rfl rfl ?_
    refine jIcmp_ge C 16 46 (by decide +kernel : decode cX5_addSeen 13 = .ok (.if_icmp .ge 33, 3)) rfl rfl (fun c2 => ?_) (fun c2 => ?_)
    · have h := it1 h c2
      refine jSub [0] rfl ?_
      exact j_X5_addSeen_46 C hE t_v0 h
    · have h := it2 h c2
      refine jB C [(.aload_n 0, 1, 0)] 17 [(0, .ref (b + v0)), (1, .int v1), (2, .int v2)] [.ref (b + v0)] (by decide +kernel) rfl rfl ?_
      obtain ⟨a3, e_a3, h⟩ := h
      refine jGetR C 20 (by decide +kernel : decode cX5_addSeen 17 = .ok (.getfield 24, 3)) rfl t_v0 kX5 6 (by decide) rfl rfl (by decide) wd_49 e_a3 rfl (fun t_a3 => ?_)
      refine jB C [(.aload_n 0, 1, 0)] 21 [(0, .ref (b + v0)), (1, .int v1), (2, .int v2)] [.ref (b + v0), .ref (b + a3)] (by decide +kernel) rfl rfl ?_
      refine jGetI C 24 (by decide +kernel : decode cX5_addSeen 21 = .ok (.getfield 49, 3)) rfl t_v0 kX5 5 (by decide) rfl rfl (by decide) wd_46 ?_
      refine jB C [(.iload_n 1, 1, 0)] 25 [(0, .ref (b + v0)), (1, .int v1), (2, .int v2)] [.int v1, .int (S.1 v0 5), .ref (b + a3)] (by decide +kernel) rfl rfl ?_
      obtain ⟨y4, h⟩ := h
      refine jIast C 26 (by decide +kernel : decode cX5_addSeen 25 = .ok (.iastore, 1)) rfl hE t_a3 y4 ?_
      refine jTopS (fun S5 e_S5 => ?_)
      have h := h S5 e_S5
      refine jB C [(.aload_n 0, 1, 0)] 27 [(0, .ref (b + v0)), (1, .int v1), (2, .int v2)] [.ref (b + v0)] (by decide +kernel) rfl rfl ?_
      obtain ⟨a6, e_a6, h⟩ := h
      refine jGetR C 30 (by decide +kernel : decode cX5_addSeen 27 = .ok (.getfield 27, 3)) rfl t_v0 kX5 7 (by decide) rfl rfl (by decide) wd_51 e_a6 rfl (fun t_a6 => ?_)
      refine jB C [(.aload_n 0, 1, 0)] 31 [(0, .ref (b + v0)), (1, .int v1), (2, .int v2)] [.ref (b + v0), .ref (b + a6)] (by decide +kernel) rfl rfl ?_
      refine jGetI C 34 (by decide +kernel : decode cX5_addSeen 31 = .ok (.getfield 49, 3)) rfl t_v0 kX5 5 (by decide) rfl rfl (by decide) wd_46 ?_
      refine jB C [(.iload_n 2, 1, 0)] 35 [(0, .ref (b + v0)), (1, .int v1), (2, .int v2)] [.int v2, .int (S5.1 v0 5), .ref (b + a6)] (by decide +kernel) rfl rfl ?_
      obtain ⟨y7, h⟩ := h
      refine jIast C 36 (by decide +kernel : decode cX5_addSeen 35 = .ok (.iastore, 1)) rfl hE t_a6 y7 ?_
      refine jTopS (fun S8 e_S8 => ?_)
      have h := h S8 e_S8
      refine jB C [(.aload_n 0, 1, 0), (.dup, 1, 0)] 38 [(0, .ref (b + v0)), (1, .int v1), (2, .int v2)] [.ref (b + v0), .ref (b + v0)] (by decide +kernel) rfl rfl ?_
      refine jGetI C 41 (by decide +kernel : decode cX5_addSeen 38 = .ok (.getfield 49, 3)) rfl t_v0 kX5 5 (by decide) rfl rfl (by decide) wd_46 ?_
      refine jB C [(.iconst 1, 1, 1), (.iadd, 1, 0)] 43 [(0, .ref (b + v0)), (1, .int v1), (2, .int v2)] [.int ((S8.1 v0 5) + 1), .ref (b + v0)] (by decide +kernel) rfl rfl ?_
      refine jPutI C 46 (by decide +kernel : decode cX5_addSeen 43 = .ok (.putfield 49, 3)) rfl hE t_v0 kX5 5 (by decide) rfl rfl (by decide) rfl wd_46 rfl rfl rfl ?_
      refine jTopS (fun S9 e_S9 => ?_)
      have h := h S9 e_S9
      refine jSub [0] rfl ?_
      exact j_X5_addSeen_46 C hE t_v0 h
theorem ok_X5_addSeen {G : Gm} {v0 : Nat} {v1 : Int32} {v2 : Int32} {S : St} {Q : Int32 → St → Prop}  (t_v0 : ok G 4 v0) (h : f_X5_addSeen G v0 v1 v2 Q S) : MT yX5_addSeen cX5_addSeen 3 (some .int) rm_X5_addSeen 0 0 (fun b => [.ref (b + v0), .int v1, .int v2]) G S (QI (fun r G1 S1 => G1 = G ∧ Q r S1)) := MT.ofJ (by decide +kernel) (fun b => [(0, .ref (b + v0)), (1, .int v1), (2, .int v2)]) (fun b => rfl) (fun b => Nat.le_of_ble_eq_true rfl) (fun l b D cy p e s m below meth c C hE hn => j_X5_addSeen C hE t_v0 h)
theorem hd_X5_addSeen : yX5_addSeen.cls ≠ "java/lang/invoke/MethodHandle" ∧ yX5_addSeen.cls ≠ "java/lang/invoke/VarHandle" ∧ (parseMethodDescriptor yX5_addSeen.desc).map (fun d => d.parameters.length) = some 2 := by decide +kernel
abbrev rm_X10_saw : Room := { frames := 1, cells := 0, slots := 0, locals := 22 }
set_option maxHeartbeats 4000000 in
set_option maxRecDepth 100000 in
theorem j_X10_saw {p : Program} {l : Launch} {e : Env} {s : State} {m : MethodId} {args : Array Value} {below : List Frame} {meth : Method} {c : Code} {b : Nat} {D : va_G} {cy : Nat → ClassId} {G : Gm} {v0 : Nat} {v1 : Int32} {v2 : Int32} {S : St} {Q : Int32 → St → Prop} (C : CX p s m args meth c b D cy cX10_saw RX10 3 (some .int)) (hE : s.heap.size + 0 ≤ b + G.2.2) (t_v0 : ok G 9 v0) (h : f_X10_saw G v0 v1 v2 Q S) : J p l e rm_X10_saw s m args below meth c b D cy 3 (zI b D cy below args s G Q) 0 0 G S 0 [(0, .ref (b + v0)), (1, .int v1), (2, .int v2)] [] := by
  unfold f_X10_saw at h
  refine jB C [(.iload_n 2, 1, 0)] 1 [(0, .ref (b + v0)), (1, .int v1), (2, .int v2)] [.int v2] (by decide +kernel) rfl rfl ?_
  refine jcS_I C 4 (rest := []) (ok_X10_isNumber h) (by decide +kernel : decode cX10_saw 1 = .ok (.invokestatic 149, 3)) rfl wd_530 wd_531 wd_1 wd_532 ⟨rfl, rfl⟩ hd_X10_isNumber ⟨Nat.le_of_ble_eq_true rfl, Nat.le_of_ble_eq_true rfl⟩ rfl rfl (Nat.le_of_ble_eq_true rfl) ⟨Nat.zero_le _, Nat.zero_le _⟩ (fun r2 S1 h => ?_)
  refine jIf_ne C 7 13 (by decide +kernel : decode cX10_saw 4 = .ok (.ifCond .ne 9, 3)) rfl rfl (fun c3 => ?_) (fun c3 => ?_)
  · have h := it2 h c3
    refine jB C [(.aload_n 0, 1, 0)] 14 [(0, .ref (b + v0)), (1, .int v1), (2, .int v2)] [.ref (b + v0)] (by decide +kernel) rfl rfl ?_
    obtain ⟨a4, e_a4, h⟩ := h
    refine jGetR C 17 (by decide +kernel : decode cX10_saw 14 = .ok (.getfield 14, 3)) rfl t_v0 kX10 0 (by decide) rfl rfl (by decide) wd_311 e_a4 rfl (fun t_a4 => ?_)
    refine jB C [(.iload_n 1, 1, 0)] 18 [(0, .ref (b + v0)), (1, .int v1), (2, .int v2)] [.int v1, .ref (b + a4)] (by decide +kernel) rfl rfl ?_
    refine jcVN_I C 21 (rest := []) (ok_X5_has t_a4 h) (by decide +kernel : decode cX10_saw 18 = .ok (.invokevirtual 92, 3)) rfl wn_395 wd_373 wp_4 wd_2 wd_374 ⟨rfl, rfl⟩ hd_X5_has ⟨Nat.le_of_ble_eq_true rfl, Nat.le_of_ble_eq_true rfl⟩ t_a4 kX5 (by decide) rfl rfl rfl (Nat.le_of_ble_eq_true rfl) ⟨Nat.zero_le _, Nat.zero_le _⟩ (fun r6 S5 h => ?_)
    refine jIf_ne C 24 31 (by decide +kernel : decode cX10_saw 21 = .ok (.ifCond .ne 10, 3)) rfl rfl (fun c7 => ?_) (fun c7 => ?_)
    · have h := it2 h c7
      refine jB C [(.aload_n 0, 1, 0)] 32 [(0, .ref (b + v0)), (1, .int v1), (2, .int v2)] [.ref (b + v0)] (by decide +kernel) rfl rfl ?_
      obtain ⟨a8, e_a8, h⟩ := h
      refine jGetR C 35 (by decide +kernel : decode cX10_saw 32 = .ok (.getfield 14, 3)) rfl t_v0 kX10 0 (by decide) rfl rfl (by decide) wd_311 e_a8 rfl (fun t_a8 => ?_)
      refine jGetIN C 38 (by decide +kernel : decode cX10_saw 35 = .ok (.getfield 256, 3)) rfl t_a8 kX5 5 (by decide) rfl rfl (by decide) wn_48 ?_
      refine jB C [(.bipush 8, 2, 8)] 40 [(0, .ref (b + v0)), (1, .int v1), (2, .int v2)] [.int 8, .int (S5.1 a8 5)] (by decide +kernel) rfl rfl ?_
      refine jIcmp_lt C 43 50 (by decide +kernel : decode cX10_saw 40 = .ok (.if_icmp .lt 10, 3)) rfl rfl (fun c9 => ?_) (fun c9 => ?_)
      · have h := it1 h c9
        refine jB C [(.aload_n 0, 1, 0), (.aload_n 0, 1, 0)] 52 [(0, .ref (b + v0)), (1, .int v1), (2, .int v2)] [.ref (b + v0), .ref (b + v0)] (by decide +kernel) rfl rfl ?_
        obtain ⟨a10, e_a10, h⟩ := h
        refine jGetR C 55 (by decide +kernel : decode cX10_saw 52 = .ok (.getfield 14, 3)) rfl t_v0 kX10 0 (by decide) rfl rfl (by decide) wd_311 e_a10 rfl (fun t_a10 => ?_)
        refine jB C [(.iload_n 1, 1, 0), (.iload_n 2, 1, 0)] 57 [(0, .ref (b + v0)), (1, .int v1), (2, .int v2)] [.int v2, .int v1, .ref (b + a10), .ref (b + v0)] (by decide +kernel) rfl rfl ?_
        refine jcVN_I C 60 (rest := [.ref (b + v0)]) (ok_X5_addSeen t_a10 h) (by decide +kernel : decode cX10_saw 57 = .ok (.invokevirtual 259, 3)) rfl wn_938 wd_940 wp_80 wd_2 wd_941 ⟨rfl, rfl⟩ hd_X5_addSeen ⟨Nat.le_of_ble_eq_true rfl, Nat.le_of_ble_eq_true rfl⟩ t_a10 kX5 (by decide) rfl rfl rfl (Nat.le_of_ble_eq_true rfl) ⟨Nat.zero_le _, Nat.zero_le _⟩ (fun r12 S11 h => ?_)
        refine jcV_I C 63 (rest := []) (ok_X10_accept t_v0 h) (by decide +kernel : decode cX10_saw 60 = .ok (.invokevirtual 89, 3)) rfl wd_387 wd_389 wp_7 wd_1 wd_390 ⟨rfl, rfl⟩ hd_X10_accept ⟨Nat.le_of_ble_eq_true rfl, Nat.le_of_ble_eq_true rfl⟩ t_v0 kX10 (by decide) rfl rfl rfl (Nat.le_of_ble_eq_true rfl) ⟨Nat.zero_le _, Nat.zero_le _⟩ (fun r14 S13 h => ?_)
        exact jRetI C (by decide +kernel : decode cX10_saw 63 = .ok (.ireturn, 1)) (Nat.le_refl _) (Nat.le_refl _) ⟨rfl, h⟩
      · have h := it2 h c9
        refine jB C [(.aload_n 0, 1, 0), (.bipush (-5), 2, (-5))] 46 [(0, .ref (b + v0)), (1, .int v1), (2, .int v2)] [.int (-5), .ref (b + v0)] (by decide +kernel) rfl rfl ?_
        refine jcV_I C 49 (rest := []) (ok_X10_refuse t_v0 h) (by decide +kernel : decode cX10_saw 46 = .ok (.invokevirtual 78, 3)) rfl wd_355 wd_357 wp_0 wd_1 wd_358 ⟨rfl, rfl⟩ hd_X10_refuse ⟨Nat.le_of_ble_eq_true rfl, Nat.le_of_ble_eq_true rfl⟩ t_v0 kX10 (by decide) rfl rfl rfl (Nat.le_of_ble_eq_true rfl) ⟨Nat.zero_le _, Nat.zero_le _⟩ (fun r16 S15 h => ?_)
        exact jRetI C (by decide +kernel : decode cX10_saw 49 = .ok (.ireturn, 1)) (Nat.le_refl _) (Nat.le_refl _) ⟨rfl, h⟩
    · have h := it1 h c7
      refine jB C [(.aload_n 0, 1, 0), (.bipush (-2), 2, (-2))] 27 [(0, .ref (b + v0)), (1, .int v1), (2, .int v2)] [.int (-2), .ref (b + v0)] (by decide +kernel) rfl rfl ?_
      refine jcV_I C 30 (rest := []) (ok_X10_refuse t_v0 h) (by decide +kernel : decode cX10_saw 27 = .ok (.invokevirtual 78, 3)) rfl wd_355 wd_357 wp_0 wd_1 wd_358 ⟨rfl, rfl⟩ hd_X10_refuse ⟨Nat.le_of_ble_eq_true rfl, Nat.le_of_ble_eq_true rfl⟩ t_v0 kX10 (by decide) rfl rfl rfl (Nat.le_of_ble_eq_true rfl) ⟨Nat.zero_le _, Nat.zero_le _⟩ (fun r18 S17 h => ?_)
      exact jRetI C (by decide +kernel : decode cX10_saw 30 = .ok (.ireturn, 1)) (Nat.le_refl _) (Nat.le_refl _) ⟨rfl, h⟩
  · have h := it1 h c3
    refine jB C [(.aload_n 0, 1, 0), (.iconst (-1), 1, (-1))] 9 [(0, .ref (b + v0)), (1, .int v1), (2, .int v2)] [.int (-1), .ref (b + v0)] (by decide +kernel) rfl rfl ?_
    refine jcV_I C 12 (rest := []) (ok_X10_refuse t_v0 h) (by decide +kernel : decode cX10_saw 9 = .ok (.invokevirtual 78, 3)) rfl wd_355 wd_357 wp_0 wd_1 wd_358 ⟨rfl, rfl⟩ hd_X10_refuse ⟨Nat.le_of_ble_eq_true rfl, Nat.le_of_ble_eq_true rfl⟩ t_v0 kX10 (by decide) rfl rfl rfl (Nat.le_of_ble_eq_true rfl) ⟨Nat.zero_le _, Nat.zero_le _⟩ (fun r20 S19 h => ?_)
    exact jRetI C (by decide +kernel : decode cX10_saw 12 = .ok (.ireturn, 1)) (Nat.le_refl _) (Nat.le_refl _) ⟨rfl, h⟩
theorem ok_X10_saw {G : Gm} {v0 : Nat} {v1 : Int32} {v2 : Int32} {S : St} {Q : Int32 → St → Prop}  (t_v0 : ok G 9 v0) (h : f_X10_saw G v0 v1 v2 Q S) : MT yX10_saw cX10_saw 3 (some .int) rm_X10_saw 0 0 (fun b => [.ref (b + v0), .int v1, .int v2]) G S (QI (fun r G1 S1 => G1 = G ∧ Q r S1)) := MT.ofJ (by decide +kernel) (fun b => [(0, .ref (b + v0)), (1, .int v1), (2, .int v2)]) (fun b => rfl) (fun b => Nat.le_of_ble_eq_true rfl) (fun l b D cy p e s m below meth c C hE hn => j_X10_saw C hE t_v0 h)
theorem hd_X10_saw : yX10_saw.cls ≠ "java/lang/invoke/MethodHandle" ∧ yX10_saw.cls ≠ "java/lang/invoke/VarHandle" ∧ (parseMethodDescriptor yX10_saw.desc).map (fun d => d.parameters.length) = some 2 := by decide +kernel
abbrev rm_X4_sceneAt : Room := { frames := 4, cells := 0, slots := 0, locals := 93 }
set_option maxHeartbeats 4000000 in
set_option maxRecDepth 100000 in
theorem j_X4_sceneAt {p : Program} {l : Launch} {e : Env} {s : State} {m : MethodId} {args : Array Value} {below : List Frame} {meth : Method} {c : Code} {b : Nat} {D : va_G} {cy : Nat → ClassId} {G : Gm} {v0 : Nat} {v1 : Nat} {v2 : Int32} {S : St} {Q : Int32 → St → Prop} (C : CX p s m args meth c b D cy cX4_sceneAt RX4 4 (some .int)) (hE : s.heap.size + 0 ≤ b + G.2.2) (t_v0 : ok G 3 v0) (t_v1 : ok G 4 v1) (h : f_X4_sceneAt G v0 v1 v2 Q S) : J p l e rm_X4_sceneAt s m args below meth c b D cy 4 (zI b D cy below args s G Q) 0 0 G S 0 [(0, .ref (b + v0)), (1, .ref (b + v1)), (2, .int v2)] [] := by
  unfold f_X4_sceneAt at h
  refine jB C [(.aload_n 0, 1, 0), (.aload_n 1, 1, 0)] 2 [(0, .ref (b + v0)), (1, .ref (b + v1)), (2, .int v2)] [.ref (b + v1), .ref (b + v0)] (by decide +kernel) rfl rfl ?_
  refine jcV_I C 5 (rest := []) (ok_X4_findScenes t_v0 t_v1 h) (by decide +kernel : decode cX4_sceneAt 2 = .ok (.invokevirtual 81, 3)) rfl wd_954 wd_956 wp_82 wd_8 wd_957 ⟨rfl, rfl⟩ hd_X4_findScenes ⟨Nat.le_of_ble_eq_true rfl, Nat.le_of_ble_eq_true rfl⟩ t_v0 kX4 (by decide) rfl rfl rfl (Nat.le_of_ble_eq_true rfl) ⟨Nat.zero_le _, Nat.zero_le _⟩ (fun r2 S1 h => ?_)
  refine jB C [(.istore_n 3, 1, 0), (.iload_n 2, 1, 0), (.iconst (-1), 1, (-1))] 8 [(3, .int r2), (0, .ref (b + v0)), (1, .ref (b + v1)), (2, .int v2)] [.int (-1), .int v2] (by decide +kernel) rfl rfl ?_
  refine jIcmp_ne C 11 13 (by decide +kernel : decode cX4_sceneAt 8 = .ok (.if_icmp .ne 5, 3)) rfl rfl (fun c3 => ?_) (fun c3 => ?_)
  · have h := it2 h c3
    refine jB C [(.iload_n 2, 1, 0), (.iload_n 3, 1, 0)] 15 [(3, .int r2), (0, .ref (b + v0)), (1, .ref (b + v1)), (2, .int v2)] [.int r2, .int v2] (by decide +kernel) rfl rfl ?_
    refine jIcmp_ge C 18 34 (by decide +kernel : decode cX4_sceneAt 15 = .ok (.if_icmp .ge 19, 3)) rfl rfl (fun c4 => ?_) (fun c4 => ?_)
    · have h := it1 h c4
      refine jB C [(.iconst (-1), 1, (-1))] 35 [(3, .int r2), (0, .ref (b + v0)), (1, .ref (b + v1)), (2, .int v2)] [.int (-1)] (by decide +kernel) rfl rfl ?_
      exact jRetI C (by decide +kernel : decode cX4_sceneAt 35 = .ok (.ireturn, 1)) (Nat.le_refl _) (Nat.le_refl _) ⟨rfl, h⟩
    · have h := it2 h c4
      refine jB C [(.iload_n 2, 1, 0), (.sipush 256, 3, 256)] 22 [(3, .int r2), (0, .ref (b + v0)), (1, .ref (b + v1)), (2, .int v2)] [.int 256, .int v2] (by decide +kernel) rfl rfl ?_
      refine jIcmp_ge C 25 34 (by decide +kernel : decode cX4_sceneAt 22 = .ok (.if_icmp .ge 12, 3)) rfl rfl (fun c5 => ?_) (fun c5 => ?_)
      · have h := it1 h c5
        refine jB C [(.iconst (-1), 1, (-1))] 35 [(3, .int r2), (0, .ref (b + v0)), (1, .ref (b + v1)), (2, .int v2)] [.int (-1)] (by decide +kernel) rfl rfl ?_
        exact jRetI C (by decide +kernel : decode cX4_sceneAt 35 = .ok (.ireturn, 1)) (Nat.le_refl _) (Nat.le_refl _) ⟨rfl, h⟩
      · have h := it2 h c5
        refine jB C [(.aload_n 0, 1, 0)] 26 [(3, .int r2), (0, .ref (b + v0)), (1, .ref (b + v1)), (2, .int v2)] [.ref (b + v0)] (by decide +kernel) rfl rfl ?_
        obtain ⟨a6, e_a6, h⟩ := h
        refine jGetR C 29 (by decide +kernel : decode cX4_sceneAt 26 = .ok (.getfield 31, 3)) rfl t_v0 kX4 5 (by decide) rfl rfl (by decide) wd_196 e_a6 rfl (fun t_a6 => ?_)
        refine jB C [(.iload_n 2, 1, 0)] 30 [(3, .int r2), (0, .ref (b + v0)), (1, .ref (b + v1)), (2, .int v2)] [.int v2, .ref (b + a6)] (by decide +kernel) rfl rfl ?_
        obtain ⟨y7, h⟩ := h
        refine jIald C 31 (by decide +kernel : decode cX4_sceneAt 30 = .ok (.iaload, 1)) rfl t_a6 y7 ?_
        refine jGoto C 35 (by decide +kernel : decode cX4_sceneAt 31 = .ok (.goto 4, 3)) rfl ?_
        exact jRetI C (by decide +kernel : decode cX4_sceneAt 35 = .ok (.ireturn, 1)) (Nat.le_refl _) (Nat.le_refl _) ⟨rfl, h⟩
  · have h := it1 h c3
    refine jB C [(.iload_n 3, 1, 0)] 12 [(3, .int r2), (0, .ref (b + v0)), (1, .ref (b + v1)), (2, .int v2)] [.int r2] (by decide +kernel) rfl rfl ?_
    exact jRetI C (by decide +kernel : decode cX4_sceneAt 12 = .ok (.ireturn, 1)) (Nat.le_refl _) (Nat.le_refl _) ⟨rfl, h⟩
theorem ok_X4_sceneAt {G : Gm} {v0 : Nat} {v1 : Nat} {v2 : Int32} {S : St} {Q : Int32 → St → Prop}  (t_v0 : ok G 3 v0) (t_v1 : ok G 4 v1) (h : f_X4_sceneAt G v0 v1 v2 Q S) : MT yX4_sceneAt cX4_sceneAt 4 (some .int) rm_X4_sceneAt 0 0 (fun b => [.ref (b + v0), .ref (b + v1), .int v2]) G S (QI (fun r G1 S1 => G1 = G ∧ Q r S1)) := MT.ofJ (by decide +kernel) (fun b => [(0, .ref (b + v0)), (1, .ref (b + v1)), (2, .int v2)]) (fun b => rfl) (fun b => Nat.le_of_ble_eq_true rfl) (fun l b D cy p e s m below meth c C hE hn => j_X4_sceneAt C hE t_v0 t_v1 h)
theorem hd_X4_sceneAt : yX4_sceneAt.cls ≠ "java/lang/invoke/MethodHandle" ∧ yX4_sceneAt.cls ≠ "java/lang/invoke/VarHandle" ∧ (parseMethodDescriptor yX4_sceneAt.desc).map (fun d => d.parameters.length) = some 2 := by decide +kernel
abbrev rm_X10_scenes : Room := { frames := 5, cells := 0, slots := 0, locals := 116 }
set_option maxHeartbeats 4000000 in
set_option maxRecDepth 100000 in
theorem j_X10_scenes {p : Program} {l : Launch} {e : Env} {s : State} {m : MethodId} {args : Array Value} {below : List Frame} {meth : Method} {c : Code} {b : Nat} {D : va_G} {cy : Nat → ClassId} {G : Gm} {v0 : Nat} {v1 : Int32} {S : St} {Q : Int32 → St → Prop} (C : CX p s m args meth c b D cy cX10_scenes RX10 2 (some .int)) (hE : s.heap.size + 0 ≤ b + G.2.2) (t_v0 : ok G 9 v0) (h : f_X10_scenes G v0 v1 Q S) : J p l e rm_X10_scenes s m args below meth c b D cy 2 (zI b D cy below args s G Q) 0 0 G S 0 [(0, .ref (b + v0)), (1, .int v1)] [] := by
  unfold f_X10_scenes at h
  refine jB C [(.iload_n 1, 1, 0), (.iconst (-1), 1, (-1))] 2 [(0, .ref (b + v0)), (1, .int v1)] [.int (-1), .int v1] (by decide +kernel) rfl rfl ?_
  refine jIcmp_lt C 5 20 (by decide +kernel : decode cX10_scenes 2 = .ok (.if_icmp .lt 18, 3)) rfl rfl (fun c1 => ?_) (fun c1 => ?_)
  · have h := it1 h c1
    refine jB C [(.iconst (-1), 1, (-1))] 21 [(0, .ref (b + v0)), (1, .int v1)] [.int (-1)] (by decide +kernel) rfl rfl ?_
    exact jRetI C (by decide +kernel : decode cX10_scenes 21 = .ok (.ireturn, 1)) (Nat.le_refl _) (Nat.le_refl _) ⟨rfl, h⟩
  · have h := it2 h c1
    refine jB C [(.aload_n 0, 1, 0)] 6 [(0, .ref (b + v0)), (1, .int v1)] [.ref (b + v0)] (by decide +kernel) rfl rfl ?_
    obtain ⟨a2, e_a2, h⟩ := h
    refine jGetR C 9 (by decide +kernel : decode cX10_scenes 6 = .ok (.getfield 56, 3)) rfl t_v0 kX10 7 (by decide) rfl rfl (by decide) wd_318 e_a2 rfl (fun t_a2 => ?_)
    refine jB C [(.aload_n 0, 1, 0)] 10 [(0, .ref (b + v0)), (1, .int v1)] [.ref (b + v0), .ref (b + a2)] (by decide +kernel) rfl rfl ?_
    obtain ⟨a3, e_a3, h⟩ := h
    refine jGetR C 13 (by decide +kernel : decode cX10_scenes 10 = .ok (.getfield 14, 3)) rfl t_v0 kX10 0 (by decide) rfl rfl (by decide) wd_311 e_a3 rfl (fun t_a3 => ?_)
    refine jB C [(.iload_n 1, 1, 0)] 14 [(0, .ref (b + v0)), (1, .int v1)] [.int v1, .ref (b + a3), .ref (b + a2)] (by decide +kernel) rfl rfl ?_
    refine jcVN_I C 17 (rest := []) (ok_X4_sceneAt t_a2 t_a3 h) (by decide +kernel : decode cX10_scenes 14 = .ok (.invokevirtual 262, 3)) rfl wn_950 wd_952 wp_81 wd_8 wd_953 ⟨rfl, rfl⟩ hd_X4_sceneAt ⟨Nat.le_of_ble_eq_true rfl, Nat.le_of_ble_eq_true rfl⟩ t_a2 kX4 (by decide) rfl rfl rfl (Nat.le_of_ble_eq_true rfl) ⟨Nat.zero_le _, Nat.zero_le _⟩ (fun r5 S4 h => ?_)
    refine jGoto C 21 (by decide +kernel : decode cX10_scenes 17 = .ok (.goto 4, 3)) rfl ?_
    exact jRetI C (by decide +kernel : decode cX10_scenes 21 = .ok (.ireturn, 1)) (Nat.le_refl _) (Nat.le_refl _) ⟨rfl, h⟩
theorem ok_X10_scenes {G : Gm} {v0 : Nat} {v1 : Int32} {S : St} {Q : Int32 → St → Prop}  (t_v0 : ok G 9 v0) (h : f_X10_scenes G v0 v1 Q S) : MT yX10_scenes cX10_scenes 2 (some .int) rm_X10_scenes 0 0 (fun b => [.ref (b + v0), .int v1]) G S (QI (fun r G1 S1 => G1 = G ∧ Q r S1)) := MT.ofJ (by decide +kernel) (fun b => [(0, .ref (b + v0)), (1, .int v1)]) (fun b => rfl) (fun b => Nat.le_of_ble_eq_true rfl) (fun l b D cy p e s m below meth c C hE hn => j_X10_scenes C hE t_v0 h)
theorem hd_X10_scenes : yX10_scenes.cls ≠ "java/lang/invoke/MethodHandle" ∧ yX10_scenes.cls ≠ "java/lang/invoke/VarHandle" ∧ (parseMethodDescriptor yX10_scenes.desc).map (fun d => d.parameters.length) = some 1 := by decide +kernel
abbrev rm_X10_sin : Room := { frames := 6, cells := 0, slots := 0, locals := 160 }
set_option maxHeartbeats 4000000 in
set_option maxRecDepth 100000 in
theorem j_X10_sin {p : Program} {l : Launch} {e : Env} {s : State} {m : MethodId} {args : Array Value} {below : List Frame} {meth : Method} {c : Code} {b : Nat} {D : va_G} {cy : Nat → ClassId} {G : Gm} {v0 : Nat} {v1 : Int32} {v2 : Int32} {v3 : Int32} {S : St} {Q : Int32 → St → Prop} (C : CX p s m args meth c b D cy cX10_sin RX10 4 (some .int)) (hE : s.heap.size + 0 ≤ b + G.2.2) (t_v0 : ok G 9 v0) (h : f_X10_sin G v0 v1 v2 v3 Q S) : J p l e rm_X10_sin s m args below meth c b D cy 4 (zI b D cy below args s G Q) 0 0 G S 0 [(0, .ref (b + v0)), (1, .int v1), (2, .int v2), (3, .int v3)] [] := by
  unfold f_X10_sin at h
  refine jB C [(.aload_n 0, 1, 0), (.aload_n 0, 1, 0)] 2 [(0, .ref (b + v0)), (1, .int v1), (2, .int v2), (3, .int v3)] [.ref (b + v0), .ref (b + v0)] (by decide +kernel) rfl rfl ?_
  obtain ⟨a1, e_a1, h⟩ := h
  refine jGetR C 5 (by decide +kernel : decode cX10_sin 2 = .ok (.getfield 42, 3)) rfl t_v0 kX10 5 (by decide) rfl rfl (by decide) wd_316 e_a1 rfl (fun t_a1 => ?_)
  refine jB C [(.aload_n 0, 1, 0)] 6 [(0, .ref (b + v0)), (1, .int v1), (2, .int v2), (3, .int v3)] [.ref (b + v0), .ref (b + a1), .ref (b + v0)] (by decide +kernel) rfl rfl ?_
  obtain ⟨a2, e_a2, h⟩ := h
  refine jGetR C 9 (by decide +kernel : decode cX10_sin 6 = .ok (.getfield 14, 3)) rfl t_v0 kX10 0 (by decide) rfl rfl (by decide) wd_311 e_a2 rfl (fun t_a2 => ?_)
  refine jB C [(.aload_n 0, 1, 0)] 10 [(0, .ref (b + v0)), (1, .int v1), (2, .int v2), (3, .int v3)] [.ref (b + v0), .ref (b + a2), .ref (b + a1), .ref (b + v0)] (by decide +kernel) rfl rfl ?_
  obtain ⟨a3, e_a3, h⟩ := h
  refine jGetR C 13 (by decide +kernel : decode cX10_sin 10 = .ok (.getfield 28, 3)) rfl t_v0 kX10 3 (by decide) rfl rfl (by decide) wd_314 e_a3 rfl (fun t_a3 => ?_)
  refine jB C [(.iconst 0, 1, 0), (.iload_n 1, 1, 0), (.iload_n 2, 1, 0), (.iload_n 3, 1, 0)] 17 [(0, .ref (b + v0)), (1, .int v1), (2, .int v2), (3, .int v3)] [.int v3, .int v2, .int v1, .int 0, .ref (b + a3), .ref (b + a2), .ref (b + a1), .ref (b + v0)] (by decide +kernel) rfl rfl ?_
  refine jcVN_I C 20 (rest := [.ref (b + v0)]) (ok_X1_act t_a1 t_a2 t_a3 h) (by decide +kernel : decode cX10_sin 17 = .ok (.invokevirtual 239, 3)) rfl wn_883 wd_817 wp_69 wd_6 wd_818 ⟨rfl, rfl⟩ hd_X1_act ⟨Nat.le_of_ble_eq_true rfl, Nat.le_of_ble_eq_true rfl⟩ t_a1 kX1 (by decide) rfl rfl rfl (Nat.le_of_ble_eq_true rfl) ⟨Nat.zero_le _, Nat.zero_le _⟩ (fun r5 S4 h => ?_)
  refine jcV_I C 23 (rest := []) (ok_X10_judged t_v0 h) (by decide +kernel : decode cX10_sin 20 = .ok (.invokevirtual 243, 3)) rfl wd_884 wd_886 wp_75 wd_1 wd_887 ⟨rfl, rfl⟩ hd_X10_judged ⟨Nat.le_of_ble_eq_true rfl, Nat.le_of_ble_eq_true rfl⟩ t_v0 kX10 (by decide) rfl rfl rfl (Nat.le_of_ble_eq_true rfl) ⟨Nat.zero_le _, Nat.zero_le _⟩ (fun r7 S6 h => ?_)
  exact jRetI C (by decide +kernel : decode cX10_sin 23 = .ok (.ireturn, 1)) (Nat.le_refl _) (Nat.le_refl _) ⟨rfl, h⟩
theorem ok_X10_sin {G : Gm} {v0 : Nat} {v1 : Int32} {v2 : Int32} {v3 : Int32} {S : St} {Q : Int32 → St → Prop}  (t_v0 : ok G 9 v0) (h : f_X10_sin G v0 v1 v2 v3 Q S) : MT yX10_sin cX10_sin 4 (some .int) rm_X10_sin 0 0 (fun b => [.ref (b + v0), .int v1, .int v2, .int v3]) G S (QI (fun r G1 S1 => G1 = G ∧ Q r S1)) := MT.ofJ (by decide +kernel) (fun b => [(0, .ref (b + v0)), (1, .int v1), (2, .int v2), (3, .int v3)]) (fun b => rfl) (fun b => Nat.le_of_ble_eq_true rfl) (fun l b D cy p e s m below meth c C hE hn => j_X10_sin C hE t_v0 h)
theorem hd_X10_sin : yX10_sin.cls ≠ "java/lang/invoke/MethodHandle" ∧ yX10_sin.cls ≠ "java/lang/invoke/VarHandle" ∧ (parseMethodDescriptor yX10_sin.desc).map (fun d => d.parameters.length) = some 3 := by decide +kernel
abbrev rm_X10_smears : Room := { frames := 0, cells := 0, slots := 0, locals := 0 }
set_option maxHeartbeats 4000000 in
set_option maxRecDepth 100000 in
theorem j_X10_smears {p : Program} {l : Launch} {e : Env} {s : State} {m : MethodId} {args : Array Value} {below : List Frame} {meth : Method} {c : Code} {b : Nat} {D : va_G} {cy : Nat → ClassId} {G : Gm} {v0 : Nat} {S : St} {Q : Int32 → St → Prop} (C : CX p s m args meth c b D cy cX10_smears RX10 1 (some .int)) (hE : s.heap.size + 0 ≤ b + G.2.2) (t_v0 : ok G 9 v0) (h : f_X10_smears G v0 Q S) : J p l e rm_X10_smears s m args below meth c b D cy 1 (zI b D cy below args s G Q) 0 0 G S 0 [(0, .ref (b + v0))] [] := by
  unfold f_X10_smears at h
  refine jB C [(.aload_n 0, 1, 0)] 1 [(0, .ref (b + v0))] [.ref (b + v0)] (by decide +kernel) rfl rfl ?_
  refine jGetI C 4 (by decide +kernel : decode cX10_smears 1 = .ok (.getfield 180, 3)) rfl t_v0 kX10 11 (by decide) rfl rfl (by decide) wd_322 ?_
  exact jRetI C (by decide +kernel : decode cX10_smears 4 = .ok (.ireturn, 1)) (Nat.le_refl _) (Nat.le_refl _) ⟨rfl, h⟩
theorem ok_X10_smears {G : Gm} {v0 : Nat} {S : St} {Q : Int32 → St → Prop}  (t_v0 : ok G 9 v0) (h : f_X10_smears G v0 Q S) : MT yX10_smears cX10_smears 1 (some .int) rm_X10_smears 0 0 (fun b => [.ref (b + v0)]) G S (QI (fun r G1 S1 => G1 = G ∧ Q r S1)) := MT.ofJ (by decide +kernel) (fun b => [(0, .ref (b + v0))]) (fun b => rfl) (fun b => Nat.le_of_ble_eq_true rfl) (fun l b D cy p e s m below meth c C hE hn => j_X10_smears C hE t_v0 h)
theorem hd_X10_smears : yX10_smears.cls ≠ "java/lang/invoke/MethodHandle" ∧ yX10_smears.cls ≠ "java/lang/invoke/VarHandle" ∧ (parseMethodDescriptor yX10_smears.desc).map (fun d => d.parameters.length) = some 0 := by decide +kernel
abbrev rm_X10_status : Room := { frames := 0, cells := 0, slots := 0, locals := 0 }
set_option maxHeartbeats 4000000 in
set_option maxRecDepth 100000 in
theorem j_X10_status {p : Program} {l : Launch} {e : Env} {s : State} {m : MethodId} {args : Array Value} {below : List Frame} {meth : Method} {c : Code} {b : Nat} {D : va_G} {cy : Nat → ClassId} {G : Gm} {v0 : Nat} {S : St} {Q : Int32 → St → Prop} (C : CX p s m args meth c b D cy cX10_status RX10 1 (some .int)) (hE : s.heap.size + 0 ≤ b + G.2.2) (t_v0 : ok G 9 v0) (h : f_X10_status G v0 Q S) : J p l e rm_X10_status s m args below meth c b D cy 1 (zI b D cy below args s G Q) 0 0 G S 0 [(0, .ref (b + v0))] [] := by
  unfold f_X10_status at h
  refine jB C [(.aload_n 0, 1, 0)] 1 [(0, .ref (b + v0))] [.ref (b + v0)] (by decide +kernel) rfl rfl ?_
  refine jGetI C 4 (by decide +kernel : decode cX10_status 1 = .ok (.getfield 311, 3)) rfl t_v0 kX10 10 (by decide) rfl rfl (by decide) wd_321 ?_
  exact jRetI C (by decide +kernel : decode cX10_status 4 = .ok (.ireturn, 1)) (Nat.le_refl _) (Nat.le_refl _) ⟨rfl, h⟩
theorem ok_X10_status {G : Gm} {v0 : Nat} {S : St} {Q : Int32 → St → Prop}  (t_v0 : ok G 9 v0) (h : f_X10_status G v0 Q S) : MT yX10_status cX10_status 1 (some .int) rm_X10_status 0 0 (fun b => [.ref (b + v0)]) G S (QI (fun r G1 S1 => G1 = G ∧ Q r S1)) := MT.ofJ (by decide +kernel) (fun b => [(0, .ref (b + v0))]) (fun b => rfl) (fun b => Nat.le_of_ble_eq_true rfl) (fun l b D cy p e s m below meth c C hE hn => j_X10_status C hE t_v0 h)
theorem hd_X10_status : yX10_status.cls ≠ "java/lang/invoke/MethodHandle" ∧ yX10_status.cls ≠ "java/lang/invoke/VarHandle" ∧ (parseMethodDescriptor yX10_status.desc).map (fun d => d.parameters.length) = some 0 := by decide +kernel
abbrev rm_X10_stopped : Room := { frames := 0, cells := 0, slots := 0, locals := 0 }
set_option maxHeartbeats 4000000 in
set_option maxRecDepth 100000 in
theorem j_X10_stopped {p : Program} {l : Launch} {e : Env} {s : State} {m : MethodId} {args : Array Value} {below : List Frame} {meth : Method} {c : Code} {b : Nat} {D : va_G} {cy : Nat → ClassId} {G : Gm} {v0 : Nat} {S : St} {Q : Int32 → St → Prop} (C : CX p s m args meth c b D cy cX10_stopped RX10 1 (some .int)) (hE : s.heap.size + 0 ≤ b + G.2.2) (t_v0 : ok G 9 v0) (h : f_X10_stopped G v0 Q S) : J p l e rm_X10_stopped s m args below meth c b D cy 1 (zI b D cy below args s G Q) 0 0 G S 0 [(0, .ref (b + v0))] [] := by
  unfold f_X10_stopped at h
  refine jB C [(.aload_n 0, 1, 0)] 1 [(0, .ref (b + v0))] [.ref (b + v0)] (by decide +kernel) rfl rfl ?_
  refine jGetI C 4 (by decide +kernel : decode cX10_stopped 1 = .ok (.getfield 71, 3)) rfl t_v0 kX10 12 (by decide) rfl rfl (by decide) wd_323 ?_
  exact jRetI C (by decide +kernel : decode cX10_stopped 4 = .ok (.ireturn, 1)) (Nat.le_refl _) (Nat.le_refl _) ⟨rfl, h⟩
theorem ok_X10_stopped {G : Gm} {v0 : Nat} {S : St} {Q : Int32 → St → Prop}  (t_v0 : ok G 9 v0) (h : f_X10_stopped G v0 Q S) : MT yX10_stopped cX10_stopped 1 (some .int) rm_X10_stopped 0 0 (fun b => [.ref (b + v0)]) G S (QI (fun r G1 S1 => G1 = G ∧ Q r S1)) := MT.ofJ (by decide +kernel) (fun b => [(0, .ref (b + v0))]) (fun b => rfl) (fun b => Nat.le_of_ble_eq_true rfl) (fun l b D cy p e s m below meth c C hE hn => j_X10_stopped C hE t_v0 h)
theorem hd_X10_stopped : yX10_stopped.cls ≠ "java/lang/invoke/MethodHandle" ∧ yX10_stopped.cls ≠ "java/lang/invoke/VarHandle" ∧ (parseMethodDescriptor yX10_stopped.desc).map (fun d => d.parameters.length) = some 0 := by decide +kernel
abbrev rm_X10_swap : Room := { frames := 6, cells := 0, slots := 0, locals := 160 }
set_option maxHeartbeats 4000000 in
set_option maxRecDepth 100000 in
theorem j_X10_swap {p : Program} {l : Launch} {e : Env} {s : State} {m : MethodId} {args : Array Value} {below : List Frame} {meth : Method} {c : Code} {b : Nat} {D : va_G} {cy : Nat → ClassId} {G : Gm} {v0 : Nat} {v1 : Int32} {v2 : Int32} {S : St} {Q : Int32 → St → Prop} (C : CX p s m args meth c b D cy cX10_swap RX10 3 (some .int)) (hE : s.heap.size + 0 ≤ b + G.2.2) (t_v0 : ok G 9 v0) (h : f_X10_swap G v0 v1 v2 Q S) : J p l e rm_X10_swap s m args below meth c b D cy 3 (zI b D cy below args s G Q) 0 0 G S 0 [(0, .ref (b + v0)), (1, .int v1), (2, .int v2)] [] := by
  unfold f_X10_swap at h
  refine jB C [(.aload_n 0, 1, 0), (.aload_n 0, 1, 0)] 2 [(0, .ref (b + v0)), (1, .int v1), (2, .int v2)] [.ref (b + v0), .ref (b + v0)] (by decide +kernel) rfl rfl ?_
  obtain ⟨a1, e_a1, h⟩ := h
  refine jGetR C 5 (by decide +kernel : decode cX10_swap 2 = .ok (.getfield 42, 3)) rfl t_v0 kX10 5 (by decide) rfl rfl (by decide) wd_316 e_a1 rfl (fun t_a1 => ?_)
  refine jB C [(.aload_n 0, 1, 0)] 6 [(0, .ref (b + v0)), (1, .int v1), (2, .int v2)] [.ref (b + v0), .ref (b + a1), .ref (b + v0)] (by decide +kernel) rfl rfl ?_
  obtain ⟨a2, e_a2, h⟩ := h
  refine jGetR C 9 (by decide +kernel : decode cX10_swap 6 = .ok (.getfield 14, 3)) rfl t_v0 kX10 0 (by decide) rfl rfl (by decide) wd_311 e_a2 rfl (fun t_a2 => ?_)
  refine jB C [(.aload_n 0, 1, 0)] 10 [(0, .ref (b + v0)), (1, .int v1), (2, .int v2)] [.ref (b + v0), .ref (b + a2), .ref (b + a1), .ref (b + v0)] (by decide +kernel) rfl rfl ?_
  obtain ⟨a3, e_a3, h⟩ := h
  refine jGetR C 13 (by decide +kernel : decode cX10_swap 10 = .ok (.getfield 28, 3)) rfl t_v0 kX10 3 (by decide) rfl rfl (by decide) wd_314 e_a3 rfl (fun t_a3 => ?_)
  refine jB C [(.iconst 2, 1, 2), (.iload_n 1, 1, 0), (.iload_n 2, 1, 0), (.iconst 0, 1, 0)] 17 [(0, .ref (b + v0)), (1, .int v1), (2, .int v2)] [.int 0, .int v2, .int v1, .int 2, .ref (b + a3), .ref (b + a2), .ref (b + a1), .ref (b + v0)] (by decide +kernel) rfl rfl ?_
  refine jcVN_I C 20 (rest := [.ref (b + v0)]) (ok_X1_act t_a1 t_a2 t_a3 h) (by decide +kernel : decode cX10_swap 17 = .ok (.invokevirtual 239, 3)) rfl wn_883 wd_817 wp_69 wd_6 wd_818 ⟨rfl, rfl⟩ hd_X1_act ⟨Nat.le_of_ble_eq_true rfl, Nat.le_of_ble_eq_true rfl⟩ t_a1 kX1 (by decide) rfl rfl rfl (Nat.le_of_ble_eq_true rfl) ⟨Nat.zero_le _, Nat.zero_le _⟩ (fun r5 S4 h => ?_)
  refine jcV_I C 23 (rest := []) (ok_X10_judged t_v0 h) (by decide +kernel : decode cX10_swap 20 = .ok (.invokevirtual 243, 3)) rfl wd_884 wd_886 wp_75 wd_1 wd_887 ⟨rfl, rfl⟩ hd_X10_judged ⟨Nat.le_of_ble_eq_true rfl, Nat.le_of_ble_eq_true rfl⟩ t_v0 kX10 (by decide) rfl rfl rfl (Nat.le_of_ble_eq_true rfl) ⟨Nat.zero_le _, Nat.zero_le _⟩ (fun r7 S6 h => ?_)
  exact jRetI C (by decide +kernel : decode cX10_swap 23 = .ok (.ireturn, 1)) (Nat.le_refl _) (Nat.le_refl _) ⟨rfl, h⟩
theorem ok_X10_swap {G : Gm} {v0 : Nat} {v1 : Int32} {v2 : Int32} {S : St} {Q : Int32 → St → Prop}  (t_v0 : ok G 9 v0) (h : f_X10_swap G v0 v1 v2 Q S) : MT yX10_swap cX10_swap 3 (some .int) rm_X10_swap 0 0 (fun b => [.ref (b + v0), .int v1, .int v2]) G S (QI (fun r G1 S1 => G1 = G ∧ Q r S1)) := MT.ofJ (by decide +kernel) (fun b => [(0, .ref (b + v0)), (1, .int v1), (2, .int v2)]) (fun b => rfl) (fun b => Nat.le_of_ble_eq_true rfl) (fun l b D cy p e s m below meth c C hE hn => j_X10_swap C hE t_v0 h)
theorem hd_X10_swap : yX10_swap.cls ≠ "java/lang/invoke/MethodHandle" ∧ yX10_swap.cls ≠ "java/lang/invoke/VarHandle" ∧ (parseMethodDescriptor yX10_swap.desc).map (fun d => d.parameters.length) = some 2 := by decide +kernel
abbrev rm_X10_terms : Room := { frames := 1, cells := 0, slots := 0, locals := 22 }
set_option maxHeartbeats 4000000 in
set_option maxRecDepth 100000 in
theorem j_X10_terms_22 {p : Program} {l : Launch} {e : Env} {s : State} {m : MethodId} {args : Array Value} {below : List Frame} {meth : Method} {c : Code} {b : Nat} {D : va_G} {cy : Nat → ClassId} {G : Gm} {v0 : Nat} {S : St} {Q : Int32 → St → Prop} (C : CX p s m args meth c b D cy cX10_terms RX10 4 (some .int)) (hE : s.heap.size + 0 ≤ b + G.2.2) (t_v0 : ok G 9 v0) (h : f_X10_terms_22 G v0 Q S) : J p l e rm_X10_terms s m args below meth c b D cy 4 (zI b D cy below args s G Q) 0 0 G S 22 [(0, .ref (b + v0))] [] := by
  unfold f_X10_terms_22 at h
  refine jB C [(.aload_n 0, 1, 0), (.iconst (-1), 1, (-1))] 24 [(0, .ref (b + v0))] [.int (-1), .ref (b + v0)] (by decide +kernel) rfl rfl ?_
  refine jcV_I C 27 (rest := []) (ok_X10_refuse t_v0 h) (by decide +kernel : decode cX10_terms 24 = .ok (.invokevirtual 78, 3)) rfl wd_355 wd_357 wp_0 wd_1 wd_358 ⟨rfl, rfl⟩ hd_X10_refuse ⟨Nat.le_of_ble_eq_true rfl, Nat.le_of_ble_eq_true rfl⟩ t_v0 kX10 (by decide) rfl rfl rfl (Nat.le_of_ble_eq_true rfl) ⟨Nat.zero_le _, Nat.zero_le _⟩ (fun r2 S1 h => ?_)
  exact jRetI C (by decide +kernel : decode cX10_terms 27 = .ok (.ireturn, 1)) (Nat.le_refl _) (Nat.le_refl _) ⟨rfl, h⟩
set_option maxHeartbeats 4000000 in
set_option maxRecDepth 100000 in
theorem j_X10_terms {p : Program} {l : Launch} {e : Env} {s : State} {m : MethodId} {args : Array Value} {below : List Frame} {meth : Method} {c : Code} {b : Nat} {D : va_G} {cy : Nat → ClassId} {G : Gm} {v0 : Nat} {v1 : Int32} {v2 : Int32} {S : St} {Q : Int32 → St → Prop} (C : CX p s m args meth c b D cy cX10_terms RX10 4 (some .int)) (hE : s.heap.size + 0 ≤ b + G.2.2) (t_v0 : ok G 9 v0) (h : f_X10_terms G v0 v1 v2 Q S) : J p l e rm_X10_terms s m args below meth c b D cy 4 (zI b D cy below args s G Q) 0 0 G S 0 [(0, .ref (b + v0)), (1, .int v1), (2, .int v2)] [] := by
  unfold f_X10_terms at h
  refine jB C [(.iload_n 1, 1, 0)] 1 [(0, .ref (b + v0)), (1, .int v1), (2, .int v2)] [.int v1] (by decide +kernel) rfl rfl ?_
  refine jIf_lt C 4 22 (by decide +kernel : decode cX10_terms 1 = .ok (.ifCond .lt 21, 3)) rfl rfl (fun c1 => ?_) (fun c1 => ?_)
  · have h := it1 h c1
    refine jSub [0] rfl ?_
    exact j_X10_terms_22 C hE t_v0 h
  · have h := it2 h c1
    refine jB C [(.iload_n 1, 1, 0), (.iconst 4, 1, 4)] 6 [(0, .ref (b + v0)), (1, .int v1), (2, .int v2)] [.int 4, .int v1] (by decide +kernel) rfl rfl ?_
    refine jIcmp_ge C 9 22 (by decide +kernel : decode cX10_terms 6 = .ok (.if_icmp .ge 16, 3)) rfl rfl (fun c2 => ?_) (fun c2 => ?_)
    · have h := it1 h c2
      refine jSub [0] rfl ?_
      exact j_X10_terms_22 C hE t_v0 h
    · have h := it2 h c2
      refine jB C [(.iload_n 2, 1, 0)] 10 [(0, .ref (b + v0)), (1, .int v1), (2, .int v2)] [.int v2] (by decide +kernel) rfl rfl ?_
      refine jIf_lt C 13 22 (by decide +kernel : decode cX10_terms 10 = .ok (.ifCond .lt 12, 3)) rfl rfl (fun c3 => ?_) (fun c3 => ?_)
      · have h := it1 h c3
        refine jSub [0] rfl ?_
        exact j_X10_terms_22 C hE t_v0 h
      · have h := it2 h c3
        refine jB C [(.iload_n 2, 1, 0)] 14 [(0, .ref (b + v0)), (1, .int v1), (2, .int v2)] [.int v2] (by decide +kernel) rfl rfl ?_
        refine jGetsT C 17 (by decide +kernel : decode cX10_terms 14 = .ok (.getstatic 155, 3)) rfl wd_538 ?_
        refine jB C [(.iload_n 1, 1, 0)] 18 [(0, .ref (b + v0)), (1, .int v1), (2, .int v2)] [.int v1, .ref (cy 100), .int v2] (by decide +kernel) rfl rfl ?_
        obtain ⟨y4, h⟩ := h
        refine jTald C 19 (by decide +kernel : decode cX10_terms 18 = .ok (.iaload, 1)) rfl y4 ?_
        refine jIcmp_le C 22 28 (by decide +kernel : decode cX10_terms 19 = .ok (.if_icmp .le 9, 3)) rfl rfl (fun c5 => ?_) (fun c5 => ?_)
        · have h := it1 h c5
          refine jB C [(.aload_n 0, 1, 0)] 29 [(0, .ref (b + v0)), (1, .int v1), (2, .int v2)] [.ref (b + v0)] (by decide +kernel) rfl rfl ?_
          obtain ⟨a6, e_a6, h⟩ := h
          refine jGetR C 32 (by decide +kernel : decode cX10_terms 29 = .ok (.getfield 28, 3)) rfl t_v0 kX10 3 (by decide) rfl rfl (by decide) wd_314 e_a6 rfl (fun t_a6 => ?_)
          refine jcVN_V C 35 (rest := []) (ok_X9_empty t_a6 h) (by decide +kernel : decode cX10_terms 32 = .ok (.invokevirtual 82, 3)) rfl wn_359 wd_361 wp_1 wd_3 wd_362 ⟨rfl, rfl⟩ hd_X9_empty ⟨Nat.le_of_ble_eq_true rfl, Nat.le_of_ble_eq_true rfl⟩ t_a6 kX9 (by decide) rfl rfl rfl (Nat.le_of_ble_eq_true rfl) ⟨Nat.zero_le _, Nat.zero_le _⟩ (fun S7 h => ?_)
          refine jB C [(.aload_n 0, 1, 0)] 36 [(0, .ref (b + v0)), (1, .int v1), (2, .int v2)] [.ref (b + v0)] (by decide +kernel) rfl rfl ?_
          obtain ⟨a8, e_a8, h⟩ := h
          refine jGetR C 39 (by decide +kernel : decode cX10_terms 36 = .ok (.getfield 14, 3)) rfl t_v0 kX10 0 (by decide) rfl rfl (by decide) wd_311 e_a8 rfl (fun t_a8 => ?_)
          refine jB C [(.iload_n 1, 1, 0)] 40 [(0, .ref (b + v0)), (1, .int v1), (2, .int v2)] [.int v1, .ref (b + a8)] (by decide +kernel) rfl rfl ?_
          refine jcVN_I C 43 (rest := []) (ok_X5_termOf t_a8 h) (by decide +kernel : decode cX10_terms 40 = .ok (.invokevirtual 158, 3)) rfl wn_540 wd_418 wp_11 wd_2 wd_419 ⟨rfl, rfl⟩ hd_X5_termOf ⟨Nat.le_of_ble_eq_true rfl, Nat.le_of_ble_eq_true rfl⟩ t_a8 kX5 (by decide) rfl rfl rfl (Nat.le_of_ble_eq_true rfl) ⟨Nat.zero_le _, Nat.zero_le _⟩ (fun r10 S9 h => ?_)
          refine jB C [(.istore_n 3, 1, 0), (.aload_n 0, 1, 0)] 45 [(3, .int r10), (0, .ref (b + v0)), (1, .int v1), (2, .int v2)] [.ref (b + v0)] (by decide +kernel) rfl rfl ?_
          obtain ⟨a11, e_a11, h⟩ := h
          refine jGetR C 48 (by decide +kernel : decode cX10_terms 45 = .ok (.getfield 14, 3)) rfl t_v0 kX10 0 (by decide) rfl rfl (by decide) wd_311 e_a11 rfl (fun t_a11 => ?_)
          refine jB C [(.iload_n 1, 1, 0), (.iload_n 2, 1, 0)] 50 [(3, .int r10), (0, .ref (b + v0)), (1, .int v1), (2, .int v2)] [.int v2, .int v1, .ref (b + a11)] (by decide +kernel) rfl rfl ?_
          refine jcVN_V C 53 (rest := []) (ok_X5_setTerm t_a11 h) (by decide +kernel : decode cX10_terms 50 = .ok (.invokevirtual 161, 3)) rfl wn_541 wd_543 wp_27 wd_2 wd_544 ⟨rfl, rfl⟩ hd_X5_setTerm ⟨Nat.le_of_ble_eq_true rfl, Nat.le_of_ble_eq_true rfl⟩ t_a11 kX5 (by decide) rfl rfl rfl (Nat.le_of_ble_eq_true rfl) ⟨Nat.zero_le _, Nat.zero_le _⟩ (fun S12 h => ?_)
          refine jB C [(.aload_n 0, 1, 0), (.iload_n 3, 1, 0)] 55 [(3, .int r10), (0, .ref (b + v0)), (1, .int v1), (2, .int v2)] [.int r10, .ref (b + v0)] (by decide +kernel) rfl rfl ?_
          refine jcV_I C 58 (rest := []) (ok_X10_accept t_v0 h) (by decide +kernel : decode cX10_terms 55 = .ok (.invokevirtual 89, 3)) rfl wd_387 wd_389 wp_7 wd_1 wd_390 ⟨rfl, rfl⟩ hd_X10_accept ⟨Nat.le_of_ble_eq_true rfl, Nat.le_of_ble_eq_true rfl⟩ t_v0 kX10 (by decide) rfl rfl rfl (Nat.le_of_ble_eq_true rfl) ⟨Nat.zero_le _, Nat.zero_le _⟩ (fun r14 S13 h => ?_)
          exact jRetI C (by decide +kernel : decode cX10_terms 58 = .ok (.ireturn, 1)) (Nat.le_refl _) (Nat.le_refl _) ⟨rfl, h⟩
        · have h := it2 h c5
          refine jSub [0] rfl ?_
          exact j_X10_terms_22 C hE t_v0 h
theorem ok_X10_terms {G : Gm} {v0 : Nat} {v1 : Int32} {v2 : Int32} {S : St} {Q : Int32 → St → Prop}  (t_v0 : ok G 9 v0) (h : f_X10_terms G v0 v1 v2 Q S) : MT yX10_terms cX10_terms 4 (some .int) rm_X10_terms 0 0 (fun b => [.ref (b + v0), .int v1, .int v2]) G S (QI (fun r G1 S1 => G1 = G ∧ Q r S1)) := MT.ofJ (by decide +kernel) (fun b => [(0, .ref (b + v0)), (1, .int v1), (2, .int v2)]) (fun b => rfl) (fun b => Nat.le_of_ble_eq_true rfl) (fun l b D cy p e s m below meth c C hE hn => j_X10_terms C hE t_v0 h)
theorem hd_X10_terms : yX10_terms.cls ≠ "java/lang/invoke/MethodHandle" ∧ yX10_terms.cls ≠ "java/lang/invoke/VarHandle" ∧ (parseMethodDescriptor yX10_terms.desc).map (fun d => d.parameters.length) = some 2 := by decide +kernel
abbrev rm_X9_goBack : Room := { frames := 1, cells := 0, slots := 0, locals := 60 }
set_option maxHeartbeats 4000000 in
set_option maxRecDepth 100000 in
theorem j_X9_goBack {p : Program} {l : Launch} {e : Env} {s : State} {m : MethodId} {args : Array Value} {below : List Frame} {meth : Method} {c : Code} {b : Nat} {D : va_G} {cy : Nat → ClassId} {G : Gm} {v0 : Nat} {v1 : Nat} {S : St} {Q : Int32 → St → Prop} (C : CX p s m args meth c b D cy cX9_goBack RX9 3 (some .int)) (hE : s.heap.size + 0 ≤ b + G.2.2) (t_v0 : ok G 8 v0) (t_v1 : ok G 4 v1) (h : f_X9_goBack G v0 v1 Q S) : J p l e rm_X9_goBack s m args below meth c b D cy 3 (zI b D cy below args s G Q) 0 0 G S 0 [(0, .ref (b + v0)), (1, .ref (b + v1))] [] := by
  unfold f_X9_goBack at h
  refine jB C [(.aload_n 0, 1, 0), (.aload_n 0, 1, 0)] 2 [(0, .ref (b + v0)), (1, .ref (b + v1))] [.ref (b + v0), .ref (b + v0)] (by decide +kernel) rfl rfl ?_
  refine jGetI C 5 (by decide +kernel : decode cX9_goBack 2 = .ok (.getfield 25, 3)) rfl t_v0 kX9 1 (by decide) rfl rfl (by decide) wd_90 ?_
  refine jB C [(.iconst 1, 1, 1), (.isub, 1, 0), (.bipush 16, 2, 16)] 9 [(0, .ref (b + v0)), (1, .ref (b + v1))] [.int 16, .int ((S.1 v0 1) - 1), .ref (b + v0)] (by decide +kernel) rfl rfl ?_
  refine jcS_I C 12 (rest := [.ref (b + v0)]) (ok_J9_floorMod_7cf53 h) (by decide +kernel : decode cX9_goBack 9 = .ok (.invokestatic 28, 3)) rfl wd_836 wd_837 wd_11 wd_838 ⟨rfl, rfl⟩ hd_J9_floorMod_7cf53 ⟨Nat.le_of_ble_eq_true rfl, Nat.le_of_ble_eq_true rfl⟩ rfl rfl (Nat.le_of_ble_eq_true rfl) ⟨Nat.zero_le _, Nat.zero_le _⟩ (fun r2 S1 h => ?_)
  refine jPutI C 15 (by decide +kernel : decode cX9_goBack 12 = .ok (.putfield 25, 3)) rfl hE t_v0 kX9 1 (by decide) rfl rfl (by decide) rfl wd_90 rfl rfl rfl ?_
  refine jTopS (fun S3 e_S3 => ?_)
  have h := h S3 e_S3
  refine jB C [(.aload_n 0, 1, 0), (.aload_n 0, 1, 0)] 17 [(0, .ref (b + v0)), (1, .ref (b + v1))] [.ref (b + v0), .ref (b + v0)] (by decide +kernel) rfl rfl ?_
  refine jGetI C 20 (by decide +kernel : decode cX9_goBack 17 = .ok (.getfield 15, 3)) rfl t_v0 kX9 2 (by decide) rfl rfl (by decide) wd_91 ?_
  refine jB C [(.iconst 1, 1, 1), (.isub, 1, 0), (.iconst 0, 1, 0)] 23 [(0, .ref (b + v0)), (1, .ref (b + v1))] [.int 0, .int ((S3.1 v0 2) - 1), .ref (b + v0)] (by decide +kernel) rfl rfl ?_
  refine jMax C 26 (by decide +kernel : decode cX9_goBack 23 = .ok (.invokestatic 49, 3)) rfl wd_912 (Nat.le_of_ble_eq_true rfl) (Nat.le_of_ble_eq_true rfl) (Nat.le_of_ble_eq_true rfl) (Nat.zero_le _) (Nat.zero_le _) ?_
  refine jPutI C 29 (by decide +kernel : decode cX9_goBack 26 = .ok (.putfield 15, 3)) rfl hE t_v0 kX9 2 (by decide) rfl rfl (by decide) rfl wd_91 rfl rfl rfl ?_
  refine jTopS (fun S4 e_S4 => ?_)
  have h := h S4 e_S4
  refine jB C [(.aload_n 0, 1, 0)] 30 [(0, .ref (b + v0)), (1, .ref (b + v1))] [.ref (b + v0)] (by decide +kernel) rfl rfl ?_
  refine jGetI C 33 (by decide +kernel : decode cX9_goBack 30 = .ok (.getfield 25, 3)) rfl t_v0 kX9 1 (by decide) rfl rfl (by decide) wd_90 ?_
  refine jB C [(.bipush 32, 2, 32), (.imul, 1, 0)] 36 [(0, .ref (b + v0)), (1, .ref (b + v1))] [.int ((S4.1 v0 1) * 32)] (by decide +kernel) rfl rfl ?_
  refine jTopI (fun x5 e_x5 => ?_)
  have h := h x5 e_x5
  refine jB C [(.istore_n 2, 1, 0), (.aload_n 0, 1, 0)] 38 [(2, .int x5), (0, .ref (b + v0)), (1, .ref (b + v1))] [.ref (b + v0)] (by decide +kernel) rfl rfl ?_
  obtain ⟨a6, e_a6, h⟩ := h
  refine jGetR C 41 (by decide +kernel : decode cX9_goBack 38 = .ok (.getfield 11, 3)) rfl t_v0 kX9 0 (by decide) rfl rfl (by decide) wd_89 e_a6 rfl (fun t_a6 => ?_)
  refine jB C [(.iload_n 2, 1, 0), (.aload_n 1, 1, 0)] 43 [(2, .int x5), (0, .ref (b + v0)), (1, .ref (b + v1))] [.ref (b + v1), .int x5, .ref (b + a6)] (by decide +kernel) rfl rfl ?_
  obtain ⟨a7, e_a7, h⟩ := h
  refine jGetRN C 46 (by decide +kernel : decode cX9_goBack 43 = .ok (.getfield 34, 3)) rfl t_v1 kX5 1 (by decide) rfl rfl (by decide) wn_41 e_a7 rfl (fun t_a7 => ?_)
  refine jB C [(.iconst 0, 1, 0), (.bipush 24, 2, 24)] 49 [(2, .int x5), (0, .ref (b + v0)), (1, .ref (b + v1))] [.int 24, .int 0, .ref (b + a7), .int x5, .ref (b + a6)] (by decide +kernel) rfl rfl ?_
  obtain ⟨y8, h⟩ := h
  refine jCopy C 52 (by decide +kernel : decode cX9_goBack 49 = .ok (.invokestatic 19, 3)) rfl hE t_a6 t_a7 y8 wd_789 (Nat.le_of_ble_eq_true rfl) (Nat.le_of_ble_eq_true rfl) (Nat.le_of_ble_eq_true rfl) ?_
  refine jTopS (fun S9 e_S9 => ?_)
  have h := h S9 e_S9
  refine jB C [(.aload_n 0, 1, 0)] 53 [(2, .int x5), (0, .ref (b + v0)), (1, .ref (b + v1))] [.ref (b + v0)] (by decide +kernel) rfl rfl ?_
  obtain ⟨a10, e_a10, h⟩ := h
  refine jGetR C 56 (by decide +kernel : decode cX9_goBack 53 = .ok (.getfield 11, 3)) rfl t_v0 kX9 0 (by decide) rfl rfl (by decide) wd_89 e_a10 rfl (fun t_a10 => ?_)
  refine jB C [(.iload_n 2, 1, 0), (.bipush 24, 2, 24), (.iadd, 1, 0), (.aload_n 1, 1, 0)] 61 [(2, .int x5), (0, .ref (b + v0)), (1, .ref (b + v1))] [.ref (b + v1), .int (x5 + 24), .ref (b + a10)] (by decide +kernel) rfl rfl ?_
  obtain ⟨a11, e_a11, h⟩ := h
  refine jGetRN C 64 (by decide +kernel : decode cX9_goBack 61 = .ok (.getfield 39, 3)) rfl t_v1 kX5 2 (by decide) rfl rfl (by decide) wn_43 e_a11 rfl (fun t_a11 => ?_)
  refine jB C [(.iconst 0, 1, 0), (.bipush 6, 2, 6)] 67 [(2, .int x5), (0, .ref (b + v0)), (1, .ref (b + v1))] [.int 6, .int 0, .ref (b + a11), .int (x5 + 24), .ref (b + a10)] (by decide +kernel) rfl rfl ?_
  obtain ⟨y12, h⟩ := h
  refine jCopy C 70 (by decide +kernel : decode cX9_goBack 67 = .ok (.invokestatic 19, 3)) rfl hE t_a10 t_a11 y12 wd_789 (Nat.le_of_ble_eq_true rfl) (Nat.le_of_ble_eq_true rfl) (Nat.le_of_ble_eq_true rfl) ?_
  refine jTopS (fun S13 e_S13 => ?_)
  have h := h S13 e_S13
  refine jB C [(.aload_n 1, 1, 0), (.iconst 0, 1, 0), (.aload_n 0, 1, 0)] 73 [(2, .int x5), (0, .ref (b + v0)), (1, .ref (b + v1))] [.ref (b + v0), .int 0, .ref (b + v1)] (by decide +kernel) rfl rfl ?_
  obtain ⟨a14, e_a14, h⟩ := h
  refine jGetR C 76 (by decide +kernel : decode cX9_goBack 73 = .ok (.getfield 11, 3)) rfl t_v0 kX9 0 (by decide) rfl rfl (by decide) wd_89 e_a14 rfl (fun t_a14 => ?_)
  refine jB C [(.iload_n 2, 1, 0), (.bipush 30, 2, 30), (.iadd, 1, 0)] 80 [(2, .int x5), (0, .ref (b + v0)), (1, .ref (b + v1))] [.int (x5 + 30), .ref (b + a14), .int 0, .ref (b + v1)] (by decide +kernel) rfl rfl ?_
  obtain ⟨y15, h⟩ := h
  refine jIald C 81 (by decide +kernel : decode cX9_goBack 80 = .ok (.iaload, 1)) rfl t_a14 y15 ?_
  refine jcVN_V C 84 (rest := []) (ok_X5_setTerm t_v1 h) (by decide +kernel : decode cX9_goBack 81 = .ok (.invokevirtual 52, 3)) rfl wn_913 wd_543 wp_27 wd_2 wd_544 ⟨rfl, rfl⟩ hd_X5_setTerm ⟨Nat.le_of_ble_eq_true rfl, Nat.le_of_ble_eq_true rfl⟩ t_v1 kX5 (by decide) rfl rfl rfl (Nat.le_of_ble_eq_true rfl) ⟨Nat.zero_le _, Nat.zero_le _⟩ (fun S16 h => ?_)
  refine jB C [(.aload_n 0, 1, 0)] 85 [(2, .int x5), (0, .ref (b + v0)), (1, .ref (b + v1))] [.ref (b + v0)] (by decide +kernel) rfl rfl ?_
  obtain ⟨a17, e_a17, h⟩ := h
  refine jGetR C 88 (by decide +kernel : decode cX9_goBack 85 = .ok (.getfield 11, 3)) rfl t_v0 kX9 0 (by decide) rfl rfl (by decide) wd_89 e_a17 rfl (fun t_a17 => ?_)
  refine jB C [(.iload_n 2, 1, 0), (.bipush 31, 2, 31), (.iadd, 1, 0)] 92 [(2, .int x5), (0, .ref (b + v0)), (1, .ref (b + v1))] [.int (x5 + 31), .ref (b + a17)] (by decide +kernel) rfl rfl ?_
  obtain ⟨y18, h⟩ := h
  refine jIald C 93 (by decide +kernel : decode cX9_goBack 92 = .ok (.iaload, 1)) rfl t_a17 y18 ?_
  exact jRetI C (by decide +kernel : decode cX9_goBack 93 = .ok (.ireturn, 1)) (Nat.le_refl _) (Nat.le_refl _) ⟨rfl, h⟩
theorem ok_X9_goBack {G : Gm} {v0 : Nat} {v1 : Nat} {S : St} {Q : Int32 → St → Prop}  (t_v0 : ok G 8 v0) (t_v1 : ok G 4 v1) (h : f_X9_goBack G v0 v1 Q S) : MT yX9_goBack cX9_goBack 3 (some .int) rm_X9_goBack 0 0 (fun b => [.ref (b + v0), .ref (b + v1)]) G S (QI (fun r G1 S1 => G1 = G ∧ Q r S1)) := MT.ofJ (by decide +kernel) (fun b => [(0, .ref (b + v0)), (1, .ref (b + v1))]) (fun b => rfl) (fun b => Nat.le_of_ble_eq_true rfl) (fun l b D cy p e s m below meth c C hE hn => j_X9_goBack C hE t_v0 t_v1 h)
theorem hd_X9_goBack : yX9_goBack.cls ≠ "java/lang/invoke/MethodHandle" ∧ yX9_goBack.cls ≠ "java/lang/invoke/VarHandle" ∧ (parseMethodDescriptor yX9_goBack.desc).map (fun d => d.parameters.length) = some 1 := by decide +kernel
abbrev rm_X10_undo : Room := { frames := 2, cells := 0, slots := 0, locals := 82 }
set_option maxHeartbeats 4000000 in
set_option maxRecDepth 100000 in
theorem j_X10_undo {p : Program} {l : Launch} {e : Env} {s : State} {m : MethodId} {args : Array Value} {below : List Frame} {meth : Method} {c : Code} {b : Nat} {D : va_G} {cy : Nat → ClassId} {G : Gm} {v0 : Nat} {S : St} {Q : Int32 → St → Prop} (C : CX p s m args meth c b D cy cX10_undo RX10 1 (some .int)) (hE : s.heap.size + 0 ≤ b + G.2.2) (t_v0 : ok G 9 v0) (h : f_X10_undo G v0 Q S) : J p l e rm_X10_undo s m args below meth c b D cy 1 (zI b D cy below args s G Q) 0 0 G S 0 [(0, .ref (b + v0))] [] := by
  unfold f_X10_undo at h
  refine jB C [(.aload_n 0, 1, 0)] 1 [(0, .ref (b + v0))] [.ref (b + v0)] (by decide +kernel) rfl rfl ?_
  obtain ⟨a1, e_a1, h⟩ := h
  refine jGetR C 4 (by decide +kernel : decode cX10_undo 1 = .ok (.getfield 28, 3)) rfl t_v0 kX10 3 (by decide) rfl rfl (by decide) wd_314 e_a1 rfl (fun t_a1 => ?_)
  refine jGetIN C 7 (by decide +kernel : decode cX10_undo 4 = .ok (.getfield 246, 3)) rfl t_a1 kX9 2 (by decide) rfl rfl (by decide) wn_92 ?_
  refine jIf_ne C 10 19 (by decide +kernel : decode cX10_undo 7 = .ok (.ifCond .ne 12, 3)) rfl rfl (fun c2 => ?_) (fun c2 => ?_)
  · have h := it2 h c2
    refine jB C [(.aload_n 0, 1, 0), (.aload_n 0, 1, 0)] 21 [(0, .ref (b + v0))] [.ref (b + v0), .ref (b + v0)] (by decide +kernel) rfl rfl ?_
    obtain ⟨a3, e_a3, h⟩ := h
    refine jGetR C 24 (by decide +kernel : decode cX10_undo 21 = .ok (.getfield 28, 3)) rfl t_v0 kX10 3 (by decide) rfl rfl (by decide) wd_314 e_a3 rfl (fun t_a3 => ?_)
    refine jB C [(.aload_n 0, 1, 0)] 25 [(0, .ref (b + v0))] [.ref (b + v0), .ref (b + a3), .ref (b + v0)] (by decide +kernel) rfl rfl ?_
    obtain ⟨a4, e_a4, h⟩ := h
    refine jGetR C 28 (by decide +kernel : decode cX10_undo 25 = .ok (.getfield 14, 3)) rfl t_v0 kX10 0 (by decide) rfl rfl (by decide) wd_311 e_a4 rfl (fun t_a4 => ?_)
    refine jcVN_I C 31 (rest := [.ref (b + v0)]) (ok_X9_goBack t_a3 t_a4 h) (by decide +kernel : decode cX10_undo 28 = .ok (.invokevirtual 249, 3)) rfl wn_908 wd_910 wp_76 wd_3 wd_911 ⟨rfl, rfl⟩ hd_X9_goBack ⟨Nat.le_of_ble_eq_true rfl, Nat.le_of_ble_eq_true rfl⟩ t_a3 kX9 (by decide) rfl rfl rfl (Nat.le_of_ble_eq_true rfl) ⟨Nat.zero_le _, Nat.zero_le _⟩ (fun r6 S5 h => ?_)
    refine jcV_I C 34 (rest := []) (ok_X10_accept t_v0 h) (by decide +kernel : decode cX10_undo 31 = .ok (.invokevirtual 89, 3)) rfl wd_387 wd_389 wp_7 wd_1 wd_390 ⟨rfl, rfl⟩ hd_X10_accept ⟨Nat.le_of_ble_eq_true rfl, Nat.le_of_ble_eq_true rfl⟩ t_v0 kX10 (by decide) rfl rfl rfl (Nat.le_of_ble_eq_true rfl) ⟨Nat.zero_le _, Nat.zero_le _⟩ (fun r8 S7 h => ?_)
    exact jRetI C (by decide +kernel : decode cX10_undo 34 = .ok (.ireturn, 1)) (Nat.le_refl _) (Nat.le_refl _) ⟨rfl, h⟩
  · have h := it1 h c2
    refine jB C [(.aload_n 0, 1, 0), (.bipush (-3), 2, (-3))] 13 [(0, .ref (b + v0))] [.int (-3), .ref (b + v0)] (by decide +kernel) rfl rfl ?_
    refine jcV_I C 16 (rest := []) (ok_X10_refuse t_v0 h) (by decide +kernel : decode cX10_undo 13 = .ok (.invokevirtual 78, 3)) rfl wd_355 wd_357 wp_0 wd_1 wd_358 ⟨rfl, rfl⟩ hd_X10_refuse ⟨Nat.le_of_ble_eq_true rfl, Nat.le_of_ble_eq_true rfl⟩ t_v0 kX10 (by decide) rfl rfl rfl (Nat.le_of_ble_eq_true rfl) ⟨Nat.zero_le _, Nat.zero_le _⟩ (fun r10 S9 h => ?_)
    refine jGoto C 34 (by decide +kernel : decode cX10_undo 16 = .ok (.goto 18, 3)) rfl ?_
    exact jRetI C (by decide +kernel : decode cX10_undo 34 = .ok (.ireturn, 1)) (Nat.le_refl _) (Nat.le_refl _) ⟨rfl, h⟩
theorem ok_X10_undo {G : Gm} {v0 : Nat} {S : St} {Q : Int32 → St → Prop}  (t_v0 : ok G 9 v0) (h : f_X10_undo G v0 Q S) : MT yX10_undo cX10_undo 1 (some .int) rm_X10_undo 0 0 (fun b => [.ref (b + v0)]) G S (QI (fun r G1 S1 => G1 = G ∧ Q r S1)) := MT.ofJ (by decide +kernel) (fun b => [(0, .ref (b + v0))]) (fun b => rfl) (fun b => Nat.le_of_ble_eq_true rfl) (fun l b D cy p e s m below meth c C hE hn => j_X10_undo C hE t_v0 h)
theorem hd_X10_undo : yX10_undo.cls ≠ "java/lang/invoke/MethodHandle" ∧ yX10_undo.cls ≠ "java/lang/invoke/VarHandle" ∧ (parseMethodDescriptor yX10_undo.desc).map (fun d => d.parameters.length) = some 0 := by decide +kernel
abbrev rm_X10_wanted : Room := { frames := 2, cells := 0, slots := 0, locals := 43 }
set_option maxHeartbeats 4000000 in
set_option maxRecDepth 100000 in
theorem j_X10_wanted_9 {p : Program} {l : Launch} {e : Env} {s : State} {m : MethodId} {args : Array Value} {below : List Frame} {meth : Method} {c : Code} {b : Nat} {D : va_G} {cy : Nat → ClassId} {G : Gm} {v0 : Nat} {S : St} {Q : Int32 → St → Prop} (C : CX p s m args meth c b D cy cX10_wanted RX10 4 (some .int)) (hE : s.heap.size + 0 ≤ b + G.2.2) (t_v0 : ok G 9 v0) (h : f_X10_wanted_9 G v0 Q S) : J p l e rm_X10_wanted s m args below meth c b D cy 4 (zI b D cy below args s G Q) 0 0 G S 9 [(0, .ref (b + v0))] [] := by
  unfold f_X10_wanted_9 at h
  refine jB C [(.aload_n 0, 1, 0), (.iconst (-1), 1, (-1))] 11 [(0, .ref (b + v0))] [.int (-1), .ref (b + v0)] (by decide +kernel) rfl rfl ?_
  refine jcV_I C 14 (rest := []) (ok_X10_refuse t_v0 h) (by decide +kernel : decode cX10_wanted 11 = .ok (.invokevirtual 78, 3)) rfl wd_355 wd_357 wp_0 wd_1 wd_358 ⟨rfl, rfl⟩ hd_X10_refuse ⟨Nat.le_of_ble_eq_true rfl, Nat.le_of_ble_eq_true rfl⟩ t_v0 kX10 (by decide) rfl rfl rfl (Nat.le_of_ble_eq_true rfl) ⟨Nat.zero_le _, Nat.zero_le _⟩ (fun r2 S1 h => ?_)
  exact jRetI C (by decide +kernel : decode cX10_wanted 14 = .ok (.ireturn, 1)) (Nat.le_refl _) (Nat.le_refl _) ⟨rfl, h⟩
set_option maxHeartbeats 4000000 in
set_option maxRecDepth 100000 in
theorem j_X10_wanted {p : Program} {l : Launch} {e : Env} {s : State} {m : MethodId} {args : Array Value} {below : List Frame} {meth : Method} {c : Code} {b : Nat} {D : va_G} {cy : Nat → ClassId} {G : Gm} {v0 : Nat} {v1 : Int32} {v2 : Int32} {S : St} {Q : Int32 → St → Prop} (C : CX p s m args meth c b D cy cX10_wanted RX10 4 (some .int)) (hE : s.heap.size + 0 ≤ b + G.2.2) (t_v0 : ok G 9 v0) (h : f_X10_wanted G v0 v1 v2 Q S) : J p l e rm_X10_wanted s m args below meth c b D cy 4 (zI b D cy below args s G Q) 0 0 G S 0 [(0, .ref (b + v0)), (1, .int v1), (2, .int v2)] [] := by
  unfold f_X10_wanted at h
  refine jB C [(.iload_n 2, 1, 0)] 1 [(0, .ref (b + v0)), (1, .int v1), (2, .int v2)] [.int v2] (by decide +kernel) rfl rfl ?_
  refine jIf_lt C 4 9 (by decide +kernel : decode cX10_wanted 1 = .ok (.ifCond .lt 8, 3)) rfl rfl (fun c1 => ?_) (fun c1 => ?_)
  · have h := it1 h c1
    refine jSub [0] rfl ?_
    exact j_X10_wanted_9 C hE t_v0 h
  · have h := it2 h c1
    refine jB C [(.iload_n 2, 1, 0), (.iconst 3, 1, 3)] 6 [(0, .ref (b + v0)), (1, .int v1), (2, .int v2)] [.int 3, .int v2] (by decide +kernel) rfl rfl ?_
    refine jIcmp_le C 9 15 (by decide +kernel : decode cX10_wanted 6 = .ok (.if_icmp .le 9, 3)) rfl rfl (fun c2 => ?_) (fun c2 => ?_)
    · have h := it1 h c2
      refine jB C [(.aload_n 0, 1, 0)] 16 [(0, .ref (b + v0)), (1, .int v1), (2, .int v2)] [.ref (b + v0)] (by decide +kernel) rfl rfl ?_
      obtain ⟨a3, e_a3, h⟩ := h
      refine jGetR C 19 (by decide +kernel : decode cX10_wanted 16 = .ok (.getfield 14, 3)) rfl t_v0 kX10 0 (by decide) rfl rfl (by decide) wd_311 e_a3 rfl (fun t_a3 => ?_)
      refine jB C [(.iload_n 1, 1, 0)] 20 [(0, .ref (b + v0)), (1, .int v1), (2, .int v2)] [.int v1, .ref (b + a3)] (by decide +kernel) rfl rfl ?_
      refine jcVN_I C 23 (rest := []) (ok_X5_has t_a3 h) (by decide +kernel : decode cX10_wanted 20 = .ok (.invokevirtual 92, 3)) rfl wn_395 wd_373 wp_4 wd_2 wd_374 ⟨rfl, rfl⟩ hd_X5_has ⟨Nat.le_of_ble_eq_true rfl, Nat.le_of_ble_eq_true rfl⟩ t_a3 kX5 (by decide) rfl rfl rfl (Nat.le_of_ble_eq_true rfl) ⟨Nat.zero_le _, Nat.zero_le _⟩ (fun r5 S4 h => ?_)
      refine jIf_ne C 26 33 (by decide +kernel : decode cX10_wanted 23 = .ok (.ifCond .ne 10, 3)) rfl rfl (fun c6 => ?_) (fun c6 => ?_)
      · have h := it2 h c6
        refine jB C [(.aload_n 0, 1, 0)] 34 [(0, .ref (b + v0)), (1, .int v1), (2, .int v2)] [.ref (b + v0)] (by decide +kernel) rfl rfl ?_
        obtain ⟨a7, e_a7, h⟩ := h
        refine jGetR C 37 (by decide +kernel : decode cX10_wanted 34 = .ok (.getfield 14, 3)) rfl t_v0 kX10 0 (by decide) rfl rfl (by decide) wd_311 e_a7 rfl (fun t_a7 => ?_)
        refine jB C [(.iload_n 1, 1, 0)] 38 [(0, .ref (b + v0)), (1, .int v1), (2, .int v2)] [.int v1, .ref (b + a7)] (by decide +kernel) rfl rfl ?_
        refine jcVN_I C 41 (rest := []) (ok_X5_wantedOf t_a7 h) (by decide +kernel : decode cX10_wanted 38 = .ok (.invokevirtual 118, 3)) rfl wn_485 wd_487 wp_22 wd_2 wd_488 ⟨rfl, rfl⟩ hd_X5_wantedOf ⟨Nat.le_of_ble_eq_true rfl, Nat.le_of_ble_eq_true rfl⟩ t_a7 kX5 (by decide) rfl rfl rfl (Nat.le_of_ble_eq_true rfl) ⟨Nat.zero_le _, Nat.zero_le _⟩ (fun r9 S8 h => ?_)
        refine jB C [(.istore_n 3, 1, 0), (.aload_n 0, 1, 0)] 43 [(3, .int r9), (0, .ref (b + v0)), (1, .int v1), (2, .int v2)] [.ref (b + v0)] (by decide +kernel) rfl rfl ?_
        obtain ⟨a10, e_a10, h⟩ := h
        refine jGetR C 46 (by decide +kernel : decode cX10_wanted 43 = .ok (.getfield 14, 3)) rfl t_v0 kX10 0 (by decide) rfl rfl (by decide) wd_311 e_a10 rfl (fun t_a10 => ?_)
        refine jB C [(.iload_n 1, 1, 0), (.iload_n 2, 1, 0)] 48 [(3, .int r9), (0, .ref (b + v0)), (1, .int v1), (2, .int v2)] [.int v2, .int v1, .ref (b + a10)] (by decide +kernel) rfl rfl ?_
        refine jcVN_V C 51 (rest := []) (ok_X5_setWanted t_a10 h) (by decide +kernel : decode cX10_wanted 48 = .ok (.invokevirtual 143, 3)) rfl wn_522 wd_385 wp_6 wd_2 wd_386 ⟨rfl, rfl⟩ hd_X5_setWanted ⟨Nat.le_of_ble_eq_true rfl, Nat.le_of_ble_eq_true rfl⟩ t_a10 kX5 (by decide) rfl rfl rfl (Nat.le_of_ble_eq_true rfl) ⟨Nat.zero_le _, Nat.zero_le _⟩ (fun S11 h => ?_)
        refine jB C [(.aload_n 0, 1, 0), (.iload_n 3, 1, 0)] 53 [(3, .int r9), (0, .ref (b + v0)), (1, .int v1), (2, .int v2)] [.int r9, .ref (b + v0)] (by decide +kernel) rfl rfl ?_
        refine jcV_I C 56 (rest := []) (ok_X10_accept t_v0 h) (by decide +kernel : decode cX10_wanted 53 = .ok (.invokevirtual 89, 3)) rfl wd_387 wd_389 wp_7 wd_1 wd_390 ⟨rfl, rfl⟩ hd_X10_accept ⟨Nat.le_of_ble_eq_true rfl, Nat.le_of_ble_eq_true rfl⟩ t_v0 kX10 (by decide) rfl rfl rfl (Nat.le_of_ble_eq_true rfl) ⟨Nat.zero_le _, Nat.zero_le _⟩ (fun r13 S12 h => ?_)
        exact jRetI C (by decide +kernel : decode cX10_wanted 56 = .ok (.ireturn, 1)) (Nat.le_refl _) (Nat.le_refl _) ⟨rfl, h⟩
      · have h := it1 h c6
        refine jB C [(.aload_n 0, 1, 0), (.bipush (-2), 2, (-2))] 29 [(0, .ref (b + v0)), (1, .int v1), (2, .int v2)] [.int (-2), .ref (b + v0)] (by decide +kernel) rfl rfl ?_
        refine jcV_I C 32 (rest := []) (ok_X10_refuse t_v0 h) (by decide +kernel : decode cX10_wanted 29 = .ok (.invokevirtual 78, 3)) rfl wd_355 wd_357 wp_0 wd_1 wd_358 ⟨rfl, rfl⟩ hd_X10_refuse ⟨Nat.le_of_ble_eq_true rfl, Nat.le_of_ble_eq_true rfl⟩ t_v0 kX10 (by decide) rfl rfl rfl (Nat.le_of_ble_eq_true rfl) ⟨Nat.zero_le _, Nat.zero_le _⟩ (fun r15 S14 h => ?_)
        exact jRetI C (by decide +kernel : decode cX10_wanted 32 = .ok (.ireturn, 1)) (Nat.le_refl _) (Nat.le_refl _) ⟨rfl, h⟩
    · have h := it2 h c2
      refine jSub [0] rfl ?_
      exact j_X10_wanted_9 C hE t_v0 h
theorem ok_X10_wanted {G : Gm} {v0 : Nat} {v1 : Int32} {v2 : Int32} {S : St} {Q : Int32 → St → Prop}  (t_v0 : ok G 9 v0) (h : f_X10_wanted G v0 v1 v2 Q S) : MT yX10_wanted cX10_wanted 4 (some .int) rm_X10_wanted 0 0 (fun b => [.ref (b + v0), .int v1, .int v2]) G S (QI (fun r G1 S1 => G1 = G ∧ Q r S1)) := MT.ofJ (by decide +kernel) (fun b => [(0, .ref (b + v0)), (1, .int v1), (2, .int v2)]) (fun b => rfl) (fun b => Nat.le_of_ble_eq_true rfl) (fun l b D cy p e s m below meth c C hE hn => j_X10_wanted C hE t_v0 h)
theorem hd_X10_wanted : yX10_wanted.cls ≠ "java/lang/invoke/MethodHandle" ∧ yX10_wanted.cls ≠ "java/lang/invoke/VarHandle" ∧ (parseMethodDescriptor yX10_wanted.desc).map (fun d => d.parameters.length) = some 2 := by decide +kernel
abbrev rm_X4_chance : Room := { frames := 0, cells := 0, slots := 0, locals := 0 }
set_option maxHeartbeats 4000000 in
set_option maxRecDepth 100000 in
theorem j_X4_chance_63_n {p : Program} {l : Launch} {e : Env} {s : State} {m : MethodId} {args : Array Value} {below : List Frame} {meth : Method} {c : Code} {b : Nat} {D : va_G} {cy : Nat → ClassId} {G : Gm} {k52 : Int32 → St → Prop} {v0 : Nat} {v1 : Int32} {v2 : Int32} {v3 : Int32} {v4 : Int32} {Q : Int64 → St → Prop} (C : CX p s m args meth c b D cy cX4_chance RX4 6 (some .long)) (hE : s.heap.size + 0 ≤ b + G.2.2) (t_v0 : ok G 3 v0) (hk52 : ∀ v4' S, k52 v4' S → J p l e rm_X4_chance s m args below meth c b D cy 6 (zL b D cy below args s G Q) 0 0 G S 52 [(0, .ref (b + v0)), (1, .int v1), (2, .int v2), (3, .int v3), (4, .int (v4'))] []) : ∀ k (v5 : Int32) S, f_X4_chance_63_n G k52 v0 v1 v2 v3 v4 Q k v5 S → J p l e rm_X4_chance s m args below meth c b D cy 6 (zL b D cy below args s G Q) 0 0 G S 63 [(0, .ref (b + v0)), (1, .int v1), (2, .int v2), (3, .int v3), (4, .int v4), (5, .int v5)] [] := by
  intro k
  induction k with
  | zero => intro v5 S h; exact h.elim
  | succ k ih =>
    intro v5 S h
    unfold f_X4_chance_63_n at h
    refine jB C [(.iload 5, 2, 0)] 65 [(0, .ref (b + v0)), (1, .int v1), (2, .int v2), (3, .int v3), (4, .int v4), (5, .int v5)] [.int v5] (by decide +kernel) rfl rfl ?_
    refine jIf_lt C 68 124 (by decide +kernel : decode cX4_chance 65 = .ok (.ifCond .lt 59, 3)) rfl rfl (fun c1 => ?_) (fun c1 => ?_)
    · have h := it1 h c1
      refine jB C [(.iinc 4 1, 3, 1)] 127 [(4, .int (v4 + 1)), (0, .ref (b + v0)), (1, .int v1), (2, .int v2), (3, .int v3), (5, .int v5)] [] (by decide +kernel) rfl rfl ?_
      refine jGoto C 52 (by decide +kernel : decode cX4_chance 127 = .ok (.goto (-75), 3)) rfl ?_
      refine jSub [1, 2, 3, 4, 0] rfl ?_
      exact hk52 (v4 + 1) S h
    · have h := it2 h c1
      refine jB C [(.aload_n 0, 1, 0)] 69 [(0, .ref (b + v0)), (1, .int v1), (2, .int v2), (3, .int v3), (4, .int v4), (5, .int v5)] [.ref (b + v0)] (by decide +kernel) rfl rfl ?_
      obtain ⟨a2, e_a2, h⟩ := h
      refine jGetR C 72 (by decide +kernel : decode cX4_chance 69 = .ok (.getfield 51, 3)) rfl t_v0 kX4 11 (by decide) rfl rfl (by decide) wd_202 e_a2 rfl (fun t_a2 => ?_)
      refine jB C [(.iload 5, 2, 0), (.iconst 1, 1, 1), (.iadd, 1, 0), (.dup2, 1, 0)] 77 [(0, .ref (b + v0)), (1, .int v1), (2, .int v2), (3, .int v3), (4, .int v4), (5, .int v5)] [.int (v5 + 1), .ref (b + a2), .int (v5 + 1), .ref (b + a2)] (by decide +kernel) rfl rfl ?_
      obtain ⟨y3, h⟩ := h
      refine jLald C 78 (by decide +kernel : decode cX4_chance 77 = .ok (.laload, 1)) rfl t_a2 y3 ?_
      refine jB C [(.aload_n 0, 1, 0)] 79 [(0, .ref (b + v0)), (1, .int v1), (2, .int v2), (3, .int v3), (4, .int v4), (5, .int v5)] [.ref (b + v0), .long (S.2.1 a2 (v5 + 1).toNatClampNeg), .int (v5 + 1), .ref (b + a2)] (by decide +kernel) rfl rfl ?_
      obtain ⟨a4, e_a4, h⟩ := h
      refine jGetR C 82 (by decide +kernel : decode cX4_chance 79 = .ok (.getfield 51, 3)) rfl t_v0 kX4 11 (by decide) rfl rfl (by decide) wd_202 e_a4 rfl (fun t_a4 => ?_)
      refine jB C [(.iload 5, 2, 0)] 84 [(0, .ref (b + v0)), (1, .int v1), (2, .int v2), (3, .int v3), (4, .int v4), (5, .int v5)] [.int v5, .ref (b + a4), .long (S.2.1 a2 (v5 + 1).toNatClampNeg), .int (v5 + 1), .ref (b + a2)] (by decide +kernel) rfl rfl ?_
      obtain ⟨y5, h⟩ := h
      refine jLald C 85 (by decide +kernel : decode cX4_chance 84 = .ok (.laload, 1)) rfl t_a4 y5 ?_
      refine jB C [(.iload_n 1, 1, 0), (.i2l, 1, 0), (.lmul, 1, 0)] 88 [(0, .ref (b + v0)), (1, .int v1), (2, .int v2), (3, .int v3), (4, .int v4), (5, .int v5)] [.long ((S.2.1 a4 v5.toNatClampNeg) * v1.toInt64), .long (S.2.1 a2 (v5 + 1).toNatClampNeg), .int (v5 + 1), .ref (b + a2)] (by decide +kernel) rfl rfl ?_
      refine jLdc2 C 91 (by decide +kernel : decode cX4_chance 88 = .ok (.ldc2_w 180, 3)) rfl wd_1083 ?_
      refine jLdiv C 92 (by decide +kernel : decode cX4_chance 91 = .ok (.ldiv, 1)) rfl (by decide) ?_
      refine jB C [(.ladd, 1, 0)] 93 [(0, .ref (b + v0)), (1, .int v1), (2, .int v2), (3, .int v3), (4, .int v4), (5, .int v5)] [.long ((S.2.1 a2 (v5 + 1).toNatClampNeg) + (((S.2.1 a4 v5.toNatClampNeg) * v1.toInt64) / 10)), .int (v5 + 1), .ref (b + a2)] (by decide +kernel) rfl rfl ?_
      obtain ⟨y6, h⟩ := h
      refine jLast C 94 (by decide +kernel : decode cX4_chance 93 = .ok (.lastore, 1)) rfl hE t_a2 y6 ?_
      refine jTopS (fun S7 e_S7 => ?_)
      have h := h S7 e_S7
      refine jB C [(.aload_n 0, 1, 0)] 95 [(0, .ref (b + v0)), (1, .int v1), (2, .int v2), (3, .int v3), (4, .int v4), (5, .int v5)] [.ref (b + v0)] (by decide +kernel) rfl rfl ?_
      obtain ⟨a8, e_a8, h⟩ := h
      refine jGetR C 98 (by decide +kernel : decode cX4_chance 95 = .ok (.getfield 51, 3)) rfl t_v0 kX4 11 (by decide) rfl rfl (by decide) wd_202 e_a8 rfl (fun t_a8 => ?_)
      refine jB C [(.iload 5, 2, 0), (.aload_n 0, 1, 0)] 101 [(0, .ref (b + v0)), (1, .int v1), (2, .int v2), (3, .int v3), (4, .int v4), (5, .int v5)] [.ref (b + v0), .int v5, .ref (b + a8)] (by decide +kernel) rfl rfl ?_
      obtain ⟨a9, e_a9, h⟩ := h
      refine jGetR C 104 (by decide +kernel : decode cX4_chance 101 = .ok (.getfield 51, 3)) rfl t_v0 kX4 11 (by decide) rfl rfl (by decide) wd_202 e_a9 rfl (fun t_a9 => ?_)
      refine jB C [(.iload 5, 2, 0)] 106 [(0, .ref (b + v0)), (1, .int v1), (2, .int v2), (3, .int v3), (4, .int v4), (5, .int v5)] [.int v5, .ref (b + a9), .int v5, .ref (b + a8)] (by decide +kernel) rfl rfl ?_
      obtain ⟨y10, h⟩ := h
      refine jLald C 107 (by decide +kernel : decode cX4_chance 106 = .ok (.laload, 1)) rfl t_a9 y10 ?_
      refine jB C [(.bipush 10, 2, 10), (.iload_n 1, 1, 0), (.isub, 1, 0), (.i2l, 1, 0), (.lmul, 1, 0)] 113 [(0, .ref (b + v0)), (1, .int v1), (2, .int v2), (3, .int v3), (4, .int v4), (5, .int v5)] [.long ((S7.2.1 a9 v5.toNatClampNeg) * ((10 - v1).toInt64)), .int v5, .ref (b + a8)] (by decide +kernel) rfl rfl ?_
      refine jLdc2 C 116 (by decide +kernel : decode cX4_chance 113 = .ok (.ldc2_w 180, 3)) rfl wd_1083 ?_
      refine jLdiv C 117 (by decide +kernel : decode cX4_chance 116 = .ok (.ldiv, 1)) rfl (by decide) ?_
      obtain ⟨y11, h⟩ := h
      refine jLast C 118 (by decide +kernel : decode cX4_chance 117 = .ok (.lastore, 1)) rfl hE t_a8 y11 ?_
      refine jTopS (fun S12 e_S12 => ?_)
      have h := h S12 e_S12
      refine jB C [(.iinc 5 (-1), 3, (-1))] 121 [(5, .int (v5 + (-1))), (0, .ref (b + v0)), (1, .int v1), (2, .int v2), (3, .int v3), (4, .int v4)] [] (by decide +kernel) rfl rfl ?_
      refine jGoto C 63 (by decide +kernel : decode cX4_chance 121 = .ok (.goto (-58), 3)) rfl ?_
      refine jSub [1, 2, 3, 4, 5, 0] rfl ?_
      exact ih (v5 + (-1)) S12 h
theorem j_X4_chance_63 {p : Program} {l : Launch} {e : Env} {s : State} {m : MethodId} {args : Array Value} {below : List Frame} {meth : Method} {c : Code} {b : Nat} {D : va_G} {cy : Nat → ClassId} {G : Gm} {k52 : Int32 → St → Prop} {v0 : Nat} {v1 : Int32} {v2 : Int32} {v3 : Int32} {v4 : Int32} {v5 : Int32} {S : St} {Q : Int64 → St → Prop} (C : CX p s m args meth c b D cy cX4_chance RX4 6 (some .long)) (hE : s.heap.size + 0 ≤ b + G.2.2) (t_v0 : ok G 3 v0) (hk52 : ∀ v4' S, k52 v4' S → J p l e rm_X4_chance s m args below meth c b D cy 6 (zL b D cy below args s G Q) 0 0 G S 52 [(0, .ref (b + v0)), (1, .int v1), (2, .int v2), (3, .int v3), (4, .int (v4'))] []) (h : f_X4_chance_63 G k52 v0 v1 v2 v3 v4 Q v5 S) : J p l e rm_X4_chance s m args below meth c b D cy 6 (zL b D cy below args s G Q) 0 0 G S 63 [(0, .ref (b + v0)), (1, .int v1), (2, .int v2), (3, .int v3), (4, .int v4), (5, .int v5)] [] := by
  obtain ⟨k, h⟩ := h
  exact j_X4_chance_63_n C hE t_v0 hk52 k v5 S h
set_option maxHeartbeats 4000000 in
set_option maxRecDepth 100000 in
theorem j_X4_chance_52_n {p : Program} {l : Launch} {e : Env} {s : State} {m : MethodId} {args : Array Value} {below : List Frame} {meth : Method} {c : Code} {b : Nat} {D : va_G} {cy : Nat → ClassId} {G : Gm} {v0 : Nat} {v1 : Int32} {v2 : Int32} {v3 : Int32} {Q : Int64 → St → Prop} (C : CX p s m args meth c b D cy cX4_chance RX4 6 (some .long)) (hE : s.heap.size + 0 ≤ b + G.2.2) (t_v0 : ok G 3 v0) : ∀ k (v4 : Int32) S, f_X4_chance_52_n G v0 v1 v2 v3 Q k v4 S → J p l e rm_X4_chance s m args below meth c b D cy 6 (zL b D cy below args s G Q) 0 0 G S 52 [(0, .ref (b + v0)), (1, .int v1), (2, .int v2), (3, .int v3), (4, .int v4)] [] := by
  intro k
  induction k with
  | zero => intro v4 S h; exact h.elim
  | succ k ih =>
    intro v4 S h
    unfold f_X4_chance_52_n at h
    refine jB C [(.iload 4, 2, 0), (.iload_n 3, 1, 0)] 55 [(0, .ref (b + v0)), (1, .int v1), (2, .int v2), (3, .int v3), (4, .int v4)] [.int v3, .int v4] (by decide +kernel) rfl rfl ?_
    refine jIcmp_ge C 58 130 (by decide +kernel : decode cX4_chance 55 = .ok (.if_icmp .ge 75, 3)) rfl rfl (fun c1 => ?_) (fun c1 => ?_)
    · have h := it1 h c1
      refine jB C [(.aload_n 0, 1, 0)] 131 [(0, .ref (b + v0)), (1, .int v1), (2, .int v2), (3, .int v3), (4, .int v4)] [.ref (b + v0)] (by decide +kernel) rfl rfl ?_
      obtain ⟨a2, e_a2, h⟩ := h
      refine jGetR C 134 (by decide +kernel : decode cX4_chance 131 = .ok (.getfield 51, 3)) rfl t_v0 kX4 11 (by decide) rfl rfl (by decide) wd_202 e_a2 rfl (fun t_a2 => ?_)
      refine jB C [(.iload_n 2, 1, 0)] 135 [(0, .ref (b + v0)), (1, .int v1), (2, .int v2), (3, .int v3), (4, .int v4)] [.int v2, .ref (b + a2)] (by decide +kernel) rfl rfl ?_
      obtain ⟨y3, h⟩ := h
      refine jLald C 136 (by decide +kernel : decode cX4_chance 135 = .ok (.laload, 1)) rfl t_a2 y3 ?_
      exact jRetL C (by decide +kernel : decode cX4_chance 136 = .ok (.lreturn, 1)) (Nat.le_refl _) (Nat.le_refl _) ⟨rfl, h⟩
    · have h := it2 h c1
      refine jB C [(.iload_n 2, 1, 0), (.iconst 1, 1, 1), (.isub, 1, 0)] 61 [(0, .ref (b + v0)), (1, .int v1), (2, .int v2), (3, .int v3), (4, .int v4)] [.int (v2 - 1)] (by decide +kernel) rfl rfl ?_
      refine jTopI (fun x4 e_x4 => ?_)
      have h := h x4 e_x4
      refine jB C [(.istore 5, 2, 0)] 63 [(5, .int x4), (0, .ref (b + v0)), (1, .int v1), (2, .int v2), (3, .int v3), (4, .int v4)] [] (by decide +kernel) rfl rfl ?_
      refine jSub [1, 2, 3, 4, 5, 0] rfl ?_
      exact j_X4_chance_63 C hE t_v0 ih h
theorem j_X4_chance_52 {p : Program} {l : Launch} {e : Env} {s : State} {m : MethodId} {args : Array Value} {below : List Frame} {meth : Method} {c : Code} {b : Nat} {D : va_G} {cy : Nat → ClassId} {G : Gm} {v0 : Nat} {v1 : Int32} {v2 : Int32} {v3 : Int32} {v4 : Int32} {S : St} {Q : Int64 → St → Prop} (C : CX p s m args meth c b D cy cX4_chance RX4 6 (some .long)) (hE : s.heap.size + 0 ≤ b + G.2.2) (t_v0 : ok G 3 v0) (h : f_X4_chance_52 G v0 v1 v2 v3 Q v4 S) : J p l e rm_X4_chance s m args below meth c b D cy 6 (zL b D cy below args s G Q) 0 0 G S 52 [(0, .ref (b + v0)), (1, .int v1), (2, .int v2), (3, .int v3), (4, .int v4)] [] := by
  obtain ⟨k, h⟩ := h
  exact j_X4_chance_52_n C hE t_v0 k v4 S h
set_option maxHeartbeats 4000000 in
set_option maxRecDepth 100000 in
theorem j_X4_chance_20_n {p : Program} {l : Launch} {e : Env} {s : State} {m : MethodId} {args : Array Value} {below : List Frame} {meth : Method} {c : Code} {b : Nat} {D : va_G} {cy : Nat → ClassId} {G : Gm} {v0 : Nat} {v1 : Int32} {v2 : Int32} {v3 : Int32} {Q : Int64 → St → Prop} (C : CX p s m args meth c b D cy cX4_chance RX4 6 (some .long)) (hE : s.heap.size + 0 ≤ b + G.2.2) (t_v0 : ok G 3 v0) : ∀ k (v4 : Int32) S, f_X4_chance_20_n G v0 v1 v2 v3 Q k v4 S → J p l e rm_X4_chance s m args below meth c b D cy 6 (zL b D cy below args s G Q) 0 0 G S 20 [(0, .ref (b + v0)), (1, .int v1), (2, .int v2), (3, .int v3), (4, .int v4)] [] := by
  intro k
  induction k with
  | zero => intro v4 S h; exact h.elim
  | succ k ih =>
    intro v4 S h
    unfold f_X4_chance_20_n at h
    refine jB C [(.iload 4, 2, 0), (.iload_n 2, 1, 0)] 23 [(0, .ref (b + v0)), (1, .int v1), (2, .int v2), (3, .int v3), (4, .int v4)] [.int v2, .int v4] (by decide +kernel) rfl rfl ?_
    refine jIcmp_gt C 26 40 (by decide +kernel : decode cX4_chance 23 = .ok (.if_icmp .gt 17, 3)) rfl rfl (fun c1 => ?_) (fun c1 => ?_)
    · have h := it1 h c1
      refine jB C [(.aload_n 0, 1, 0)] 41 [(0, .ref (b + v0)), (1, .int v1), (2, .int v2), (3, .int v3), (4, .int v4)] [.ref (b + v0)] (by decide +kernel) rfl rfl ?_
      obtain ⟨a2, e_a2, h⟩ := h
      refine jGetR C 44 (by decide +kernel : decode cX4_chance 41 = .ok (.getfield 51, 3)) rfl t_v0 kX4 11 (by decide) rfl rfl (by decide) wd_202 e_a2 rfl (fun t_a2 => ?_)
      refine jB C [(.iconst 0, 1, 0)] 45 [(0, .ref (b + v0)), (1, .int v1), (2, .int v2), (3, .int v3), (4, .int v4)] [.int 0, .ref (b + a2)] (by decide +kernel) rfl rfl ?_
      refine jLdc2 C 48 (by decide +kernel : decode cX4_chance 45 = .ok (.ldc2_w 178, 3)) rfl wd_1082 ?_
      obtain ⟨y3, h⟩ := h
      refine jLast C 49 (by decide +kernel : decode cX4_chance 48 = .ok (.lastore, 1)) rfl hE t_a2 y3 ?_
      refine jTopS (fun S4 e_S4 => ?_)
      have h := h S4 e_S4
      refine jB C [(.iconst 0, 1, 0), (.istore 4, 2, 0)] 52 [(4, .int 0), (0, .ref (b + v0)), (1, .int v1), (2, .int v2), (3, .int v3)] [] (by decide +kernel) rfl rfl ?_
      refine jSub [1, 2, 3, 4, 0] rfl ?_
      exact j_X4_chance_52 C hE t_v0 h
    · have h := it2 h c1
      refine jB C [(.aload_n 0, 1, 0)] 27 [(0, .ref (b + v0)), (1, .int v1), (2, .int v2), (3, .int v3), (4, .int v4)] [.ref (b + v0)] (by decide +kernel) rfl rfl ?_
      obtain ⟨a5, e_a5, h⟩ := h
      refine jGetR C 30 (by decide +kernel : decode cX4_chance 27 = .ok (.getfield 51, 3)) rfl t_v0 kX4 11 (by decide) rfl rfl (by decide) wd_202 e_a5 rfl (fun t_a5 => ?_)
      refine jB C [(.iload 4, 2, 0), (.lconst 0, 1, 0)] 33 [(0, .ref (b + v0)), (1, .int v1), (2, .int v2), (3, .int v3), (4, .int v4)] [.long 0, .int v4, .ref (b + a5)] (by decide +kernel) rfl rfl ?_
      obtain ⟨y6, h⟩ := h
      refine jLast C 34 (by decide +kernel : decode cX4_chance 33 = .ok (.lastore, 1)) rfl hE t_a5 y6 ?_
      refine jTopS (fun S7 e_S7 => ?_)
      have h := h S7 e_S7
      refine jB C [(.iinc 4 1, 3, 1)] 37 [(4, .int (v4 + 1)), (0, .ref (b + v0)), (1, .int v1), (2, .int v2), (3, .int v3)] [] (by decide +kernel) rfl rfl ?_
      refine jGoto C 20 (by decide +kernel : decode cX4_chance 37 = .ok (.goto (-17), 3)) rfl ?_
      refine jSub [1, 2, 3, 4, 0] rfl ?_
      exact ih (v4 + 1) S7 h
theorem j_X4_chance_20 {p : Program} {l : Launch} {e : Env} {s : State} {m : MethodId} {args : Array Value} {below : List Frame} {meth : Method} {c : Code} {b : Nat} {D : va_G} {cy : Nat → ClassId} {G : Gm} {v0 : Nat} {v1 : Int32} {v2 : Int32} {v3 : Int32} {v4 : Int32} {S : St} {Q : Int64 → St → Prop} (C : CX p s m args meth c b D cy cX4_chance RX4 6 (some .long)) (hE : s.heap.size + 0 ≤ b + G.2.2) (t_v0 : ok G 3 v0) (h : f_X4_chance_20 G v0 v1 v2 v3 Q v4 S) : J p l e rm_X4_chance s m args below meth c b D cy 6 (zL b D cy below args s G Q) 0 0 G S 20 [(0, .ref (b + v0)), (1, .int v1), (2, .int v2), (3, .int v3), (4, .int v4)] [] := by
  obtain ⟨k, h⟩ := h
  exact j_X4_chance_20_n C hE t_v0 k v4 S h
set_option maxHeartbeats 4000000 in
set_option maxRecDepth 100000 in
theorem j_X4_chance_13 {p : Program} {l : Launch} {e : Env} {s : State} {m : MethodId} {args : Array Value} {below : List Frame} {meth : Method} {c : Code} {b : Nat} {D : va_G} {cy : Nat → ClassId} {G : Gm} {S : St} {Q : Int64 → St → Prop} (C : CX p s m args meth c b D cy cX4_chance RX4 6 (some .long)) (hE : s.heap.size + 0 ≤ b + G.2.2) (h : f_X4_chance_13 G Q S) : J p l e rm_X4_chance s m args below meth c b D cy 6 (zL b D cy below args s G Q) 0 0 G S 13 [] [] := by
  unfold f_X4_chance_13 at h
  refine jLdc2 C 16 (by decide +kernel : decode cX4_chance 13 = .ok (.ldc2_w 176, 3)) rfl wd_1081 ?_
  exact jRetL C (by decide +kernel : decode cX4_chance 16 = .ok (.lreturn, 1)) (Nat.le_refl _) (Nat.le_refl _) ⟨rfl, h⟩
set_option maxHeartbeats 4000000 in
set_option maxRecDepth 100000 in
theorem j_X4_chance {p : Program} {l : Launch} {e : Env} {s : State} {m : MethodId} {args : Array Value} {below : List Frame} {meth : Method} {c : Code} {b : Nat} {D : va_G} {cy : Nat → ClassId} {G : Gm} {v0 : Nat} {v1 : Int32} {v2 : Int32} {v3 : Int32} {S : St} {Q : Int64 → St → Prop} (C : CX p s m args meth c b D cy cX4_chance RX4 6 (some .long)) (hE : s.heap.size + 0 ≤ b + G.2.2) (t_v0 : ok G 3 v0) (h : f_X4_chance G v0 v1 v2 v3 Q S) : J p l e rm_X4_chance s m args below meth c b D cy 6 (zL b D cy below args s G Q) 0 0 G S 0 [(0, .ref (b + v0)), (1, .int v1), (2, .int v2), (3, .int v3)] [] := by
  unfold f_X4_chance at h
  refine jB C [(.iload_n 2, 1, 0)] 1 [(0, .ref (b + v0)), (1, .int v1), (2, .int v2), (3, .int v3)] [.int v2] (by decide +kernel) rfl rfl ?_
  refine jIf_lt C 4 13 (by decide +kernel : decode cX4_chance 1 = .ok (.ifCond .lt 12, 3)) rfl rfl (fun c1 => ?_) (fun c1 => ?_)
  · have h := it1 h c1
    refine jSub [] rfl ?_
    exact j_X4_chance_13 C hE h
  · have h := it2 h c1
    refine jB C [(.iload_n 2, 1, 0), (.aload_n 0, 1, 0)] 6 [(0, .ref (b + v0)), (1, .int v1), (2, .int v2), (3, .int v3)] [.ref (b + v0), .int v2] (by decide +kernel) rfl rfl ?_
    obtain ⟨a2, e_a2, h⟩ := h
    refine jGetR C 9 (by decide +kernel : decode cX4_chance 6 = .ok (.getfield 51, 3)) rfl t_v0 kX4 11 (by decide) rfl rfl (by decide) wd_202 e_a2 rfl (fun t_a2 => ?_)
    refine jAlen12 C 10 (by decide +kernel : decode cX4_chance 9 = .ok (.arraylength, 1)) rfl t_a2 ?_
    refine jIcmp_lt C 13 17 (by decide +kernel : decode cX4_chance 10 = .ok (.if_icmp .lt 7, 3)) rfl rfl (fun c3 => ?_) (fun c3 => ?_)
    · have h := it1 h c3
      refine jB C [(.iconst 0, 1, 0), (.istore 4, 2, 0)] 20 [(4, .int 0), (0, .ref (b + v0)), (1, .int v1), (2, .int v2), (3, .int v3)] [] (by decide +kernel) rfl rfl ?_
      refine jSub [1, 2, 3, 4, 0] rfl ?_
      exact j_X4_chance_20 C hE t_v0 h
    · have h := it2 h c3
      refine jSub [] rfl ?_
      exact j_X4_chance_13 C hE h
theorem ok_X4_chance {G : Gm} {v0 : Nat} {v1 : Int32} {v2 : Int32} {v3 : Int32} {S : St} {Q : Int64 → St → Prop}  (t_v0 : ok G 3 v0) (h : f_X4_chance G v0 v1 v2 v3 Q S) : MT yX4_chance cX4_chance 6 (some .long) rm_X4_chance 0 0 (fun b => [.ref (b + v0), .int v1, .int v2, .int v3]) G S (QL (fun r G1 S1 => G1 = G ∧ Q r S1)) := MT.ofJ (by decide +kernel) (fun b => [(0, .ref (b + v0)), (1, .int v1), (2, .int v2), (3, .int v3)]) (fun b => rfl) (fun b => Nat.le_of_ble_eq_true rfl) (fun l b D cy p e s m below meth c C hE hn => j_X4_chance C hE t_v0 h)
theorem hd_X4_chance : yX4_chance.cls ≠ "java/lang/invoke/MethodHandle" ∧ yX4_chance.cls ≠ "java/lang/invoke/VarHandle" ∧ (parseMethodDescriptor yX4_chance.desc).map (fun d => d.parameters.length) = some 3 := by decide +kernel
abbrev rm_X10_weaker : Room := { frames := 1, cells := 0, slots := 0, locals := 25 }
set_option maxHeartbeats 4000000 in
set_option maxRecDepth 100000 in
theorem j_X10_weaker_20 {p : Program} {l : Launch} {e : Env} {s : State} {m : MethodId} {args : Array Value} {below : List Frame} {meth : Method} {c : Code} {b : Nat} {D : va_G} {cy : Nat → ClassId} {G : Gm} {S : St} {Q : Int64 → St → Prop} (C : CX p s m args meth c b D cy cX10_weaker RX10 3 (some .long)) (hE : s.heap.size + 0 ≤ b + G.2.2) (h : f_X10_weaker_20 G Q S) : J p l e rm_X10_weaker s m args below meth c b D cy 3 (zL b D cy below args s G Q) 0 0 G S 20 [] [] := by
  unfold f_X10_weaker_20 at h
  refine jLdc2 C 23 (by decide +kernel : decode cX10_weaker 20 = .ok (.ldc2_w 294, 3)) rfl wd_1076 ?_
  exact jRetL C (by decide +kernel : decode cX10_weaker 23 = .ok (.lreturn, 1)) (Nat.le_refl _) (Nat.le_refl _) ⟨rfl, h⟩
set_option maxHeartbeats 4000000 in
set_option maxRecDepth 100000 in
theorem j_X10_weaker {p : Program} {l : Launch} {e : Env} {s : State} {m : MethodId} {args : Array Value} {below : List Frame} {meth : Method} {c : Code} {b : Nat} {D : va_G} {cy : Nat → ClassId} {G : Gm} {v0 : Nat} {v1 : Int32} {v2 : Int32} {S : St} {Q : Int64 → St → Prop} (C : CX p s m args meth c b D cy cX10_weaker RX10 3 (some .long)) (hE : s.heap.size + 0 ≤ b + G.2.2) (t_v0 : ok G 9 v0) (h : f_X10_weaker G v0 v1 v2 Q S) : J p l e rm_X10_weaker s m args below meth c b D cy 3 (zL b D cy below args s G Q) 0 0 G S 0 [(0, .ref (b + v0)), (1, .int v1), (2, .int v2)] [] := by
  unfold f_X10_weaker at h
  refine jB C [(.iload_n 1, 1, 0)] 1 [(0, .ref (b + v0)), (1, .int v1), (2, .int v2)] [.int v1] (by decide +kernel) rfl rfl ?_
  refine jIf_lt C 4 20 (by decide +kernel : decode cX10_weaker 1 = .ok (.ifCond .lt 19, 3)) rfl rfl (fun c1 => ?_) (fun c1 => ?_)
  · have h := it1 h c1
    refine jSub [] rfl ?_
    exact j_X10_weaker_20 C hE h
  · have h := it2 h c1
    refine jB C [(.iload_n 1, 1, 0), (.bipush 20, 2, 20)] 7 [(0, .ref (b + v0)), (1, .int v1), (2, .int v2)] [.int 20, .int v1] (by decide +kernel) rfl rfl ?_
    refine jIcmp_gt C 10 20 (by decide +kernel : decode cX10_weaker 7 = .ok (.if_icmp .gt 13, 3)) rfl rfl (fun c2 => ?_) (fun c2 => ?_)
    · have h := it1 h c2
      refine jSub [] rfl ?_
      exact j_X10_weaker_20 C hE h
    · have h := it2 h c2
      refine jB C [(.iload_n 2, 1, 0)] 11 [(0, .ref (b + v0)), (1, .int v1), (2, .int v2)] [.int v2] (by decide +kernel) rfl rfl ?_
      refine jIf_lt C 14 20 (by decide +kernel : decode cX10_weaker 11 = .ok (.ifCond .lt 9, 3)) rfl rfl (fun c3 => ?_) (fun c3 => ?_)
      · have h := it1 h c3
        refine jSub [] rfl ?_
        exact j_X10_weaker_20 C hE h
      · have h := it2 h c3
        refine jB C [(.iload_n 2, 1, 0), (.bipush 60, 2, 60)] 17 [(0, .ref (b + v0)), (1, .int v1), (2, .int v2)] [.int 60, .int v2] (by decide +kernel) rfl rfl ?_
        refine jIcmp_le C 20 24 (by decide +kernel : decode cX10_weaker 17 = .ok (.if_icmp .le 7, 3)) rfl rfl (fun c4 => ?_) (fun c4 => ?_)
        · have h := it1 h c4
          refine jB C [(.aload_n 0, 1, 0)] 25 [(0, .ref (b + v0)), (1, .int v1), (2, .int v2)] [.ref (b + v0)] (by decide +kernel) rfl rfl ?_
          obtain ⟨a5, e_a5, h⟩ := h
          refine jGetR C 28 (by decide +kernel : decode cX10_weaker 25 = .ok (.getfield 56, 3)) rfl t_v0 kX10 7 (by decide) rfl rfl (by decide) wd_318 e_a5 rfl (fun t_a5 => ?_)
          refine jB C [(.aload_n 0, 1, 0)] 29 [(0, .ref (b + v0)), (1, .int v1), (2, .int v2)] [.ref (b + v0), .ref (b + a5)] (by decide +kernel) rfl rfl ?_
          obtain ⟨a6, e_a6, h⟩ := h
          refine jGetR C 32 (by decide +kernel : decode cX10_weaker 29 = .ok (.getfield 14, 3)) rfl t_v0 kX10 0 (by decide) rfl rfl (by decide) wd_311 e_a6 rfl (fun t_a6 => ?_)
          refine jB C [(.iconst 1, 1, 1)] 33 [(0, .ref (b + v0)), (1, .int v1), (2, .int v2)] [.int 1, .ref (b + a6), .ref (b + a5)] (by decide +kernel) rfl rfl ?_
          refine jcVN_I C 36 (rest := [.ref (b + a5)]) (ok_X5_termOf t_a6 h) (by decide +kernel : decode cX10_weaker 33 = .ok (.invokevirtual 158, 3)) rfl wn_540 wd_418 wp_11 wd_2 wd_419 ⟨rfl, rfl⟩ hd_X5_termOf ⟨Nat.le_of_ble_eq_true rfl, Nat.le_of_ble_eq_true rfl⟩ t_a6 kX5 (by decide) rfl rfl rfl (Nat.le_of_ble_eq_true rfl) ⟨Nat.zero_le _, Nat.zero_le _⟩ (fun r8 S7 h => ?_)
          refine jB C [(.iload_n 1, 1, 0), (.iload_n 2, 1, 0)] 38 [(0, .ref (b + v0)), (1, .int v1), (2, .int v2)] [.int v2, .int v1, .int r8, .ref (b + a5)] (by decide +kernel) rfl rfl ?_
          refine jcVN_L C 41 (rest := []) (ok_X4_chance t_a5 h) (by decide +kernel : decode cX10_weaker 38 = .ok (.invokevirtual 296, 3)) rfl wn_1077 wd_1079 wp_96 wd_8 wd_1080 ⟨rfl, rfl⟩ hd_X4_chance ⟨Nat.le_of_ble_eq_true rfl, Nat.le_of_ble_eq_true rfl⟩ t_a5 kX4 (by decide) rfl rfl rfl (Nat.le_of_ble_eq_true rfl) ⟨Nat.zero_le _, Nat.zero_le _⟩ (fun r10 S9 h => ?_)
          exact jRetL C (by decide +kernel : decode cX10_weaker 41 = .ok (.lreturn, 1)) (Nat.le_refl _) (Nat.le_refl _) ⟨rfl, h⟩
        · have h := it2 h c4
          refine jSub [] rfl ?_
          exact j_X10_weaker_20 C hE h
theorem ok_X10_weaker {G : Gm} {v0 : Nat} {v1 : Int32} {v2 : Int32} {S : St} {Q : Int64 → St → Prop}  (t_v0 : ok G 9 v0) (h : f_X10_weaker G v0 v1 v2 Q S) : MT yX10_weaker cX10_weaker 3 (some .long) rm_X10_weaker 0 0 (fun b => [.ref (b + v0), .int v1, .int v2]) G S (QL (fun r G1 S1 => G1 = G ∧ Q r S1)) := MT.ofJ (by decide +kernel) (fun b => [(0, .ref (b + v0)), (1, .int v1), (2, .int v2)]) (fun b => rfl) (fun b => Nat.le_of_ble_eq_true rfl) (fun l b D cy p e s m below meth c C hE hn => j_X10_weaker C hE t_v0 h)
theorem hd_X10_weaker : yX10_weaker.cls ≠ "java/lang/invoke/MethodHandle" ∧ yX10_weaker.cls ≠ "java/lang/invoke/VarHandle" ∧ (parseMethodDescriptor yX10_weaker.desc).map (fun d => d.parameters.length) = some 2 := by decide +kernel
abbrev rm_X11_in : Room := { frames := 0, cells := 0, slots := 0, locals := 0 }
set_option maxHeartbeats 4000000 in
set_option maxRecDepth 100000 in
theorem j_X11_in {p : Program} {l : Launch} {e : Env} {s : State} {m : MethodId} {args : Array Value} {below : List Frame} {meth : Method} {c : Code} {b : Nat} {D : va_G} {cy : Nat → ClassId} {G : Gm} {v0 : Int64} {v2 : Int64} {v4 : Int64} {S : St} {Q : Int32 → St → Prop} (C : CX p s m args meth c b D cy cX11_in RX11 6 (some .boolean)) (hE : s.heap.size + 0 ≤ b + G.2.2) (h : f_X11_in G v0 v2 v4 Q S) : J p l e rm_X11_in s m args below meth c b D cy 6 (zI b D cy below args s G Q) 0 0 G S 0 [(0, .long v0), (2, .long v2), (4, .long v4)] [] := by
  unfold f_X11_in at h
  refine jB C [(.lload_n 0, 1, 0), (.lload_n 2, 1, 0), (.lcmp, 1, 0)] 3 [(0, .long v0), (2, .long v2), (4, .long v4)] [.int (lg_cmp v0 v2)] (by decide +kernel) rfl rfl ?_
  refine jIf_lt C 6 17 (by decide +kernel : decode cX11_in 3 = .ok (.ifCond .lt 14, 3)) rfl rfl (fun c1 => ?_) (fun c1 => ?_)
  · have h := it1 h c1
    refine jB C [(.iconst 0, 1, 0)] 18 [(0, .long v0), (2, .long v2), (4, .long v4)] [.int 0] (by decide +kernel) rfl rfl ?_
    exact jRetZ C (by decide +kernel : decode cX11_in 18 = .ok (.ireturn, 1)) (Nat.le_refl _) (Nat.le_refl _) (by decide) ⟨rfl, h⟩
  · have h := it2 h c1
    refine jB C [(.lload_n 0, 1, 0), (.lload 4, 2, 0), (.lcmp, 1, 0)] 10 [(0, .long v0), (2, .long v2), (4, .long v4)] [.int (lg_cmp v0 v4)] (by decide +kernel) rfl rfl ?_
    refine jIf_gt C 13 17 (by decide +kernel : decode cX11_in 10 = .ok (.ifCond .gt 7, 3)) rfl rfl (fun c2 => ?_) (fun c2 => ?_)
    · have h := it1 h c2
      refine jB C [(.iconst 0, 1, 0)] 18 [(0, .long v0), (2, .long v2), (4, .long v4)] [.int 0] (by decide +kernel) rfl rfl ?_
      exact jRetZ C (by decide +kernel : decode cX11_in 18 = .ok (.ireturn, 1)) (Nat.le_refl _) (Nat.le_refl _) (by decide) ⟨rfl, h⟩
    · have h := it2 h c2
      refine jB C [(.iconst 1, 1, 1)] 14 [(0, .long v0), (2, .long v2), (4, .long v4)] [.int 1] (by decide +kernel) rfl rfl ?_
      refine jGoto C 18 (by decide +kernel : decode cX11_in 14 = .ok (.goto 4, 3)) rfl ?_
      exact jRetZ C (by decide +kernel : decode cX11_in 18 = .ok (.ireturn, 1)) (Nat.le_refl _) (Nat.le_refl _) (by decide) ⟨rfl, h⟩
theorem ok_X11_in {G : Gm} {v0 : Int64} {v2 : Int64} {v4 : Int64} {S : St} {Q : Int32 → St → Prop}  (h : f_X11_in G v0 v2 v4 Q S) : MT yX11_in cX11_in 6 (some .boolean) rm_X11_in 0 0 (fun b => [.long v0, .long v2, .long v4]) G S (QI (fun r G1 S1 => G1 = G ∧ Q r S1)) := MT.ofJ (by decide +kernel) (fun b => [(0, .long v0), (2, .long v2), (4, .long v4)]) (fun b => rfl) (fun b => Nat.le_of_ble_eq_true rfl) (fun l b D cy p e s m below meth c C hE hn => j_X11_in C hE h)
theorem hd_X11_in : yX11_in.cls ≠ "java/lang/invoke/MethodHandle" ∧ yX11_in.cls ≠ "java/lang/invoke/VarHandle" ∧ (parseMethodDescriptor yX11_in.desc).map (fun d => d.parameters.length) = some 3 := by decide +kernel
abbrev rm_X11_isKind : Room := { frames := 1, cells := 0, slots := 0, locals := 25 }
set_option maxHeartbeats 4000000 in
set_option maxRecDepth 100000 in
theorem j_X11_isKind {p : Program} {l : Launch} {e : Env} {s : State} {m : MethodId} {args : Array Value} {below : List Frame} {meth : Method} {c : Code} {b : Nat} {D : va_G} {cy : Nat → ClassId} {G : Gm} {v0 : Int32} {S : St} {Q : Int32 → St → Prop} (C : CX p s m args meth c b D cy cX11_isKind RX11 1 (some .boolean)) (hE : s.heap.size + 0 ≤ b + G.2.2) (h : f_X11_isKind G v0 Q S) : J p l e rm_X11_isKind s m args below meth c b D cy 1 (zI b D cy below args s G Q) 0 0 G S 0 [(0, .int v0)] [] := by
  unfold f_X11_isKind at h
  refine jB C [(.iload_n 0, 1, 0), (.i2l, 1, 0), (.lconst 0, 1, 0)] 3 [(0, .int v0)] [.long 0, .long v0.toInt64] (by decide +kernel) rfl rfl ?_
  refine jLdc2 C 6 (by decide +kernel : decode cX11_isKind 3 = .ok (.ldc2_w 192, 3)) rfl wd_1380 ?_
  refine jcS_I C 9 (rest := []) (ok_X11_in h) (by decide +kernel : decode cX11_isKind 6 = .ok (.invokestatic 185, 3)) rfl wd_1352 wd_1353 wd_12 wd_1354 ⟨rfl, rfl⟩ hd_X11_in ⟨Nat.le_of_ble_eq_true rfl, Nat.le_of_ble_eq_true rfl⟩ rfl rfl (Nat.le_of_ble_eq_true rfl) ⟨Nat.zero_le _, Nat.zero_le _⟩ (fun r2 S1 h => ?_)
  exact jRetZ C (by decide +kernel : decode cX11_isKind 9 = .ok (.ireturn, 1)) (Nat.le_refl _) (Nat.le_refl _) h.1 ⟨rfl, h.2⟩
theorem ok_X11_isKind {G : Gm} {v0 : Int32} {S : St} {Q : Int32 → St → Prop}  (h : f_X11_isKind G v0 Q S) : MT yX11_isKind cX11_isKind 1 (some .boolean) rm_X11_isKind 0 0 (fun b => [.int v0]) G S (QI (fun r G1 S1 => G1 = G ∧ Q r S1)) := MT.ofJ (by decide +kernel) (fun b => [(0, .int v0)]) (fun b => rfl) (fun b => Nat.le_of_ble_eq_true rfl) (fun l b D cy p e s m below meth c C hE hn => j_X11_isKind C hE h)
theorem hd_X11_isKind : yX11_isKind.cls ≠ "java/lang/invoke/MethodHandle" ∧ yX11_isKind.cls ≠ "java/lang/invoke/VarHandle" ∧ (parseMethodDescriptor yX11_isKind.desc).map (fun d => d.parameters.length) = some 1 := by decide +kernel
abbrev rm_X11_isPerson : Room := { frames := 1, cells := 0, slots := 0, locals := 25 }
set_option maxHeartbeats 4000000 in
set_option maxRecDepth 100000 in
theorem j_X11_isPerson {p : Program} {l : Launch} {e : Env} {s : State} {m : MethodId} {args : Array Value} {below : List Frame} {meth : Method} {c : Code} {b : Nat} {D : va_G} {cy : Nat → ClassId} {G : Gm} {v0 : Nat} {v1 : Int32} {S : St} {Q : Int32 → St → Prop} (C : CX p s m args meth c b D cy cX11_isPerson RX11 2 (some .boolean)) (hE : s.heap.size + 0 ≤ b + G.2.2) (t_v0 : ok G 10 v0) (h : f_X11_isPerson G v0 v1 Q S) : J p l e rm_X11_isPerson s m args below meth c b D cy 2 (zI b D cy below args s G Q) 0 0 G S 0 [(0, .ref (b + v0)), (1, .int v1)] [] := by
  unfold f_X11_isPerson at h
  refine jB C [(.iload_n 1, 1, 0), (.i2l, 1, 0), (.lconst 0, 1, 0), (.aload_n 0, 1, 0)] 4 [(0, .ref (b + v0)), (1, .int v1)] [.ref (b + v0), .long 0, .long v1.toInt64] (by decide +kernel) rfl rfl ?_
  obtain ⟨a1, e_a1, h⟩ := h
  refine jGetR C 7 (by decide +kernel : decode cX11_isPerson 4 = .ok (.getfield 16, 3)) rfl t_v0 kX11 4 (by decide) rfl rfl (by decide) wd_1158 e_a1 rfl (fun t_a1 => ?_)
  refine jB C [(.iconst 0, 1, 0)] 8 [(0, .ref (b + v0)), (1, .int v1)] [.int 0, .ref (b + a1), .long 0, .long v1.toInt64] (by decide +kernel) rfl rfl ?_
  obtain ⟨y2, h⟩ := h
  refine jIald C 9 (by decide +kernel : decode cX11_isPerson 8 = .ok (.iaload, 1)) rfl t_a1 y2 ?_
  refine jB C [(.i2l, 1, 0), (.lconst 1, 1, 0), (.lsub, 1, 0)] 12 [(0, .ref (b + v0)), (1, .int v1)] [.long (((S.1 a1 (0 : Int32).toNatClampNeg).toInt64) - 1), .long 0, .long v1.toInt64] (by decide +kernel) rfl rfl ?_
  refine jcS_I C 15 (rest := []) (ok_X11_in h) (by decide +kernel : decode cX11_isPerson 12 = .ok (.invokestatic 185, 3)) rfl wd_1352 wd_1353 wd_12 wd_1354 ⟨rfl, rfl⟩ hd_X11_in ⟨Nat.le_of_ble_eq_true rfl, Nat.le_of_ble_eq_true rfl⟩ rfl rfl (Nat.le_of_ble_eq_true rfl) ⟨Nat.zero_le _, Nat.zero_le _⟩ (fun r4 S3 h => ?_)
  exact jRetZ C (by decide +kernel : decode cX11_isPerson 15 = .ok (.ireturn, 1)) (Nat.le_refl _) (Nat.le_refl _) h.1 ⟨rfl, h.2⟩
theorem ok_X11_isPerson {G : Gm} {v0 : Nat} {v1 : Int32} {S : St} {Q : Int32 → St → Prop}  (t_v0 : ok G 10 v0) (h : f_X11_isPerson G v0 v1 Q S) : MT yX11_isPerson cX11_isPerson 2 (some .boolean) rm_X11_isPerson 0 0 (fun b => [.ref (b + v0), .int v1]) G S (QI (fun r G1 S1 => G1 = G ∧ Q r S1)) := MT.ofJ (by decide +kernel) (fun b => [(0, .ref (b + v0)), (1, .int v1)]) (fun b => rfl) (fun b => Nat.le_of_ble_eq_true rfl) (fun l b D cy p e s m below meth c C hE hn => j_X11_isPerson C hE t_v0 h)
theorem hd_X11_isPerson : yX11_isPerson.cls ≠ "java/lang/invoke/MethodHandle" ∧ yX11_isPerson.cls ≠ "java/lang/invoke/VarHandle" ∧ (parseMethodDescriptor yX11_isPerson.desc).map (fun d => d.parameters.length) = some 1 := by decide +kernel
abbrev rm_X11_keepAll : Room := { frames := 0, cells := 0, slots := 0, locals := 0 }
set_option maxHeartbeats 4000000 in
set_option maxRecDepth 100000 in
theorem j_X11_keepAll_2_n {p : Program} {l : Launch} {e : Env} {s : State} {m : MethodId} {args : Array Value} {below : List Frame} {meth : Method} {c : Code} {b : Nat} {D : va_G} {cy : Nat → ClassId} {G : Gm} {v0 : Nat} {v1 : Int32} {Q : St → Prop} (C : CX p s m args meth c b D cy cX11_keepAll RX11 3 none) (hE : s.heap.size + 0 ≤ b + G.2.2) (t_v0 : ok G 10 v0) : ∀ k (v2 : Int32) S, f_X11_keepAll_2_n G v0 v1 Q k v2 S → J p l e rm_X11_keepAll s m args below meth c b D cy 3 (zV b D cy below args s G Q) 0 0 G S 2 [(0, .ref (b + v0)), (1, .int v1), (2, .int v2)] [] := by
  intro k
  induction k with
  | zero => intro v2 S h; exact h.elim
  | succ k ih =>
    intro v2 S h
    unfold f_X11_keepAll_2_n at h
    refine jB C [(.iload_n 2, 1, 0), (.bipush 58, 2, 58)] 5 [(0, .ref (b + v0)), (1, .int v1), (2, .int v2)] [.int 58, .int v2] (by decide +kernel) rfl rfl ?_
    refine jIcmp_ge C 8 33 (by decide +kernel : decode cX11_keepAll 5 = .ok (.if_icmp .ge 28, 3)) rfl rfl (fun c1 => ?_) (fun c1 => ?_)
    · have h := it1 h c1
      exact jRetV C (by decide +kernel : decode cX11_keepAll 33 = .ok (.return_, 1)) (Nat.le_refl _) (Nat.le_refl _) ⟨rfl, h⟩
    · have h := it2 h c1
      refine jB C [(.aload_n 0, 1, 0)] 9 [(0, .ref (b + v0)), (1, .int v1), (2, .int v2)] [.ref (b + v0)] (by decide +kernel) rfl rfl ?_
      obtain ⟨a2, e_a2, h⟩ := h
      refine jGetR C 12 (by decide +kernel : decode cX11_keepAll 9 = .ok (.getfield 26, 3)) rfl t_v0 kX11 7 (by decide) rfl rfl (by decide) wd_1161 e_a2 rfl (fun t_a2 => ?_)
      refine jB C [(.bipush 58, 2, 58), (.iload_n 1, 1, 0), (.imul, 1, 0), (.iload_n 2, 1, 0), (.iadd, 1, 0), (.aload_n 0, 1, 0)] 19 [(0, .ref (b + v0)), (1, .int v1), (2, .int v2)] [.ref (b + v0), .int ((58 * v1) + v2), .ref (b + a2)] (by decide +kernel) rfl rfl ?_
      obtain ⟨a3, e_a3, h⟩ := h
      refine jGetR C 22 (by decide +kernel : decode cX11_keepAll 19 = .ok (.getfield 16, 3)) rfl t_v0 kX11 4 (by decide) rfl rfl (by decide) wd_1158 e_a3 rfl (fun t_a3 => ?_)
      refine jB C [(.iconst 4, 1, 4), (.iload_n 2, 1, 0), (.iadd, 1, 0)] 25 [(0, .ref (b + v0)), (1, .int v1), (2, .int v2)] [.int (4 + v2), .ref (b + a3), .int ((58 * v1) + v2), .ref (b + a2)] (by decide +kernel) rfl rfl ?_
      obtain ⟨y4, h⟩ := h
      refine jIald C 26 (by decide +kernel : decode cX11_keepAll 25 = .ok (.iaload, 1)) rfl t_a3 y4 ?_
      obtain ⟨y5, h⟩ := h
      refine jIast C 27 (by decide +kernel : decode cX11_keepAll 26 = .ok (.iastore, 1)) rfl hE t_a2 y5 ?_
      refine jTopS (fun S6 e_S6 => ?_)
      have h := h S6 e_S6
      refine jB C [(.iinc 2 1, 3, 1)] 30 [(2, .int (v2 + 1)), (0, .ref (b + v0)), (1, .int v1)] [] (by decide +kernel) rfl rfl ?_
      refine jGoto C 2 (by decide +kernel : decode cX11_keepAll 30 = .ok (.goto (-28), 3)) rfl ?_
      refine jSub [1, 2, 0] rfl ?_
      exact ih (v2 + 1) S6 h
theorem j_X11_keepAll_2 {p : Program} {l : Launch} {e : Env} {s : State} {m : MethodId} {args : Array Value} {below : List Frame} {meth : Method} {c : Code} {b : Nat} {D : va_G} {cy : Nat → ClassId} {G : Gm} {v0 : Nat} {v1 : Int32} {v2 : Int32} {S : St} {Q : St → Prop} (C : CX p s m args meth c b D cy cX11_keepAll RX11 3 none) (hE : s.heap.size + 0 ≤ b + G.2.2) (t_v0 : ok G 10 v0) (h : f_X11_keepAll_2 G v0 v1 Q v2 S) : J p l e rm_X11_keepAll s m args below meth c b D cy 3 (zV b D cy below args s G Q) 0 0 G S 2 [(0, .ref (b + v0)), (1, .int v1), (2, .int v2)] [] := by
  obtain ⟨k, h⟩ := h
  exact j_X11_keepAll_2_n C hE t_v0 k v2 S h
set_option maxHeartbeats 4000000 in
set_option maxRecDepth 100000 in
theorem j_X11_keepAll {p : Program} {l : Launch} {e : Env} {s : State} {m : MethodId} {args : Array Value} {below : List Frame} {meth : Method} {c : Code} {b : Nat} {D : va_G} {cy : Nat → ClassId} {G : Gm} {v0 : Nat} {v1 : Int32} {S : St} {Q : St → Prop} (C : CX p s m args meth c b D cy cX11_keepAll RX11 3 none) (hE : s.heap.size + 0 ≤ b + G.2.2) (t_v0 : ok G 10 v0) (h : f_X11_keepAll G v0 v1 Q S) : J p l e rm_X11_keepAll s m args below meth c b D cy 3 (zV b D cy below args s G Q) 0 0 G S 0 [(0, .ref (b + v0)), (1, .int v1)] [] := by
  unfold f_X11_keepAll at h
  refine jB C [(.iconst 0, 1, 0), (.istore_n 2, 1, 0)] 2 [(2, .int 0), (0, .ref (b + v0)), (1, .int v1)] [] (by decide +kernel) rfl rfl ?_
  refine jSub [1, 2, 0] rfl ?_
  exact j_X11_keepAll_2 C hE t_v0 h
theorem ok_X11_keepAll {G : Gm} {v0 : Nat} {v1 : Int32} {S : St} {Q : St → Prop}  (t_v0 : ok G 10 v0) (h : f_X11_keepAll G v0 v1 Q S) : MT yX11_keepAll cX11_keepAll 3 none rm_X11_keepAll 0 0 (fun b => [.ref (b + v0), .int v1]) G S (QV (fun G1 S1 => G1 = G ∧ Q S1)) := MT.ofJ (by decide +kernel) (fun b => [(0, .ref (b + v0)), (1, .int v1)]) (fun b => rfl) (fun b => Nat.le_of_ble_eq_true rfl) (fun l b D cy p e s m below meth c C hE hn => j_X11_keepAll C hE t_v0 h)
theorem hd_X11_keepAll : yX11_keepAll.cls ≠ "java/lang/invoke/MethodHandle" ∧ yX11_keepAll.cls ≠ "java/lang/invoke/VarHandle" ∧ (parseMethodDescriptor yX11_keepAll.desc).map (fun d => d.parameters.length) = some 1 := by decide +kernel
