abbrev rm_X10_idle : Room := { frames := 5, cells := 0, slots := 0, locals := 116 }
set_option maxHeartbeats 4000000 in
set_option maxRecDepth 100000 in
theorem j_X10_idle {p : Program} {l : Launch} {e : Env} {s : State} {m : MethodId} {args : Array Value} {below : List Frame} {meth : Method} {c : Code} {b : Nat} {D : va_G} {cy : Nat → ClassId} {G : Gm} {v0 : Nat} {v1 : Int32} {v2 : Int32} {S : St} {Q : Int32 → St → Prop} (C : CX p s m args meth c b D cy cX10_idle RX10 3 (some .int)) (hE : s.heap.size + 0 ≤ b + G.2.2) (t_v0 : ok G 9 v0) (h : f_X10_idle G v0 v1 v2 Q S) : J p l e rm_X10_idle s m args below meth c b D cy 3 (zI b D cy below args s G Q) 0 0 G S 0 [(0, .ref (b + v0)), (1, .int v1), (2, .int v2)] [] := by
  unfold f_X10_idle at h
  refine jB C [(.iload_n 1, 1, 0), (.iconst 1, 1, 1)] 2 [(0, .ref (b + v0)), (1, .int v1), (2, .int v2)] [.int 1, .int v1] (by decide +kernel) rfl rfl ?_
  refine jIcmp_lt C 5 27 (by decide +kernel : decode cX10_idle 2 = .ok (.if_icmp .lt 25, 3)) rfl rfl (fun c1 => ?_) (fun c1 => ?_)
  · have h := it1 h c1
    refine jB C [(.iconst (-1), 1, (-1))] 28 [(0, .ref (b + v0)), (1, .int v1), (2, .int v2)] [.int (-1)] (by decide +kernel) rfl rfl ?_
    exact jRetI C (by decide +kernel : decode cX10_idle 28 = .ok (.ireturn, 1)) (Nat.le_refl _) (Nat.le_refl _) ⟨rfl, h⟩
  · have h := it2 h c1
    refine jB C [(.iload_n 1, 1, 0), (.iconst 4, 1, 4)] 7 [(0, .ref (b + v0)), (1, .int v1), (2, .int v2)] [.int 4, .int v1] (by decide +kernel) rfl rfl ?_
    refine jIcmp_gt C 10 27 (by decide +kernel : decode cX10_idle 7 = .ok (.if_icmp .gt 20, 3)) rfl rfl (fun c2 => ?_) (fun c2 => ?_)
    · have h := it1 h c2
      refine jB C [(.iconst (-1), 1, (-1))] 28 [(0, .ref (b + v0)), (1, .int v1), (2, .int v2)] [.int (-1)] (by decide +kernel) rfl rfl ?_
      exact jRetI C (by decide +kernel : decode cX10_idle 28 = .ok (.ireturn, 1)) (Nat.le_refl _) (Nat.le_refl _) ⟨rfl, h⟩
    · have h := it2 h c2
      refine jB C [(.iload_n 2, 1, 0), (.iconst (-1), 1, (-1))] 12 [(0, .ref (b + v0)), (1, .int v1), (2, .int v2)] [.int (-1), .int v2] (by decide +kernel) rfl rfl ?_
      refine jIcmp_lt C 15 27 (by decide +kernel : decode cX10_idle 12 = .ok (.if_icmp .lt 15, 3)) rfl rfl (fun c3 => ?_) (fun c3 => ?_)
      · have h := it1 h c3
        refine jB C [(.iconst (-1), 1, (-1))] 28 [(0, .ref (b + v0)), (1, .int v1), (2, .int v2)] [.int (-1)] (by decide +kernel) rfl rfl ?_
        exact jRetI C (by decide +kernel : decode cX10_idle 28 = .ok (.ireturn, 1)) (Nat.le_refl _) (Nat.le_refl _) ⟨rfl, h⟩
      · have h := it2 h c3
        refine jB C [(.aload_n 0, 1, 0)] 16 [(0, .ref (b + v0)), (1, .int v1), (2, .int v2)] [.ref (b + v0)] (by decide +kernel) rfl rfl ?_
        obtain ⟨a4, e_a4, h⟩ := h
        refine jGetR C 19 (by decide +kernel : decode cX10_idle 16 = .ok (.getfield 56, 3)) rfl t_v0 kX10 7 (by decide) rfl rfl (by decide) wd_318 e_a4 rfl (fun t_a4 => ?_)
        refine jB C [(.iload_n 1, 1, 0), (.iload_n 2, 1, 0)] 21 [(0, .ref (b + v0)), (1, .int v1), (2, .int v2)] [.int v2, .int v1, .ref (b + a4)] (by decide +kernel) rfl rfl ?_
        refine jcVN_I C 24 (rest := []) (ok_X4_idleAt t_a4 h) (by decide +kernel : decode cX10_idle 21 = .ok (.invokevirtual 280, 3)) rfl wn_1036 wd_1038 wp_92 wd_8 wd_1039 ⟨rfl, rfl⟩ hd_X4_idleAt ⟨Nat.le_of_ble_eq_true rfl, Nat.le_of_ble_eq_true rfl⟩ t_a4 kX4 (by decide) rfl rfl rfl (Nat.le_of_ble_eq_true rfl) ⟨Nat.zero_le _, Nat.zero_le _⟩ (fun r6 S5 h => ?_)
        refine jGoto C 28 (by decide +kernel : decode cX10_idle 24 = .ok (.goto 4, 3)) rfl ?_
        exact jRetI C (by decide +kernel : decode cX10_idle 28 = .ok (.ireturn, 1)) (Nat.le_refl _) (Nat.le_refl _) ⟨rfl, h⟩
theorem ok_X10_idle {G : Gm} {v0 : Nat} {v1 : Int32} {v2 : Int32} {S : St} {Q : Int32 → St → Prop}  (t_v0 : ok G 9 v0) (h : f_X10_idle G v0 v1 v2 Q S) : MT yX10_idle cX10_idle 3 (some .int) rm_X10_idle 0 0 (fun b => [.ref (b + v0), .int v1, .int v2]) G S (QI (fun r G1 S1 => G1 = G ∧ Q r S1)) := MT.ofJ (by decide +kernel) (fun b => [(0, .ref (b + v0)), (1, .int v1), (2, .int v2)]) (fun b => rfl) (fun b => Nat.le_of_ble_eq_true rfl) (fun l b D cy p e s m below meth c C hE hn => j_X10_idle C hE t_v0 h)
theorem hd_X10_idle : yX10_idle.cls ≠ "java/lang/invoke/MethodHandle" ∧ yX10_idle.cls ≠ "java/lang/invoke/VarHandle" ∧ (parseMethodDescriptor yX10_idle.desc).map (fun d => d.parameters.length) = some 2 := by decide +kernel
abbrev rm_X10_image : Room := { frames := 2, cells := 8, slots := 73, locals := 82 }
set_option maxHeartbeats 4000000 in
set_option maxRecDepth 100000 in
theorem j_X10_image_41 {p : Program} {l : Launch} {e : Env} {s : State} {m : MethodId} {args : Array Value} {below : List Frame} {meth : Method} {c : Code} {b : Nat} {D : va_G} {cy : Nat → ClassId} {G : Gm} {G0 : Gm} {v0 : Nat} {v2 : Nat} {S : St} {Q : Int32 → Gm → St → Prop} (C : CX p s m args meth c b D cy cX10_image RX10 3 (some .int)) (hX : ext G0 G) (t_v0 : ok G 9 v0) (t_v2 : ok G 4 v2) (h : f_X10_image_41 G v0 v2 Q S) : J p l e rm_X10_image s m args below meth c b D cy 3 (MQ below (QI (fun r G1 S1 => ext G0 G1 ∧ Q r G1 S1) b D cy) args s 8 73 (fun q => b ≤ q)) 8 73 G S 41 [(0, .ref (b + v0)), (2, .ref (b + v2))] [] := by
  unfold f_X10_image_41 at h
  refine jB C [(.aload_n 2, 1, 0), (.aload_n 0, 1, 0)] 43 [(0, .ref (b + v0)), (2, .ref (b + v2))] [.ref (b + v0), .ref (b + v2)] (by decide +kernel) rfl rfl ?_
  obtain ⟨a1, e_a1, h⟩ := h
  refine jGetR C 46 (by decide +kernel : decode cX10_image 43 = .ok (.getfield 14, 3)) rfl t_v0 kX10 0 (by decide) rfl rfl (by decide) wd_311 e_a1 rfl (fun t_a1 => ?_)
  refine jcVN_V C 49 (rest := []) (ok_X5_copyFrom t_v2 t_a1 h) (by decide +kernel : decode cX10_image 46 = .ok (.invokevirtual 301, 3)) rfl wn_1089 wd_782 wp_63 wd_2 wd_783 ⟨rfl, rfl⟩ hd_X5_copyFrom ⟨Nat.le_of_ble_eq_true rfl, Nat.le_of_ble_eq_true rfl⟩ t_v2 kX5 (by decide) rfl rfl rfl (Nat.le_of_ble_eq_true rfl) ⟨Nat.le_of_ble_eq_true rfl, Nat.le_of_ble_eq_true rfl⟩ (fun S2 h => ?_)
  refine jB C [(.aload_n 0, 1, 0), (.iconst 0, 1, 0)] 51 [(0, .ref (b + v0)), (2, .ref (b + v2))] [.int 0, .ref (b + v0)] (by decide +kernel) rfl rfl ?_
  refine jcV_I C 54 (rest := []) (ok_X10_accept t_v0 h) (by decide +kernel : decode cX10_image 51 = .ok (.invokevirtual 89, 3)) rfl wd_387 wd_389 wp_7 wd_1 wd_390 ⟨rfl, rfl⟩ hd_X10_accept ⟨Nat.le_of_ble_eq_true rfl, Nat.le_of_ble_eq_true rfl⟩ t_v0 kX10 (by decide) rfl rfl rfl (Nat.le_of_ble_eq_true rfl) ⟨Nat.le_of_ble_eq_true rfl, Nat.le_of_ble_eq_true rfl⟩ (fun r4 S3 h => ?_)
  exact jRetI C (by decide +kernel : decode cX10_image 54 = .ok (.ireturn, 1)) (Nat.le_of_ble_eq_true rfl) (Nat.le_of_ble_eq_true rfl) ⟨hX, h⟩
set_option maxHeartbeats 4000000 in
set_option maxRecDepth 100000 in
theorem j_X10_image_9 {p : Program} {l : Launch} {e : Env} {s : State} {m : MethodId} {args : Array Value} {below : List Frame} {meth : Method} {c : Code} {b : Nat} {D : va_G} {cy : Nat → ClassId} {G : Gm} {G0 : Gm} {v0 : Nat} {S : St} {Q : Int32 → Gm → St → Prop} (C : CX p s m args meth c b D cy cX10_image RX10 3 (some .int)) (hI : s.heap.size + 0 ≤ b + G0.2.2) (hin : meth.name = yX10_image.name) (hE : s.heap.size + 0 ≤ b + G.2.2) (hX : ext G0 G) (hN : G.2.2 = G0.2.2 + 0) (t_v0 : ok G 9 v0) (h : f_X10_image_9 G v0 Q S) : J p l e rm_X10_image s m args below meth c b D cy 3 (MQ below (QI (fun r G1 S1 => ext G0 G1 ∧ Q r G1 S1) b D cy) args s 8 73 (fun q => b ≤ q)) 0 0 G S 9 [(0, .ref (b + v0))] [] := by
  unfold f_X10_image_9 at h
  refine jB C [(.aload_n 0, 1, 0), (.iconst (-1), 1, (-1))] 11 [(0, .ref (b + v0))] [.int (-1), .ref (b + v0)] (by decide +kernel) rfl rfl ?_
  refine jcV_I C 14 (rest := []) (ok_X10_refuse t_v0 h) (by decide +kernel : decode cX10_image 11 = .ok (.invokevirtual 78, 3)) rfl wd_355 wd_357 wp_0 wd_1 wd_358 ⟨rfl, rfl⟩ hd_X10_refuse ⟨Nat.le_of_ble_eq_true rfl, Nat.le_of_ble_eq_true rfl⟩ t_v0 kX10 (by decide) rfl rfl rfl (Nat.le_of_ble_eq_true rfl) ⟨Nat.le_of_ble_eq_true rfl, Nat.le_of_ble_eq_true rfl⟩ (fun r2 S1 h => ?_)
  exact jRetI C (by decide +kernel : decode cX10_image 14 = .ok (.ireturn, 1)) (Nat.le_of_ble_eq_true rfl) (Nat.le_of_ble_eq_true rfl) ⟨hX, h⟩
set_option maxHeartbeats 4000000 in
set_option maxRecDepth 100000 in
theorem j_X10_image {p : Program} {l : Launch} {e : Env} {s : State} {m : MethodId} {args : Array Value} {below : List Frame} {meth : Method} {c : Code} {b : Nat} {D : va_G} {cy : Nat → ClassId} {G : Gm} {G0 : Gm} {v0 : Nat} {v1 : Int32} {S : St} {Q : Int32 → Gm → St → Prop} (C : CX p s m args meth c b D cy cX10_image RX10 3 (some .int)) (hI : s.heap.size + 0 ≤ b + G0.2.2) (hin : meth.name = yX10_image.name) (hE : s.heap.size + 0 ≤ b + G.2.2) (hX : ext G0 G) (hN : G.2.2 = G0.2.2 + 0) (t_v0 : ok G 9 v0) (h : f_X10_image G v0 v1 Q S) : J p l e rm_X10_image s m args below meth c b D cy 3 (MQ below (QI (fun r G1 S1 => ext G0 G1 ∧ Q r G1 S1) b D cy) args s 8 73 (fun q => b ≤ q)) 0 0 G S 0 [(0, .ref (b + v0)), (1, .int v1)] [] := by
  unfold f_X10_image at h
  refine jB C [(.iload_n 1, 1, 0)] 1 [(0, .ref (b + v0)), (1, .int v1)] [.int v1] (by decide +kernel) rfl rfl ?_
  refine jIf_lt C 4 9 (by decide +kernel : decode cX10_image 1 = .ok (.ifCond .lt 8, 3)) rfl rfl (fun c1 => ?_) (fun c1 => ?_)
  · have h := it1 h c1
    refine jSub [0] rfl ?_
    exact j_X10_image_9 C hI hin hE hX hN t_v0 h
  · have h := it2 h c1
    refine jB C [(.iload_n 1, 1, 0), (.iconst 2, 1, 2)] 6 [(0, .ref (b + v0)), (1, .int v1)] [.int 2, .int v1] (by decide +kernel) rfl rfl ?_
    refine jIcmp_lt C 9 15 (by decide +kernel : decode cX10_image 6 = .ok (.if_icmp .lt 9, 3)) rfl rfl (fun c2 => ?_) (fun c2 => ?_)
    · have h := it1 h c2
      refine jB C [(.aload_n 0, 1, 0)] 16 [(0, .ref (b + v0)), (1, .int v1)] [.ref (b + v0)] (by decide +kernel) rfl rfl ?_
      obtain ⟨a3, e_a3, h⟩ := h
      refine jGetR C 19 (by decide +kernel : decode cX10_image 16 = .ok (.getfield 21, 3)) rfl t_v0 kX10 2 (by decide) rfl rfl (by decide) wd_313 e_a3 rfl (fun t_a3 => ?_)
      refine jB C [(.iload_n 1, 1, 0)] 20 [(0, .ref (b + v0)), (1, .int v1)] [.int v1, .ref (b + a3)] (by decide +kernel) rfl rfl ?_
      obtain ⟨y4, h⟩ := h
      refine jAald14 C 21 (by decide +kernel : decode cX10_image 20 = .ok (.aaload, 1)) rfl t_a3 y4 (fun t5 => ?_)
      refine jTopQ (fun r6 e_r6 => ?_)
      rw [← e_r6] at t5
      have h := h r6 e_r6
      refine jAstoreQ_n C 22 (by decide +kernel : decode cX10_image 21 = .ok (.astore_n 2, 1)) rfl (by decide) ?_
      refine jAloadQ_n C 23 (by decide +kernel : decode cX10_image 22 = .ok (.aload_n 2, 1)) rfl 0 rfl ?_
      refine jIfnn C 26 41 (by decide +kernel : decode cX10_image 23 = .ok (.ifnonnull 18, 3)) rfl rfl (fun a7 e_a7 => ?_) (fun e_a7 => ?_)
      · have t8 := t5 a7 e_a7
        replace h := h.1 a7 e_a7
        subst e_a7
        refine jSub [1, 0] rfl ?_
        refine jWid (Nat.le_of_ble_eq_true rfl : _ ≤ 8) (Nat.le_of_ble_eq_true rfl : _ ≤ 73) ?_
        exact j_X10_image_41 C hX t_v0 t8 h
      · replace h := h.2 e_a7
        subst e_a7
        refine jNew C 29 (by decide +kernel : decode cX10_image 26 = .ok (.new 11, 3)) rfl hE kX5 (by decide) dfX5 wd_28 wd_29 wd_2 (Nat.le_of_ble_eq_true rfl) (Nat.le_of_ble_eq_true rfl) (fun a9 G10 S11 e_a9 e_G10 e_S11 => ?_)
        have h := h a9 e_a9 G10 e_G10 S11 e_S11
        have X12 : ext G G10 := by rw [e_G10]; exact ext.new
        have N13 : G10.2.2 = G.2.2 + 1 := by rw [e_G10]; rfl
        have X15 := hX.tr X12
        have N16 : G10.2.2 = G0.2.2 + 1 := by omega
        have E14 : s.heap.size + 1 ≤ b + G10.2.2 := by omega
        have t_a9 : ok G10 4 a9 := by rw [e_G10, e_a9]; exact ok_new
        refine jB C [(.dup, 1, 0)] 30 [(2, .null), (0, .ref (b + v0)), (1, .int v1)] [.ref (b + a9), .ref (b + a9)] (by decide +kernel) rfl rfl ?_
        refine jCallIN_V C 33 (rest := [.ref (b + a9)]) (ok_X5_init t_a9 h) (by decide +kernel : decode cX10_image 30 = .ok (.invokespecial 13, 3)) rfl wn_30 wd_31 rfl wd_2 wd_32 ⟨rfl, rfl⟩ hd_X5_init ⟨Nat.le_of_ble_eq_true rfl, Nat.le_of_ble_eq_true rfl⟩ rfl rfl rfl (Nat.le_of_ble_eq_true rfl) ⟨Nat.le_of_ble_eq_true rfl, Nat.le_of_ble_eq_true rfl⟩ (fun G17 S18 h => ?_)
        obtain ⟨⟨X20, N21⟩, h⟩ := h
        have X22 := X20
        have N23 : G17.2.2 = G10.2.2 + 7 := N21
        have X25 := X15.tr X22
        have N26 : G17.2.2 = G0.2.2 + 8 := by omega
        have E24 : s.heap.size + 8 ≤ b + G17.2.2 := by omega
        refine jB C [(.astore_n 2, 1, 0), (.aload_n 0, 1, 0)] 35 [(2, .ref (b + a9)), (0, .ref (b + v0)), (1, .int v1)] [.ref (b + v0)] (by decide +kernel) rfl rfl ?_
        obtain ⟨a27, e_a27, h⟩ := h
        refine jGetR C 38 (by decide +kernel : decode cX10_image 35 = .ok (.getfield 21, 3)) rfl (X22.ok (X12.ok t_v0)) kX10 2 (by decide) rfl rfl (by decide) wd_313 e_a27 rfl (fun t_a27 => ?_)
        refine jB C [(.iload_n 1, 1, 0), (.aload_n 2, 1, 0)] 40 [(2, .ref (b + a9)), (0, .ref (b + v0)), (1, .int v1)] [.ref (b + a9), .int v1, .ref (b + a27)] (by decide +kernel) rfl rfl ?_
        obtain ⟨y28, h⟩ := h
        refine jAast14 C 41 (by decide +kernel : decode cX10_image 40 = .ok (.aastore, 1)) rfl E24 t_a27 y28 (X22.ok t_a9) ?_
        refine jTopS (fun S29 e_S29 => ?_)
        have h := h S29 e_S29
        refine jSub [1, 0] rfl ?_
        refine jWid (Nat.le_of_ble_eq_true rfl : _ ≤ 8) (Nat.le_of_ble_eq_true rfl : _ ≤ 73) ?_
        exact j_X10_image_41 C X25 (X22.ok (X12.ok t_v0)) (X22.ok t_a9) h
    · have h := it2 h c2
      refine jSub [0] rfl ?_
      exact j_X10_image_9 C hI hin hE hX hN t_v0 h
theorem ok_X10_image {G : Gm} {v0 : Nat} {v1 : Int32} {S : St} {Q : Int32 → Gm → St → Prop}  (t_v0 : ok G 9 v0) (h : f_X10_image G v0 v1 Q S) : MT yX10_image cX10_image 3 (some .int) rm_X10_image 8 73 (fun b => [.ref (b + v0), .int v1]) G S (QI (fun r G1 S1 => ext G G1 ∧ Q r G1 S1)) := MT.ofJ (by decide +kernel) (fun b => [(0, .ref (b + v0)), (1, .int v1)]) (fun b => rfl) (fun b => Nat.le_of_ble_eq_true rfl) (fun l b D cy p e s m below meth c C hE hn => j_X10_image C hE hn hE ext.rf rfl t_v0 h)
theorem hd_X10_image : yX10_image.cls ≠ "java/lang/invoke/MethodHandle" ∧ yX10_image.cls ≠ "java/lang/invoke/VarHandle" ∧ (parseMethodDescriptor yX10_image.desc).map (fun d => d.parameters.length) = some 1 := by decide +kernel
abbrev rm_X4_init : Room := { frames := 3, cells := 20, slots := 1871, locals := 70 }
set_option maxHeartbeats 4000000 in
set_option maxRecDepth 100000 in
theorem j_X4_init {p : Program} {l : Launch} {e : Env} {s : State} {m : MethodId} {args : Array Value} {below : List Frame} {meth : Method} {c : Code} {b : Nat} {D : va_G} {cy : Nat → ClassId} {G : Gm} {G0 : Gm} {v0 : Nat} {S : St} {Q : Gm → St → Prop} (C : CX p s m args meth c b D cy cX4_init RX4 1 none) (hI : s.heap.size + 0 ≤ b + G0.2.2) (hin : meth.name = yX4_init.name) (hE : s.heap.size + 0 ≤ b + G.2.2) (hX : ext G0 G) (hN : G.2.2 = G0.2.2 + 0) (t_v0 : ok G 3 v0) (h : f_X4_init G v0 Q S) : J p l e rm_X4_init s m args below meth c b D cy 1 (MQ below (QV (fun G1 S1 => (ext G0 G1 ∧ G1.2.2 = G0.2.2 + 20) ∧ Q G1 S1) b D cy) args s 20 1871 (fun q => b ≤ q)) 0 0 G S 0 [(0, .ref (b + v0))] [] := by
  unfold f_X4_init at h
  refine jB C [(.aload_n 0, 1, 0)] 1 [(0, .ref (b + v0))] [.ref (b + v0)] (by decide +kernel) rfl rfl ?_
  refine jObj C 4 (by decide +kernel : decode cX4_init 1 = .ok (.invokespecial 3, 3)) rfl wd_186 (Nat.le_of_ble_eq_true rfl) (Nat.le_of_ble_eq_true rfl) (Nat.le_of_ble_eq_true rfl) ?_
  refine jB C [(.aload_n 0, 1, 0)] 5 [(0, .ref (b + v0))] [.ref (b + v0)] (by decide +kernel) rfl rfl ?_
  refine jNew C 8 (by decide +kernel : decode cX4_init 5 = .ok (.new 9, 3)) rfl hE kX2 (by decide) dfX2 wd_187 wd_101 wd_4 (Nat.le_of_ble_eq_true rfl) (Nat.le_of_ble_eq_true rfl) (fun a1 G2 S3 e_a1 e_G2 e_S3 => ?_)
  have h := h a1 e_a1 G2 e_G2 S3 e_S3
  have X4 : ext G G2 := by rw [e_G2]; exact ext.new
  have N5 : G2.2.2 = G.2.2 + 1 := by rw [e_G2]; rfl
  have X7 := hX.tr X4
  have N8 : G2.2.2 = G0.2.2 + 1 := by omega
  have E6 : s.heap.size + 1 ≤ b + G2.2.2 := by omega
  have t_a1 : ok G2 2 a1 := by rw [e_G2, e_a1]; exact ok_new
  refine jB C [(.dup, 1, 0)] 9 [(0, .ref (b + v0))] [.ref (b + a1), .ref (b + a1), .ref (b + v0)] (by decide +kernel) rfl rfl ?_
  refine jCallIN_V C 12 (rest := [.ref (b + a1), .ref (b + v0)]) (ok_X2_init t_a1 h) (by decide +kernel : decode cX4_init 9 = .ok (.invokespecial 11, 3)) rfl wn_188 wd_103 rfl wd_4 wd_104 ⟨rfl, rfl⟩ hd_X2_init ⟨Nat.le_of_ble_eq_true rfl, Nat.le_of_ble_eq_true rfl⟩ rfl rfl rfl (Nat.le_of_ble_eq_true rfl) ⟨Nat.le_of_ble_eq_true rfl, Nat.le_of_ble_eq_true rfl⟩ (fun G9 S10 h => ?_)
  obtain ⟨⟨X12, N13⟩, h⟩ := h
  have X14 := X12
  have N15 : G9.2.2 = G2.2.2 + 3 := N13
  have X17 := X7.tr X14
  have N18 : G9.2.2 = G0.2.2 + 4 := by omega
  have E16 : s.heap.size + 4 ≤ b + G9.2.2 := by omega
  refine jPutRF C 15 (by decide +kernel : decode cX4_init 12 = .ok (.putfield 12, 3)) rfl E16 (X14.ok (X4.ok t_v0)) kX4 0 (by decide) rfl rfl (by decide) rfl hin rfl wd_191 rfl rfl rfl (fun t ht => by cases ht; exact (X14.ok t_a1)) ?_
  refine jTopS (fun S19 e_S19 => ?_)
  have h := h S19 e_S19
  refine jB C [(.aload_n 0, 1, 0), (.sipush 256, 3, 256)] 19 [(0, .ref (b + v0))] [.int 256, .ref (b + v0)] (by decide +kernel) rfl rfl ?_
  refine jNewI C 21 256 (by decide +kernel : decode cX4_init 19 = .ok (.newarray .int, 2)) rfl E16 wa_I (by decide) (by decide) (by decide) (Nat.le_of_ble_eq_true rfl) (Nat.le_of_ble_eq_true rfl) (fun a20 G21 S22 e_a20 e_G21 e_S22 => ?_)
  have h := h a20 e_a20 G21 e_G21 S22 e_S22
  have X23 : ext G9 G21 := by rw [e_G21]; exact ext.new
  have N24 : G21.2.2 = G9.2.2 + 1 := by rw [e_G21]; rfl
  have X26 := X17.tr X23
  have N27 : G21.2.2 = G0.2.2 + 5 := by omega
  have E25 : s.heap.size + 5 ≤ b + G21.2.2 := by omega
  have t_a20 : ok G21 11 a20 := by rw [e_G21, e_a20]; exact ok_new
  refine jPutRF C 24 (by decide +kernel : decode cX4_init 21 = .ok (.putfield 18, 3)) rfl E25 (X23.ok (X14.ok (X4.ok t_v0))) kX4 1 (by decide) rfl rfl (by decide) rfl hin rfl wd_192 rfl rfl rfl (fun t ht => by cases ht; exact t_a20) ?_
  refine jTopS (fun S28 e_S28 => ?_)
  have h := h S28 e_S28
  refine jB C [(.aload_n 0, 1, 0), (.sipush 256, 3, 256)] 28 [(0, .ref (b + v0))] [.int 256, .ref (b + v0)] (by decide +kernel) rfl rfl ?_
  refine jNewI C 30 256 (by decide +kernel : decode cX4_init 28 = .ok (.newarray .int, 2)) rfl E25 wa_I (by decide) (by decide) (by decide) (Nat.le_of_ble_eq_true rfl) (Nat.le_of_ble_eq_true rfl) (fun a29 G30 S31 e_a29 e_G30 e_S31 => ?_)
  have h := h a29 e_a29 G30 e_G30 S31 e_S31
  have X32 : ext G21 G30 := by rw [e_G30]; exact ext.new
  have N33 : G30.2.2 = G21.2.2 + 1 := by rw [e_G30]; rfl
  have X35 := X26.tr X32
  have N36 : G30.2.2 = G0.2.2 + 6 := by omega
  have E34 : s.heap.size + 6 ≤ b + G30.2.2 := by omega
  have t_a29 : ok G30 11 a29 := by rw [e_G30, e_a29]; exact ok_new
  refine jPutRF C 33 (by decide +kernel : decode cX4_init 30 = .ok (.putfield 22, 3)) rfl E34 (X32.ok (X23.ok (X14.ok (X4.ok t_v0)))) kX4 2 (by decide) rfl rfl (by decide) rfl hin rfl wd_193 rfl rfl rfl (fun t ht => by cases ht; exact t_a29) ?_
  refine jTopS (fun S37 e_S37 => ?_)
  have h := h S37 e_S37
  refine jB C [(.aload_n 0, 1, 0), (.sipush 256, 3, 256)] 37 [(0, .ref (b + v0))] [.int 256, .ref (b + v0)] (by decide +kernel) rfl rfl ?_
  refine jNewI C 39 256 (by decide +kernel : decode cX4_init 37 = .ok (.newarray .int, 2)) rfl E34 wa_I (by decide) (by decide) (by decide) (Nat.le_of_ble_eq_true rfl) (Nat.le_of_ble_eq_true rfl) (fun a38 G39 S40 e_a38 e_G39 e_S40 => ?_)
  have h := h a38 e_a38 G39 e_G39 S40 e_S40
  have X41 : ext G30 G39 := by rw [e_G39]; exact ext.new
  have N42 : G39.2.2 = G30.2.2 + 1 := by rw [e_G39]; rfl
  have X44 := X35.tr X41
  have N45 : G39.2.2 = G0.2.2 + 7 := by omega
  have E43 : s.heap.size + 7 ≤ b + G39.2.2 := by omega
  have t_a38 : ok G39 11 a38 := by rw [e_G39, e_a38]; exact ok_new
  refine jPutRF C 42 (by decide +kernel : decode cX4_init 39 = .ok (.putfield 25, 3)) rfl E43 (X41.ok (X32.ok (X23.ok (X14.ok (X4.ok t_v0))))) kX4 3 (by decide) rfl rfl (by decide) rfl hin rfl wd_194 rfl rfl rfl (fun t ht => by cases ht; exact t_a38) ?_
  refine jTopS (fun S46 e_S46 => ?_)
  have h := h S46 e_S46
  refine jB C [(.aload_n 0, 1, 0), (.sipush 256, 3, 256)] 46 [(0, .ref (b + v0))] [.int 256, .ref (b + v0)] (by decide +kernel) rfl rfl ?_
  refine jNewI C 48 256 (by decide +kernel : decode cX4_init 46 = .ok (.newarray .int, 2)) rfl E43 wa_I (by decide) (by decide) (by decide) (Nat.le_of_ble_eq_true rfl) (Nat.le_of_ble_eq_true rfl) (fun a47 G48 S49 e_a47 e_G48 e_S49 => ?_)
  have h := h a47 e_a47 G48 e_G48 S49 e_S49
  have X50 : ext G39 G48 := by rw [e_G48]; exact ext.new
  have N51 : G48.2.2 = G39.2.2 + 1 := by rw [e_G48]; rfl
  have X53 := X44.tr X50
  have N54 : G48.2.2 = G0.2.2 + 8 := by omega
  have E52 : s.heap.size + 8 ≤ b + G48.2.2 := by omega
  have t_a47 : ok G48 11 a47 := by rw [e_G48, e_a47]; exact ok_new
  refine jPutRF C 51 (by decide +kernel : decode cX4_init 48 = .ok (.putfield 28, 3)) rfl E52 (X50.ok (X41.ok (X32.ok (X23.ok (X14.ok (X4.ok t_v0)))))) kX4 4 (by decide) rfl rfl (by decide) rfl hin rfl wd_195 rfl rfl rfl (fun t ht => by cases ht; exact t_a47) ?_
  refine jTopS (fun S55 e_S55 => ?_)
  have h := h S55 e_S55
  refine jB C [(.aload_n 0, 1, 0), (.sipush 256, 3, 256)] 55 [(0, .ref (b + v0))] [.int 256, .ref (b + v0)] (by decide +kernel) rfl rfl ?_
  refine jNewI C 57 256 (by decide +kernel : decode cX4_init 55 = .ok (.newarray .int, 2)) rfl E52 wa_I (by decide) (by decide) (by decide) (Nat.le_of_ble_eq_true rfl) (Nat.le_of_ble_eq_true rfl) (fun a56 G57 S58 e_a56 e_G57 e_S58 => ?_)
  have h := h a56 e_a56 G57 e_G57 S58 e_S58
  have X59 : ext G48 G57 := by rw [e_G57]; exact ext.new
  have N60 : G57.2.2 = G48.2.2 + 1 := by rw [e_G57]; rfl
  have X62 := X53.tr X59
  have N63 : G57.2.2 = G0.2.2 + 9 := by omega
  have E61 : s.heap.size + 9 ≤ b + G57.2.2 := by omega
  have t_a56 : ok G57 11 a56 := by rw [e_G57, e_a56]; exact ok_new
  refine jPutRF C 60 (by decide +kernel : decode cX4_init 57 = .ok (.putfield 31, 3)) rfl E61 (X59.ok (X50.ok (X41.ok (X32.ok (X23.ok (X14.ok (X4.ok t_v0))))))) kX4 5 (by decide) rfl rfl (by decide) rfl hin rfl wd_196 rfl rfl rfl (fun t ht => by cases ht; exact t_a56) ?_
  refine jTopS (fun S64 e_S64 => ?_)
  have h := h S64 e_S64
  refine jB C [(.aload_n 0, 1, 0), (.sipush 256, 3, 256)] 64 [(0, .ref (b + v0))] [.int 256, .ref (b + v0)] (by decide +kernel) rfl rfl ?_
  refine jNewI C 66 256 (by decide +kernel : decode cX4_init 64 = .ok (.newarray .int, 2)) rfl E61 wa_I (by decide) (by decide) (by decide) (Nat.le_of_ble_eq_true rfl) (Nat.le_of_ble_eq_true rfl) (fun a65 G66 S67 e_a65 e_G66 e_S67 => ?_)
  have h := h a65 e_a65 G66 e_G66 S67 e_S67
  have X68 : ext G57 G66 := by rw [e_G66]; exact ext.new
  have N69 : G66.2.2 = G57.2.2 + 1 := by rw [e_G66]; rfl
  have X71 := X62.tr X68
  have N72 : G66.2.2 = G0.2.2 + 10 := by omega
  have E70 : s.heap.size + 10 ≤ b + G66.2.2 := by omega
  have t_a65 : ok G66 11 a65 := by rw [e_G66, e_a65]; exact ok_new
  refine jPutRF C 69 (by decide +kernel : decode cX4_init 66 = .ok (.putfield 34, 3)) rfl E70 (X68.ok (X59.ok (X50.ok (X41.ok (X32.ok (X23.ok (X14.ok (X4.ok t_v0)))))))) kX4 6 (by decide) rfl rfl (by decide) rfl hin rfl wd_197 rfl rfl rfl (fun t ht => by cases ht; exact t_a65) ?_
  refine jTopS (fun S73 e_S73 => ?_)
  have h := h S73 e_S73
  refine jB C [(.aload_n 0, 1, 0), (.bipush 36, 2, 36)] 72 [(0, .ref (b + v0))] [.int 36, .ref (b + v0)] (by decide +kernel) rfl rfl ?_
  refine jNewI C 74 36 (by decide +kernel : decode cX4_init 72 = .ok (.newarray .int, 2)) rfl E70 wa_I (by decide) (by decide) (by decide) (Nat.le_of_ble_eq_true rfl) (Nat.le_of_ble_eq_true rfl) (fun a74 G75 S76 e_a74 e_G75 e_S76 => ?_)
  have h := h a74 e_a74 G75 e_G75 S76 e_S76
  have X77 : ext G66 G75 := by rw [e_G75]; exact ext.new
  have N78 : G75.2.2 = G66.2.2 + 1 := by rw [e_G75]; rfl
  have X80 := X71.tr X77
  have N81 : G75.2.2 = G0.2.2 + 11 := by omega
  have E79 : s.heap.size + 11 ≤ b + G75.2.2 := by omega
  have t_a74 : ok G75 11 a74 := by rw [e_G75, e_a74]; exact ok_new
  refine jPutRF C 77 (by decide +kernel : decode cX4_init 74 = .ok (.putfield 37, 3)) rfl E79 (X77.ok (X68.ok (X59.ok (X50.ok (X41.ok (X32.ok (X23.ok (X14.ok (X4.ok t_v0))))))))) kX4 7 (by decide) rfl rfl (by decide) rfl hin rfl wd_198 rfl rfl rfl (fun t ht => by cases ht; exact t_a74) ?_
  refine jTopS (fun S82 e_S82 => ?_)
  have h := h S82 e_S82
  refine jB C [(.aload_n 0, 1, 0), (.bipush 64, 2, 64)] 80 [(0, .ref (b + v0))] [.int 64, .ref (b + v0)] (by decide +kernel) rfl rfl ?_
  refine jNewI C 82 64 (by decide +kernel : decode cX4_init 80 = .ok (.newarray .int, 2)) rfl E79 wa_I (by decide) (by decide) (by decide) (Nat.le_of_ble_eq_true rfl) (Nat.le_of_ble_eq_true rfl) (fun a83 G84 S85 e_a83 e_G84 e_S85 => ?_)
  have h := h a83 e_a83 G84 e_G84 S85 e_S85
  have X86 : ext G75 G84 := by rw [e_G84]; exact ext.new
  have N87 : G84.2.2 = G75.2.2 + 1 := by rw [e_G84]; rfl
  have X89 := X80.tr X86
  have N90 : G84.2.2 = G0.2.2 + 12 := by omega
  have E88 : s.heap.size + 12 ≤ b + G84.2.2 := by omega
  have t_a83 : ok G84 11 a83 := by rw [e_G84, e_a83]; exact ok_new
  refine jPutRF C 85 (by decide +kernel : decode cX4_init 82 = .ok (.putfield 40, 3)) rfl E88 (X86.ok (X77.ok (X68.ok (X59.ok (X50.ok (X41.ok (X32.ok (X23.ok (X14.ok (X4.ok t_v0)))))))))) kX4 8 (by decide) rfl rfl (by decide) rfl hin rfl wd_199 rfl rfl rfl (fun t ht => by cases ht; exact t_a83) ?_
  refine jTopS (fun S91 e_S91 => ?_)
  have h := h S91 e_S91
  refine jB C [(.aload_n 0, 1, 0), (.iconst 5, 1, 5), (.bipush 32, 2, 32)] 89 [(0, .ref (b + v0))] [.int 32, .int 5, .ref (b + v0)] (by decide +kernel) rfl rfl ?_
  refine jMna C 93 (by decide +kernel : decode cX4_init 89 = .ok (.multianewarray 43 2, 4)) rfl E88 wd_189 (Nat.le_of_ble_eq_true rfl) (Nat.le_of_ble_eq_true rfl) (fun a92 G93 S94 e_a92 e_G93 e_S94 => ?_)
  have h := h a92 e_a92 G93 e_G93 S94 e_S94
  have X95 : ext G84 G93 := by rw [e_G93]; exact ext_mna
  have N96 : G93.2.2 = G84.2.2 + 6 := by rw [e_G93]; rfl
  have X98 := X89.tr X95
  have N99 : G93.2.2 = G0.2.2 + 18 := by omega
  have E97 : s.heap.size + 18 ≤ b + G93.2.2 := by omega
  have t_a92 : ok G93 16 a92 := by rw [e_G93, e_a92]; exact ok_mna
  refine jPutRF C 96 (by decide +kernel : decode cX4_init 93 = .ok (.putfield 45, 3)) rfl E97 (X95.ok (X86.ok (X77.ok (X68.ok (X59.ok (X50.ok (X41.ok (X32.ok (X23.ok (X14.ok (X4.ok t_v0))))))))))) kX4 9 (by decide) rfl rfl (by decide) rfl hin rfl wd_200 rfl rfl rfl (fun t ht => by cases ht; exact t_a92) ?_
  refine jTopS (fun S100 e_S100 => ?_)
  have h := h S100 e_S100
  refine jB C [(.aload_n 0, 1, 0), (.iconst 5, 1, 5)] 98 [(0, .ref (b + v0))] [.int 5, .ref (b + v0)] (by decide +kernel) rfl rfl ?_
  refine jNewI C 100 5 (by decide +kernel : decode cX4_init 98 = .ok (.newarray .int, 2)) rfl E97 wa_I (by decide) (by decide) (by decide) (Nat.le_of_ble_eq_true rfl) (Nat.le_of_ble_eq_true rfl) (fun a101 G102 S103 e_a101 e_G102 e_S103 => ?_)
  have h := h a101 e_a101 G102 e_G102 S103 e_S103
  have X104 : ext G93 G102 := by rw [e_G102]; exact ext.new
  have N105 : G102.2.2 = G93.2.2 + 1 := by rw [e_G102]; rfl
  have X107 := X98.tr X104
  have N108 : G102.2.2 = G0.2.2 + 19 := by omega
  have E106 : s.heap.size + 19 ≤ b + G102.2.2 := by omega
  have t_a101 : ok G102 11 a101 := by rw [e_G102, e_a101]; exact ok_new
  refine jB C [(.dup, 1, 0), (.iconst 0, 1, 0), (.iconst (-1), 1, (-1))] 103 [(0, .ref (b + v0))] [.int (-1), .int 0, .ref (b + a101), .ref (b + a101), .ref (b + v0)] (by decide +kernel) rfl rfl ?_
  obtain ⟨y109, h⟩ := h
  refine jIast C 104 (by decide +kernel : decode cX4_init 103 = .ok (.iastore, 1)) rfl E106 t_a101 y109 ?_
  refine jTopS (fun S110 e_S110 => ?_)
  have h := h S110 e_S110
  refine jB C [(.dup, 1, 0), (.iconst 1, 1, 1), (.iconst (-1), 1, (-1))] 107 [(0, .ref (b + v0))] [.int (-1), .int 1, .ref (b + a101), .ref (b + a101), .ref (b + v0)] (by decide +kernel) rfl rfl ?_
  obtain ⟨y111, h⟩ := h
  refine jIast C 108 (by decide +kernel : decode cX4_init 107 = .ok (.iastore, 1)) rfl E106 t_a101 y111 ?_
  refine jTopS (fun S112 e_S112 => ?_)
  have h := h S112 e_S112
  refine jB C [(.dup, 1, 0), (.iconst 2, 1, 2), (.iconst (-1), 1, (-1))] 111 [(0, .ref (b + v0))] [.int (-1), .int 2, .ref (b + a101), .ref (b + a101), .ref (b + v0)] (by decide +kernel) rfl rfl ?_
  obtain ⟨y113, h⟩ := h
  refine jIast C 112 (by decide +kernel : decode cX4_init 111 = .ok (.iastore, 1)) rfl E106 t_a101 y113 ?_
  refine jTopS (fun S114 e_S114 => ?_)
  have h := h S114 e_S114
  refine jB C [(.dup, 1, 0), (.iconst 3, 1, 3), (.iconst (-1), 1, (-1))] 115 [(0, .ref (b + v0))] [.int (-1), .int 3, .ref (b + a101), .ref (b + a101), .ref (b + v0)] (by decide +kernel) rfl rfl ?_
  obtain ⟨y115, h⟩ := h
  refine jIast C 116 (by decide +kernel : decode cX4_init 115 = .ok (.iastore, 1)) rfl E106 t_a101 y115 ?_
  refine jTopS (fun S116 e_S116 => ?_)
  have h := h S116 e_S116
  refine jB C [(.dup, 1, 0), (.iconst 4, 1, 4), (.iconst (-1), 1, (-1))] 119 [(0, .ref (b + v0))] [.int (-1), .int 4, .ref (b + a101), .ref (b + a101), .ref (b + v0)] (by decide +kernel) rfl rfl ?_
  obtain ⟨y117, h⟩ := h
  refine jIast C 120 (by decide +kernel : decode cX4_init 119 = .ok (.iastore, 1)) rfl E106 t_a101 y117 ?_
  refine jTopS (fun S118 e_S118 => ?_)
  have h := h S118 e_S118
  refine jPutRF C 123 (by decide +kernel : decode cX4_init 120 = .ok (.putfield 48, 3)) rfl E106 (X104.ok (X95.ok (X86.ok (X77.ok (X68.ok (X59.ok (X50.ok (X41.ok (X32.ok (X23.ok (X14.ok (X4.ok t_v0)))))))))))) kX4 10 (by decide) rfl rfl (by decide) rfl hin rfl wd_201 rfl rfl rfl (fun t ht => by cases ht; exact t_a101) ?_
  refine jTopS (fun S119 e_S119 => ?_)
  have h := h S119 e_S119
  refine jB C [(.aload_n 0, 1, 0), (.bipush 21, 2, 21)] 126 [(0, .ref (b + v0))] [.int 21, .ref (b + v0)] (by decide +kernel) rfl rfl ?_
  refine jNewL C 128 21 (by decide +kernel : decode cX4_init 126 = .ok (.newarray .long, 2)) rfl E106 wa_J (by decide) (by decide) (by decide) (Nat.le_of_ble_eq_true rfl) (Nat.le_of_ble_eq_true rfl) (fun a120 G121 S122 e_a120 e_G121 e_S122 => ?_)
  have h := h a120 e_a120 G121 e_G121 S122 e_S122
  have X123 : ext G102 G121 := by rw [e_G121]; exact ext.new
  have N124 : G121.2.2 = G102.2.2 + 1 := by rw [e_G121]; rfl
  have X126 := X107.tr X123
  have N127 : G121.2.2 = G0.2.2 + 20 := by omega
  have E125 : s.heap.size + 20 ≤ b + G121.2.2 := by omega
  have t_a120 : ok G121 12 a120 := by rw [e_G121, e_a120]; exact ok_new
  refine jPutRF C 131 (by decide +kernel : decode cX4_init 128 = .ok (.putfield 51, 3)) rfl E125 (X123.ok (X104.ok (X95.ok (X86.ok (X77.ok (X68.ok (X59.ok (X50.ok (X41.ok (X32.ok (X23.ok (X14.ok (X4.ok t_v0))))))))))))) kX4 11 (by decide) rfl rfl (by decide) rfl hin rfl wd_202 rfl rfl rfl (fun t ht => by cases ht; exact t_a120) ?_
  refine jTopS (fun S128 e_S128 => ?_)
  have h := h S128 e_S128
  exact jRetV C (by decide +kernel : decode cX4_init 131 = .ok (.return_, 1)) (Nat.le_of_ble_eq_true rfl) (Nat.le_of_ble_eq_true rfl) ⟨⟨X126, N127⟩, h⟩
theorem ok_X4_init {G : Gm} {v0 : Nat} {S : St} {Q : Gm → St → Prop}  (t_v0 : ok G 3 v0) (h : f_X4_init G v0 Q S) : MT yX4_init cX4_init 1 none rm_X4_init 20 1871 (fun b => [.ref (b + v0)]) G S (QV (fun G1 S1 => (ext G G1 ∧ G1.2.2 = G.2.2 + 20) ∧ Q G1 S1)) := MT.ofJ (by decide +kernel) (fun b => [(0, .ref (b + v0))]) (fun b => rfl) (fun b => Nat.le_of_ble_eq_true rfl) (fun l b D cy p e s m below meth c C hE hn => j_X4_init C hE hn hE ext.rf rfl t_v0 h)
theorem hd_X4_init : yX4_init.cls ≠ "java/lang/invoke/MethodHandle" ∧ yX4_init.cls ≠ "java/lang/invoke/VarHandle" ∧ (parseMethodDescriptor yX4_init.desc).map (fun d => d.parameters.length) = some 0 := by decide +kernel
abbrev rm_X8_init : Room := { frames := 2, cells := 5, slots := 884, locals := 52 }
set_option maxHeartbeats 4000000 in
set_option maxRecDepth 100000 in
theorem j_X8_init {p : Program} {l : Launch} {e : Env} {s : State} {m : MethodId} {args : Array Value} {below : List Frame} {meth : Method} {c : Code} {b : Nat} {D : va_G} {cy : Nat → ClassId} {G : Gm} {G0 : Gm} {v0 : Nat} {v1 : Int32} {v2 : Int32} {S : St} {Q : Gm → St → Prop} (C : CX p s m args meth c b D cy cX8_init RX8 4 none) (hI : s.heap.size + 0 ≤ b + G0.2.2) (hin : meth.name = yX8_init.name) (hE : s.heap.size + 0 ≤ b + G.2.2) (hX : ext G0 G) (hN : G.2.2 = G0.2.2 + 0) (t_v0 : ok G 7 v0) (h : f_X8_init G v0 v1 v2 Q S) : J p l e rm_X8_init s m args below meth c b D cy 4 (MQ below (QV (fun G1 S1 => (ext G0 G1 ∧ G1.2.2 = G0.2.2 + 5) ∧ Q G1 S1) b D cy) args s 5 884 (fun q => b ≤ q)) 0 0 G S 0 [(0, .ref (b + v0)), (1, .int v1), (2, .int v2)] [] := by
  unfold f_X8_init at h
  refine jB C [(.aload_n 0, 1, 0)] 1 [(0, .ref (b + v0)), (1, .int v1), (2, .int v2)] [.ref (b + v0)] (by decide +kernel) rfl rfl ?_
  refine jObj C 4 (by decide +kernel : decode cX8_init 1 = .ok (.invokespecial 3, 3)) rfl wd_239 (Nat.le_of_ble_eq_true rfl) (Nat.le_of_ble_eq_true rfl) (Nat.le_of_ble_eq_true rfl) ?_
  refine jB C [(.iload_n 1, 1, 0), (.iconst 0, 1, 0), (.bipush 12, 2, 12)] 8 [(0, .ref (b + v0)), (1, .int v1), (2, .int v2)] [.int 12, .int 0, .int v1] (by decide +kernel) rfl rfl ?_
  refine jcSN_I C 11 (rest := []) (ok_X10_nearest h) (by decide +kernel : decode cX8_init 8 = .ok (.invokestatic 9, 3)) rfl wn_240 wd_241 wd_1 wd_242 ⟨rfl, rfl⟩ hd_X10_nearest ⟨Nat.le_of_ble_eq_true rfl, Nat.le_of_ble_eq_true rfl⟩ rfl rfl (Nat.le_of_ble_eq_true rfl) ⟨Nat.le_of_ble_eq_true rfl, Nat.le_of_ble_eq_true rfl⟩ (fun r2 S1 h => ?_)
  refine jB C [(.istore_n 3, 1, 0), (.aload_n 0, 1, 0), (.iload_n 3, 1, 0)] 14 [(3, .int r2), (0, .ref (b + v0)), (1, .int v1), (2, .int v2)] [.int r2, .ref (b + v0)] (by decide +kernel) rfl rfl ?_
  obtain ⟨y58, y59, h⟩ := h
  refine jNewI C 16 12 (by decide +kernel : decode cX8_init 14 = .ok (.newarray .int, 2)) rfl hE wa_I y58 y59 (by decide) (Nat.le_of_ble_eq_true rfl) (Nat.le_of_ble_eq_true rfl) (fun a3 G4 S5 e_a3 e_G4 e_S5 => ?_)
  have h := h a3 e_a3 G4 e_G4 S5 e_S5
  have X6 : ext G G4 := by rw [e_G4]; exact ext.new
  have N7 : G4.2.2 = G.2.2 + 1 := by rw [e_G4]; rfl
  have X9 := hX.tr X6
  have N10 : G4.2.2 = G0.2.2 + 1 := by omega
  have E8 : s.heap.size + 1 ≤ b + G4.2.2 := by omega
  have t_a3 : ok G4 11 a3 := by rw [e_G4, e_a3]; exact ok_new
  refine jPutRF C 19 (by decide +kernel : decode cX8_init 16 = .ok (.putfield 13, 3)) rfl E8 (X6.ok t_v0) kX8 0 (by decide) rfl rfl (by decide) rfl hin rfl wd_249 rfl rfl rfl (fun t ht => by cases ht; exact t_a3) ?_
  refine jTopS (fun S11 e_S11 => ?_)
  have h := h S11 e_S11
  refine jB C [(.aload_n 0, 1, 0), (.iload_n 3, 1, 0)] 21 [(3, .int r2), (0, .ref (b + v0)), (1, .int v1), (2, .int v2)] [.int r2, .ref (b + v0)] (by decide +kernel) rfl rfl ?_
  obtain ⟨y56, y57, h⟩ := h
  refine jNewI C 23 12 (by decide +kernel : decode cX8_init 21 = .ok (.newarray .int, 2)) rfl E8 wa_I y56 y57 (by decide) (Nat.le_of_ble_eq_true rfl) (Nat.le_of_ble_eq_true rfl) (fun a12 G13 S14 e_a12 e_G13 e_S14 => ?_)
  have h := h a12 e_a12 G13 e_G13 S14 e_S14
  have X15 : ext G4 G13 := by rw [e_G13]; exact ext.new
  have N16 : G13.2.2 = G4.2.2 + 1 := by rw [e_G13]; rfl
  have X18 := X9.tr X15
  have N19 : G13.2.2 = G0.2.2 + 2 := by omega
  have E17 : s.heap.size + 2 ≤ b + G13.2.2 := by omega
  have t_a12 : ok G13 11 a12 := by rw [e_G13, e_a12]; exact ok_new
  refine jPutRF C 26 (by decide +kernel : decode cX8_init 23 = .ok (.putfield 19, 3)) rfl E17 (X15.ok (X6.ok t_v0)) kX8 1 (by decide) rfl rfl (by decide) rfl hin rfl wd_250 rfl rfl rfl (fun t ht => by cases ht; exact t_a12) ?_
  refine jTopS (fun S20 e_S20 => ?_)
  have h := h S20 e_S20
  refine jB C [(.aload_n 0, 1, 0), (.iload_n 3, 1, 0)] 28 [(3, .int r2), (0, .ref (b + v0)), (1, .int v1), (2, .int v2)] [.int r2, .ref (b + v0)] (by decide +kernel) rfl rfl ?_
  obtain ⟨y54, y55, h⟩ := h
  refine jNewI C 30 12 (by decide +kernel : decode cX8_init 28 = .ok (.newarray .int, 2)) rfl E17 wa_I y54 y55 (by decide) (Nat.le_of_ble_eq_true rfl) (Nat.le_of_ble_eq_true rfl) (fun a21 G22 S23 e_a21 e_G22 e_S23 => ?_)
  have h := h a21 e_a21 G22 e_G22 S23 e_S23
  have X24 : ext G13 G22 := by rw [e_G22]; exact ext.new
  have N25 : G22.2.2 = G13.2.2 + 1 := by rw [e_G22]; rfl
  have X27 := X18.tr X24
  have N28 : G22.2.2 = G0.2.2 + 3 := by omega
  have E26 : s.heap.size + 3 ≤ b + G22.2.2 := by omega
  have t_a21 : ok G22 11 a21 := by rw [e_G22, e_a21]; exact ok_new
  refine jPutRF C 33 (by decide +kernel : decode cX8_init 30 = .ok (.putfield 22, 3)) rfl E26 (X24.ok (X15.ok (X6.ok t_v0))) kX8 2 (by decide) rfl rfl (by decide) rfl hin rfl wd_251 rfl rfl rfl (fun t ht => by cases ht; exact t_a21) ?_
  refine jTopS (fun S29 e_S29 => ?_)
  have h := h S29 e_S29
  refine jB C [(.aload_n 0, 1, 0), (.iload_n 3, 1, 0), (.iconst 4, 1, 4), (.imul, 1, 0)] 37 [(3, .int r2), (0, .ref (b + v0)), (1, .int v1), (2, .int v2)] [.int (r2 * 4), .ref (b + v0)] (by decide +kernel) rfl rfl ?_
  obtain ⟨y52, y53, h⟩ := h
  refine jNewI C 39 48 (by decide +kernel : decode cX8_init 37 = .ok (.newarray .int, 2)) rfl E26 wa_I y52 y53 (by decide) (Nat.le_of_ble_eq_true rfl) (Nat.le_of_ble_eq_true rfl) (fun a30 G31 S32 e_a30 e_G31 e_S32 => ?_)
  have h := h a30 e_a30 G31 e_G31 S32 e_S32
  have X33 : ext G22 G31 := by rw [e_G31]; exact ext.new
  have N34 : G31.2.2 = G22.2.2 + 1 := by rw [e_G31]; rfl
  have X36 := X27.tr X33
  have N37 : G31.2.2 = G0.2.2 + 4 := by omega
  have E35 : s.heap.size + 4 ≤ b + G31.2.2 := by omega
  have t_a30 : ok G31 11 a30 := by rw [e_G31, e_a30]; exact ok_new
  refine jPutRF C 42 (by decide +kernel : decode cX8_init 39 = .ok (.putfield 25, 3)) rfl E35 (X33.ok (X24.ok (X15.ok (X6.ok t_v0)))) kX8 3 (by decide) rfl rfl (by decide) rfl hin rfl wd_252 rfl rfl rfl (fun t ht => by cases ht; exact t_a30) ?_
  refine jTopS (fun S38 e_S38 => ?_)
  have h := h S38 e_S38
  refine jB C [(.aload_n 0, 1, 0), (.iload_n 2, 1, 0), (.iconst 0, 1, 0), (.sipush 800, 3, 800)] 48 [(3, .int r2), (0, .ref (b + v0)), (1, .int v1), (2, .int v2)] [.int 800, .int 0, .int v2, .ref (b + v0)] (by decide +kernel) rfl rfl ?_
  refine jcSN_I C 51 (rest := [.ref (b + v0)]) (ok_X10_nearest h) (by decide +kernel : decode cX8_init 48 = .ok (.invokestatic 9, 3)) rfl wn_240 wd_241 wd_1 wd_242 ⟨rfl, rfl⟩ hd_X10_nearest ⟨Nat.le_of_ble_eq_true rfl, Nat.le_of_ble_eq_true rfl⟩ rfl rfl (Nat.le_of_ble_eq_true rfl) ⟨Nat.le_of_ble_eq_true rfl, Nat.le_of_ble_eq_true rfl⟩ (fun r40 S39 h => ?_)
  obtain ⟨y50, y51, h⟩ := h
  refine jNewI C 53 800 (by decide +kernel : decode cX8_init 51 = .ok (.newarray .int, 2)) rfl E35 wa_I y50 y51 (by decide) (Nat.le_of_ble_eq_true rfl) (Nat.le_of_ble_eq_true rfl) (fun a41 G42 S43 e_a41 e_G42 e_S43 => ?_)
  have h := h a41 e_a41 G42 e_G42 S43 e_S43
  have X44 : ext G31 G42 := by rw [e_G42]; exact ext.new
  have N45 : G42.2.2 = G31.2.2 + 1 := by rw [e_G42]; rfl
  have X47 := X36.tr X44
  have N48 : G42.2.2 = G0.2.2 + 5 := by omega
  have E46 : s.heap.size + 5 ≤ b + G42.2.2 := by omega
  have t_a41 : ok G42 11 a41 := by rw [e_G42, e_a41]; exact ok_new
  refine jPutRF C 56 (by decide +kernel : decode cX8_init 53 = .ok (.putfield 28, 3)) rfl E46 (X44.ok (X33.ok (X24.ok (X15.ok (X6.ok t_v0))))) kX8 4 (by decide) rfl rfl (by decide) rfl hin rfl wd_253 rfl rfl rfl (fun t ht => by cases ht; exact t_a41) ?_
  refine jTopS (fun S49 e_S49 => ?_)
  have h := h S49 e_S49
  exact jRetV C (by decide +kernel : decode cX8_init 56 = .ok (.return_, 1)) (Nat.le_of_ble_eq_true rfl) (Nat.le_of_ble_eq_true rfl) ⟨⟨X47, N48⟩, h⟩
theorem ok_X8_init {G : Gm} {v0 : Nat} {v1 : Int32} {v2 : Int32} {S : St} {Q : Gm → St → Prop}  (t_v0 : ok G 7 v0) (h : f_X8_init G v0 v1 v2 Q S) : MT yX8_init cX8_init 4 none rm_X8_init 5 884 (fun b => [.ref (b + v0), .int v1, .int v2]) G S (QV (fun G1 S1 => (ext G G1 ∧ G1.2.2 = G.2.2 + 5) ∧ Q G1 S1)) := MT.ofJ (by decide +kernel) (fun b => [(0, .ref (b + v0)), (1, .int v1), (2, .int v2)]) (fun b => rfl) (fun b => Nat.le_of_ble_eq_true rfl) (fun l b D cy p e s m below meth c C hE hn => j_X8_init C hE hn hE ext.rf rfl t_v0 h)
theorem hd_X8_init : yX8_init.cls ≠ "java/lang/invoke/MethodHandle" ∧ yX8_init.cls ≠ "java/lang/invoke/VarHandle" ∧ (parseMethodDescriptor yX8_init.desc).map (fun d => d.parameters.length) = some 2 := by decide +kernel
abbrev rm_X6_init : Room := { frames := 3, cells := 10, slots := 2494, locals := 75 }
set_option maxHeartbeats 4000000 in
set_option maxRecDepth 100000 in
theorem j_X6_init {p : Program} {l : Launch} {e : Env} {s : State} {m : MethodId} {args : Array Value} {below : List Frame} {meth : Method} {c : Code} {b : Nat} {D : va_G} {cy : Nat → ClassId} {G : Gm} {G0 : Gm} {v0 : Nat} {S : St} {Q : Gm → St → Prop} (C : CX p s m args meth c b D cy cX6_init RX6 1 none) (hI : s.heap.size + 0 ≤ b + G0.2.2) (hin : meth.name = yX6_init.name) (hE : s.heap.size + 0 ≤ b + G.2.2) (hX : ext G0 G) (hN : G.2.2 = G0.2.2 + 0) (t_v0 : ok G 5 v0) (h : f_X6_init G v0 Q S) : J p l e rm_X6_init s m args below meth c b D cy 1 (MQ below (QV (fun G1 S1 => (ext G0 G1 ∧ G1.2.2 = G0.2.2 + 10) ∧ Q G1 S1) b D cy) args s 10 2494 (fun q => b ≤ q)) 0 0 G S 0 [(0, .ref (b + v0))] [] := by
  unfold f_X6_init at h
  refine jB C [(.aload_n 0, 1, 0)] 1 [(0, .ref (b + v0))] [.ref (b + v0)] (by decide +kernel) rfl rfl ?_
  refine jObj C 4 (by decide +kernel : decode cX6_init 1 = .ok (.invokespecial 3, 3)) rfl wd_233 (Nat.le_of_ble_eq_true rfl) (Nat.le_of_ble_eq_true rfl) (Nat.le_of_ble_eq_true rfl) ?_
  refine jB C [(.aload_n 0, 1, 0), (.sipush 400, 3, 400)] 8 [(0, .ref (b + v0))] [.int 400, .ref (b + v0)] (by decide +kernel) rfl rfl ?_
  refine jNewI C 10 400 (by decide +kernel : decode cX6_init 8 = .ok (.newarray .int, 2)) rfl hE wa_I (by decide) (by decide) (by decide) (Nat.le_of_ble_eq_true rfl) (Nat.le_of_ble_eq_true rfl) (fun a1 G2 S3 e_a1 e_G2 e_S3 => ?_)
  have h := h a1 e_a1 G2 e_G2 S3 e_S3
  have X4 : ext G G2 := by rw [e_G2]; exact ext.new
  have N5 : G2.2.2 = G.2.2 + 1 := by rw [e_G2]; rfl
  have X7 := hX.tr X4
  have N8 : G2.2.2 = G0.2.2 + 1 := by omega
  have E6 : s.heap.size + 1 ≤ b + G2.2.2 := by omega
  have t_a1 : ok G2 11 a1 := by rw [e_G2, e_a1]; exact ok_new
  refine jPutRF C 13 (by decide +kernel : decode cX6_init 10 = .ok (.putfield 9, 3)) rfl E6 (X4.ok t_v0) kX6 0 (by decide) rfl rfl (by decide) rfl hin rfl wd_274 rfl rfl rfl (fun t ht => by cases ht; exact t_a1) ?_
  refine jTopS (fun S9 e_S9 => ?_)
  have h := h S9 e_S9
  refine jB C [(.aload_n 0, 1, 0), (.sipush 401, 3, 401)] 17 [(0, .ref (b + v0))] [.int 401, .ref (b + v0)] (by decide +kernel) rfl rfl ?_
  refine jNewI C 19 401 (by decide +kernel : decode cX6_init 17 = .ok (.newarray .int, 2)) rfl E6 wa_I (by decide) (by decide) (by decide) (Nat.le_of_ble_eq_true rfl) (Nat.le_of_ble_eq_true rfl) (fun a10 G11 S12 e_a10 e_G11 e_S12 => ?_)
  have h := h a10 e_a10 G11 e_G11 S12 e_S12
  have X13 : ext G2 G11 := by rw [e_G11]; exact ext.new
  have N14 : G11.2.2 = G2.2.2 + 1 := by rw [e_G11]; rfl
  have X16 := X7.tr X13
  have N17 : G11.2.2 = G0.2.2 + 2 := by omega
  have E15 : s.heap.size + 2 ≤ b + G11.2.2 := by omega
  have t_a10 : ok G11 11 a10 := by rw [e_G11, e_a10]; exact ok_new
  refine jPutRF C 22 (by decide +kernel : decode cX6_init 19 = .ok (.putfield 15, 3)) rfl E15 (X13.ok (X4.ok t_v0)) kX6 2 (by decide) rfl rfl (by decide) rfl hin rfl wd_277 rfl rfl rfl (fun t ht => by cases ht; exact t_a10) ?_
  refine jTopS (fun S18 e_S18 => ?_)
  have h := h S18 e_S18
  refine jB C [(.aload_n 0, 1, 0), (.sipush 401, 3, 401)] 26 [(0, .ref (b + v0))] [.int 401, .ref (b + v0)] (by decide +kernel) rfl rfl ?_
  refine jNewI C 28 401 (by decide +kernel : decode cX6_init 26 = .ok (.newarray .int, 2)) rfl E15 wa_I (by decide) (by decide) (by decide) (Nat.le_of_ble_eq_true rfl) (Nat.le_of_ble_eq_true rfl) (fun a19 G20 S21 e_a19 e_G20 e_S21 => ?_)
  have h := h a19 e_a19 G20 e_G20 S21 e_S21
  have X22 : ext G11 G20 := by rw [e_G20]; exact ext.new
  have N23 : G20.2.2 = G11.2.2 + 1 := by rw [e_G20]; rfl
  have X25 := X16.tr X22
  have N26 : G20.2.2 = G0.2.2 + 3 := by omega
  have E24 : s.heap.size + 3 ≤ b + G20.2.2 := by omega
  have t_a19 : ok G20 11 a19 := by rw [e_G20, e_a19]; exact ok_new
  refine jPutRF C 31 (by decide +kernel : decode cX6_init 28 = .ok (.putfield 18, 3)) rfl E24 (X22.ok (X13.ok (X4.ok t_v0))) kX6 3 (by decide) rfl rfl (by decide) rfl hin rfl wd_278 rfl rfl rfl (fun t ht => by cases ht; exact t_a19) ?_
  refine jTopS (fun S27 e_S27 => ?_)
  have h := h S27 e_S27
  refine jB C [(.aload_n 0, 1, 0), (.sipush 401, 3, 401)] 35 [(0, .ref (b + v0))] [.int 401, .ref (b + v0)] (by decide +kernel) rfl rfl ?_
  refine jNewI C 37 401 (by decide +kernel : decode cX6_init 35 = .ok (.newarray .int, 2)) rfl E24 wa_I (by decide) (by decide) (by decide) (Nat.le_of_ble_eq_true rfl) (Nat.le_of_ble_eq_true rfl) (fun a28 G29 S30 e_a28 e_G29 e_S30 => ?_)
  have h := h a28 e_a28 G29 e_G29 S30 e_S30
  have X31 : ext G20 G29 := by rw [e_G29]; exact ext.new
  have N32 : G29.2.2 = G20.2.2 + 1 := by rw [e_G29]; rfl
  have X34 := X25.tr X31
  have N35 : G29.2.2 = G0.2.2 + 4 := by omega
  have E33 : s.heap.size + 4 ≤ b + G29.2.2 := by omega
  have t_a28 : ok G29 11 a28 := by rw [e_G29, e_a28]; exact ok_new
  refine jPutRF C 40 (by decide +kernel : decode cX6_init 37 = .ok (.putfield 21, 3)) rfl E33 (X31.ok (X22.ok (X13.ok (X4.ok t_v0)))) kX6 4 (by decide) rfl rfl (by decide) rfl hin rfl wd_279 rfl rfl rfl (fun t ht => by cases ht; exact t_a28) ?_
  refine jTopS (fun S36 e_S36 => ?_)
  have h := h S36 e_S36
  refine jB C [(.aload_n 0, 1, 0), (.iconst (-1), 1, (-1))] 42 [(0, .ref (b + v0))] [.int (-1), .ref (b + v0)] (by decide +kernel) rfl rfl ?_
  refine jPutI C 45 (by decide +kernel : decode cX6_init 42 = .ok (.putfield 24, 3)) rfl E33 (X31.ok (X22.ok (X13.ok (X4.ok t_v0)))) kX6 9 (by decide) rfl rfl (by decide) rfl wd_284 rfl rfl rfl ?_
  refine jTopS (fun S37 e_S37 => ?_)
  have h := h S37 e_S37
  refine jB C [(.aload_n 0, 1, 0)] 46 [(0, .ref (b + v0))] [.ref (b + v0)] (by decide +kernel) rfl rfl ?_
  refine jNew C 49 (by decide +kernel : decode cX6_init 46 = .ok (.new 28, 3)) rfl E33 kX8 (by decide) dfX8 wd_234 wd_235 wd_10 (Nat.le_of_ble_eq_true rfl) (Nat.le_of_ble_eq_true rfl) (fun a38 G39 S40 e_a38 e_G39 e_S40 => ?_)
  have h := h a38 e_a38 G39 e_G39 S40 e_S40
  have X41 : ext G29 G39 := by rw [e_G39]; exact ext.new
  have N42 : G39.2.2 = G29.2.2 + 1 := by rw [e_G39]; rfl
  have X44 := X34.tr X41
  have N45 : G39.2.2 = G0.2.2 + 5 := by omega
  have E43 : s.heap.size + 5 ≤ b + G39.2.2 := by omega
  have t_a38 : ok G39 7 a38 := by rw [e_G39, e_a38]; exact ok_new
  refine jB C [(.dup, 1, 0), (.bipush 12, 2, 12), (.sipush 800, 3, 800)] 55 [(0, .ref (b + v0))] [.int 800, .int 12, .ref (b + a38), .ref (b + a38), .ref (b + v0)] (by decide +kernel) rfl rfl ?_
  refine jCallIN_V C 58 (rest := [.ref (b + a38), .ref (b + v0)]) (ok_X8_init t_a38 h) (by decide +kernel : decode cX6_init 55 = .ok (.invokespecial 30, 3)) rfl wn_236 wd_237 rfl wd_10 wd_238 ⟨rfl, rfl⟩ hd_X8_init ⟨Nat.le_of_ble_eq_true rfl, Nat.le_of_ble_eq_true rfl⟩ rfl rfl rfl (Nat.le_of_ble_eq_true rfl) ⟨Nat.le_of_ble_eq_true rfl, Nat.le_of_ble_eq_true rfl⟩ (fun G46 S47 h => ?_)
  obtain ⟨⟨X49, N50⟩, h⟩ := h
  have X51 := X49
  have N52 : G46.2.2 = G39.2.2 + 5 := N50
  have X54 := X44.tr X51
  have N55 : G46.2.2 = G0.2.2 + 10 := by omega
  have E53 : s.heap.size + 10 ≤ b + G46.2.2 := by omega
  refine jPutRF C 61 (by decide +kernel : decode cX6_init 58 = .ok (.putfield 33, 3)) rfl E53 (X51.ok (X41.ok (X31.ok (X22.ok (X13.ok (X4.ok t_v0)))))) kX6 10 (by decide) rfl rfl (by decide) rfl hin rfl wd_286 rfl rfl rfl (fun t ht => by cases ht; exact (X51.ok t_a38)) ?_
  refine jTopS (fun S56 e_S56 => ?_)
  have h := h S56 e_S56
  exact jRetV C (by decide +kernel : decode cX6_init 61 = .ok (.return_, 1)) (Nat.le_of_ble_eq_true rfl) (Nat.le_of_ble_eq_true rfl) ⟨⟨X54, N55⟩, h⟩
theorem ok_X6_init {G : Gm} {v0 : Nat} {S : St} {Q : Gm → St → Prop}  (t_v0 : ok G 5 v0) (h : f_X6_init G v0 Q S) : MT yX6_init cX6_init 1 none rm_X6_init 10 2494 (fun b => [.ref (b + v0)]) G S (QV (fun G1 S1 => (ext G G1 ∧ G1.2.2 = G.2.2 + 10) ∧ Q G1 S1)) := MT.ofJ (by decide +kernel) (fun b => [(0, .ref (b + v0))]) (fun b => rfl) (fun b => Nat.le_of_ble_eq_true rfl) (fun l b D cy p e s m below meth c C hE hn => j_X6_init C hE hn hE ext.rf rfl t_v0 h)
theorem hd_X6_init : yX6_init.cls ≠ "java/lang/invoke/MethodHandle" ∧ yX6_init.cls ≠ "java/lang/invoke/VarHandle" ∧ (parseMethodDescriptor yX6_init.desc).map (fun d => d.parameters.length) = some 0 := by decide +kernel
abbrev rm_X10_init : Room := { frames := 5, cells := 86, slots := 5937, locals := 110 }
set_option maxHeartbeats 4000000 in
set_option maxRecDepth 100000 in
theorem j_X10_init {p : Program} {l : Launch} {e : Env} {s : State} {m : MethodId} {args : Array Value} {below : List Frame} {meth : Method} {c : Code} {b : Nat} {D : va_G} {cy : Nat → ClassId} {G : Gm} {G0 : Gm} {v0 : Nat} {S : St} {Q : Gm → St → Prop} (C : CX p s m args meth c b D cy cX10_init RX10 1 none) (hI : s.heap.size + 0 ≤ b + G0.2.2) (hin : meth.name = yX10_init.name) (hE : s.heap.size + 0 ≤ b + G.2.2) (hX : ext G0 G) (hN : G.2.2 = G0.2.2 + 0) (t_v0 : ok G 9 v0) (h : f_X10_init G v0 Q S) : J p l e rm_X10_init s m args below meth c b D cy 1 (MQ below (QV (fun G1 S1 => (ext G0 G1 ∧ G1.2.2 = G0.2.2 + 86) ∧ Q G1 S1) b D cy) args s 86 5937 (fun q => b ≤ q)) 0 0 G S 0 [(0, .ref (b + v0))] [] := by
  unfold f_X10_init at h
  refine jB C [(.aload_n 0, 1, 0)] 1 [(0, .ref (b + v0))] [.ref (b + v0)] (by decide +kernel) rfl rfl ?_
  refine jObj C 4 (by decide +kernel : decode cX10_init 1 = .ok (.invokespecial 5, 3)) rfl wd_25 (Nat.le_of_ble_eq_true rfl) (Nat.le_of_ble_eq_true rfl) (Nat.le_of_ble_eq_true rfl) ?_
  refine jB C [(.aload_n 0, 1, 0)] 5 [(0, .ref (b + v0))] [.ref (b + v0)] (by decide +kernel) rfl rfl ?_
  refine jNew C 8 (by decide +kernel : decode cX10_init 5 = .ok (.new 11, 3)) rfl hE kX5 (by decide) dfX5 wd_28 wd_29 wd_2 (Nat.le_of_ble_eq_true rfl) (Nat.le_of_ble_eq_true rfl) (fun a1 G2 S3 e_a1 e_G2 e_S3 => ?_)
  have h := h a1 e_a1 G2 e_G2 S3 e_S3
  have X4 : ext G G2 := by rw [e_G2]; exact ext.new
  have N5 : G2.2.2 = G.2.2 + 1 := by rw [e_G2]; rfl
  have X7 := hX.tr X4
  have N8 : G2.2.2 = G0.2.2 + 1 := by omega
  have E6 : s.heap.size + 1 ≤ b + G2.2.2 := by omega
  have t_a1 : ok G2 4 a1 := by rw [e_G2, e_a1]; exact ok_new
  refine jB C [(.dup, 1, 0)] 9 [(0, .ref (b + v0))] [.ref (b + a1), .ref (b + a1), .ref (b + v0)] (by decide +kernel) rfl rfl ?_
  refine jCallIN_V C 12 (rest := [.ref (b + a1), .ref (b + v0)]) (ok_X5_init t_a1 h) (by decide +kernel : decode cX10_init 9 = .ok (.invokespecial 13, 3)) rfl wn_30 wd_31 rfl wd_2 wd_32 ⟨rfl, rfl⟩ hd_X5_init ⟨Nat.le_of_ble_eq_true rfl, Nat.le_of_ble_eq_true rfl⟩ rfl rfl rfl (Nat.le_of_ble_eq_true rfl) ⟨Nat.le_of_ble_eq_true rfl, Nat.le_of_ble_eq_true rfl⟩ (fun G9 S10 h => ?_)
  obtain ⟨⟨X12, N13⟩, h⟩ := h
  have X14 := X12
  have N15 : G9.2.2 = G2.2.2 + 7 := N13
  have X17 := X7.tr X14
  have N18 : G9.2.2 = G0.2.2 + 8 := by omega
  have E16 : s.heap.size + 8 ≤ b + G9.2.2 := by omega
  refine jPutRF C 15 (by decide +kernel : decode cX10_init 12 = .ok (.putfield 14, 3)) rfl E16 (X14.ok (X4.ok t_v0)) kX10 0 (by decide) rfl rfl (by decide) rfl hin rfl wd_311 rfl rfl rfl (fun t ht => by cases ht; exact (X14.ok t_a1)) ?_
  refine jTopS (fun S19 e_S19 => ?_)
  have h := h S19 e_S19
  refine jB C [(.aload_n 0, 1, 0)] 16 [(0, .ref (b + v0))] [.ref (b + v0)] (by decide +kernel) rfl rfl ?_
  refine jNew C 19 (by decide +kernel : decode cX10_init 16 = .ok (.new 11, 3)) rfl E16 kX5 (by decide) dfX5 wd_28 wd_29 wd_2 (Nat.le_of_ble_eq_true rfl) (Nat.le_of_ble_eq_true rfl) (fun a20 G21 S22 e_a20 e_G21 e_S22 => ?_)
  have h := h a20 e_a20 G21 e_G21 S22 e_S22
  have X23 : ext G9 G21 := by rw [e_G21]; exact ext.new
  have N24 : G21.2.2 = G9.2.2 + 1 := by rw [e_G21]; rfl
  have X26 := X17.tr X23
  have N27 : G21.2.2 = G0.2.2 + 9 := by omega
  have E25 : s.heap.size + 9 ≤ b + G21.2.2 := by omega
  have t_a20 : ok G21 4 a20 := by rw [e_G21, e_a20]; exact ok_new
  refine jB C [(.dup, 1, 0)] 20 [(0, .ref (b + v0))] [.ref (b + a20), .ref (b + a20), .ref (b + v0)] (by decide +kernel) rfl rfl ?_
  refine jCallIN_V C 23 (rest := [.ref (b + a20), .ref (b + v0)]) (ok_X5_init t_a20 h) (by decide +kernel : decode cX10_init 20 = .ok (.invokespecial 13, 3)) rfl wn_30 wd_31 rfl wd_2 wd_32 ⟨rfl, rfl⟩ hd_X5_init ⟨Nat.le_of_ble_eq_true rfl, Nat.le_of_ble_eq_true rfl⟩ rfl rfl rfl (Nat.le_of_ble_eq_true rfl) ⟨Nat.le_of_ble_eq_true rfl, Nat.le_of_ble_eq_true rfl⟩ (fun G28 S29 h => ?_)
  obtain ⟨⟨X31, N32⟩, h⟩ := h
  have X33 := X31
  have N34 : G28.2.2 = G21.2.2 + 7 := N32
  have X36 := X26.tr X33
  have N37 : G28.2.2 = G0.2.2 + 16 := by omega
  have E35 : s.heap.size + 16 ≤ b + G28.2.2 := by omega
  refine jPutRF C 26 (by decide +kernel : decode cX10_init 23 = .ok (.putfield 18, 3)) rfl E35 (X33.ok (X23.ok (X14.ok (X4.ok t_v0)))) kX10 1 (by decide) rfl rfl (by decide) rfl hin rfl wd_312 rfl rfl rfl (fun t ht => by cases ht; exact (X33.ok t_a20)) ?_
  refine jTopS (fun S38 e_S38 => ?_)
  have h := h S38 e_S38
  refine jB C [(.aload_n 0, 1, 0), (.iconst 2, 1, 2)] 28 [(0, .ref (b + v0))] [.int 2, .ref (b + v0)] (by decide +kernel) rfl rfl ?_
  refine jNewP C 31 2 (by decide +kernel : decode cX10_init 28 = .ok (.anewarray 11, 3)) rfl E35 wd_28 (by decide) (by decide) (by decide) (Nat.le_of_ble_eq_true rfl) (Nat.le_of_ble_eq_true rfl) (fun a39 G40 S41 e_a39 e_G40 e_S41 => ?_)
  have h := h a39 e_a39 G40 e_G40 S41 e_S41
  have X42 : ext G28 G40 := by rw [e_G40]; exact ext.new
  have N43 : G40.2.2 = G28.2.2 + 1 := by rw [e_G40]; rfl
  have X45 := X36.tr X42
  have N46 : G40.2.2 = G0.2.2 + 17 := by omega
  have E44 : s.heap.size + 17 ≤ b + G40.2.2 := by omega
  have t_a39 : ok G40 14 a39 := by rw [e_G40, e_a39]; exact ok_new
  refine jPutRF C 34 (by decide +kernel : decode cX10_init 31 = .ok (.putfield 21, 3)) rfl E44 (X42.ok (X33.ok (X23.ok (X14.ok (X4.ok t_v0))))) kX10 2 (by decide) rfl rfl (by decide) rfl hin rfl wd_313 rfl rfl rfl (fun t ht => by cases ht; exact t_a39) ?_
  refine jTopS (fun S47 e_S47 => ?_)
  have h := h S47 e_S47
  refine jB C [(.aload_n 0, 1, 0)] 35 [(0, .ref (b + v0))] [.ref (b + v0)] (by decide +kernel) rfl rfl ?_
  refine jNew C 38 (by decide +kernel : decode cX10_init 35 = .ok (.new 25, 3)) rfl E44 kX9 (by decide) dfX9 wd_83 wd_84 wd_3 (Nat.le_of_ble_eq_true rfl) (Nat.le_of_ble_eq_true rfl) (fun a48 G49 S50 e_a48 e_G49 e_S50 => ?_)
  have h := h a48 e_a48 G49 e_G49 S50 e_S50
  have X51 : ext G40 G49 := by rw [e_G49]; exact ext.new
  have N52 : G49.2.2 = G40.2.2 + 1 := by rw [e_G49]; rfl
  have X54 := X45.tr X51
  have N55 : G49.2.2 = G0.2.2 + 18 := by omega
  have E53 : s.heap.size + 18 ≤ b + G49.2.2 := by omega
  have t_a48 : ok G49 8 a48 := by rw [e_G49, e_a48]; exact ok_new
  refine jB C [(.dup, 1, 0)] 39 [(0, .ref (b + v0))] [.ref (b + a48), .ref (b + a48), .ref (b + v0)] (by decide +kernel) rfl rfl ?_
  refine jCallIN_V C 42 (rest := [.ref (b + a48), .ref (b + v0)]) (ok_X9_init t_a48 h) (by decide +kernel : decode cX10_init 39 = .ok (.invokespecial 27, 3)) rfl wn_85 wd_86 rfl wd_3 wd_87 ⟨rfl, rfl⟩ hd_X9_init ⟨Nat.le_of_ble_eq_true rfl, Nat.le_of_ble_eq_true rfl⟩ rfl rfl rfl (Nat.le_of_ble_eq_true rfl) ⟨Nat.le_of_ble_eq_true rfl, Nat.le_of_ble_eq_true rfl⟩ (fun G56 S57 h => ?_)
  obtain ⟨⟨X59, N60⟩, h⟩ := h
  have X61 := X59
  have N62 : G56.2.2 = G49.2.2 + 1 := N60
  have X64 := X54.tr X61
  have N65 : G56.2.2 = G0.2.2 + 19 := by omega
  have E63 : s.heap.size + 19 ≤ b + G56.2.2 := by omega
  refine jPutRF C 45 (by decide +kernel : decode cX10_init 42 = .ok (.putfield 28, 3)) rfl E63 (X61.ok (X51.ok (X42.ok (X33.ok (X23.ok (X14.ok (X4.ok t_v0))))))) kX10 3 (by decide) rfl rfl (by decide) rfl hin rfl wd_314 rfl rfl rfl (fun t ht => by cases ht; exact (X61.ok t_a48)) ?_
  refine jTopS (fun S66 e_S66 => ?_)
  have h := h S66 e_S66
  refine jB C [(.aload_n 0, 1, 0)] 46 [(0, .ref (b + v0))] [.ref (b + v0)] (by decide +kernel) rfl rfl ?_
  refine jNew C 49 (by decide +kernel : decode cX10_init 46 = .ok (.new 32, 3)) rfl E63 kX2 (by decide) dfX2 wd_100 wd_101 wd_4 (Nat.le_of_ble_eq_true rfl) (Nat.le_of_ble_eq_true rfl) (fun a67 G68 S69 e_a67 e_G68 e_S69 => ?_)
  have h := h a67 e_a67 G68 e_G68 S69 e_S69
  have X70 : ext G56 G68 := by rw [e_G68]; exact ext.new
  have N71 : G68.2.2 = G56.2.2 + 1 := by rw [e_G68]; rfl
  have X73 := X64.tr X70
  have N74 : G68.2.2 = G0.2.2 + 20 := by omega
  have E72 : s.heap.size + 20 ≤ b + G68.2.2 := by omega
  have t_a67 : ok G68 2 a67 := by rw [e_G68, e_a67]; exact ok_new
  refine jB C [(.dup, 1, 0)] 50 [(0, .ref (b + v0))] [.ref (b + a67), .ref (b + a67), .ref (b + v0)] (by decide +kernel) rfl rfl ?_
  refine jCallIN_V C 53 (rest := [.ref (b + a67), .ref (b + v0)]) (ok_X2_init t_a67 h) (by decide +kernel : decode cX10_init 50 = .ok (.invokespecial 34, 3)) rfl wn_102 wd_103 rfl wd_4 wd_104 ⟨rfl, rfl⟩ hd_X2_init ⟨Nat.le_of_ble_eq_true rfl, Nat.le_of_ble_eq_true rfl⟩ rfl rfl rfl (Nat.le_of_ble_eq_true rfl) ⟨Nat.le_of_ble_eq_true rfl, Nat.le_of_ble_eq_true rfl⟩ (fun G75 S76 h => ?_)
  obtain ⟨⟨X78, N79⟩, h⟩ := h
  have X80 := X78
  have N81 : G75.2.2 = G68.2.2 + 3 := N79
  have X83 := X73.tr X80
  have N84 : G75.2.2 = G0.2.2 + 23 := by omega
  have E82 : s.heap.size + 23 ≤ b + G75.2.2 := by omega
  refine jPutRF C 56 (by decide +kernel : decode cX10_init 53 = .ok (.putfield 35, 3)) rfl E82 (X80.ok (X70.ok (X61.ok (X51.ok (X42.ok (X33.ok (X23.ok (X14.ok (X4.ok t_v0))))))))) kX10 4 (by decide) rfl rfl (by decide) rfl hin rfl wd_315 rfl rfl rfl (fun t ht => by cases ht; exact (X80.ok t_a67)) ?_
  refine jTopS (fun S85 e_S85 => ?_)
  have h := h S85 e_S85
  refine jB C [(.aload_n 0, 1, 0)] 57 [(0, .ref (b + v0))] [.ref (b + v0)] (by decide +kernel) rfl rfl ?_
  refine jNew C 60 (by decide +kernel : decode cX10_init 57 = .ok (.new 39, 3)) rfl E82 kX1 (by decide) dfX1 wd_124 wd_125 wd_6 (Nat.le_of_ble_eq_true rfl) (Nat.le_of_ble_eq_true rfl) (fun a86 G87 S88 e_a86 e_G87 e_S88 => ?_)
  have h := h a86 e_a86 G87 e_G87 S88 e_S88
  have X89 : ext G75 G87 := by rw [e_G87]; exact ext.new
  have N90 : G87.2.2 = G75.2.2 + 1 := by rw [e_G87]; rfl
  have X92 := X83.tr X89
  have N93 : G87.2.2 = G0.2.2 + 24 := by omega
  have E91 : s.heap.size + 24 ≤ b + G87.2.2 := by omega
  have t_a86 : ok G87 1 a86 := by rw [e_G87, e_a86]; exact ok_new
  refine jB C [(.dup, 1, 0)] 61 [(0, .ref (b + v0))] [.ref (b + a86), .ref (b + a86), .ref (b + v0)] (by decide +kernel) rfl rfl ?_
  refine jCallIN_V C 64 (rest := [.ref (b + a86), .ref (b + v0)]) (ok_X1_init t_a86 h) (by decide +kernel : decode cX10_init 61 = .ok (.invokespecial 41, 3)) rfl wn_126 wd_127 rfl wd_6 wd_128 ⟨rfl, rfl⟩ hd_X1_init ⟨Nat.le_of_ble_eq_true rfl, Nat.le_of_ble_eq_true rfl⟩ rfl rfl rfl (Nat.le_of_ble_eq_true rfl) ⟨Nat.le_of_ble_eq_true rfl, Nat.le_of_ble_eq_true rfl⟩ (fun G94 S95 h => ?_)
  obtain ⟨⟨X97, N98⟩, h⟩ := h
  have X99 := X97
  have N100 : G94.2.2 = G87.2.2 + 5 := N98
  have X102 := X92.tr X99
  have N103 : G94.2.2 = G0.2.2 + 29 := by omega
  have E101 : s.heap.size + 29 ≤ b + G94.2.2 := by omega
  refine jPutRF C 67 (by decide +kernel : decode cX10_init 64 = .ok (.putfield 42, 3)) rfl E101 (X99.ok (X89.ok (X80.ok (X70.ok (X61.ok (X51.ok (X42.ok (X33.ok (X23.ok (X14.ok (X4.ok t_v0))))))))))) kX10 5 (by decide) rfl rfl (by decide) rfl hin rfl wd_316 rfl rfl rfl (fun t ht => by cases ht; exact (X99.ok t_a86)) ?_
  refine jTopS (fun S104 e_S104 => ?_)
  have h := h S104 e_S104
  refine jB C [(.aload_n 0, 1, 0)] 68 [(0, .ref (b + v0))] [.ref (b + v0)] (by decide +kernel) rfl rfl ?_
  refine jNew C 71 (by decide +kernel : decode cX10_init 68 = .ok (.new 46, 3)) rfl E101 kX0 (by decide) dfX0 wd_139 wd_140 wd_7 (Nat.le_of_ble_eq_true rfl) (Nat.le_of_ble_eq_true rfl) (fun a105 G106 S107 e_a105 e_G106 e_S107 => ?_)
  have h := h a105 e_a105 G106 e_G106 S107 e_S107
  have X108 : ext G94 G106 := by rw [e_G106]; exact ext.new
  have N109 : G106.2.2 = G94.2.2 + 1 := by rw [e_G106]; rfl
  have X111 := X102.tr X108
  have N112 : G106.2.2 = G0.2.2 + 30 := by omega
  have E110 : s.heap.size + 30 ≤ b + G106.2.2 := by omega
  have t_a105 : ok G106 0 a105 := by rw [e_G106, e_a105]; exact ok_new
  refine jB C [(.dup, 1, 0)] 72 [(0, .ref (b + v0))] [.ref (b + a105), .ref (b + a105), .ref (b + v0)] (by decide +kernel) rfl rfl ?_
  refine jCallIN_V C 75 (rest := [.ref (b + a105), .ref (b + v0)]) (ok_X0_init t_a105 h) (by decide +kernel : decode cX10_init 72 = .ok (.invokespecial 48, 3)) rfl wn_141 wd_142 rfl wd_7 wd_143 ⟨rfl, rfl⟩ hd_X0_init ⟨Nat.le_of_ble_eq_true rfl, Nat.le_of_ble_eq_true rfl⟩ rfl rfl rfl (Nat.le_of_ble_eq_true rfl) ⟨Nat.le_of_ble_eq_true rfl, Nat.le_of_ble_eq_true rfl⟩ (fun G113 S114 h => ?_)
  obtain ⟨⟨X116, N117⟩, h⟩ := h
  have X118 := X116
  have N119 : G113.2.2 = G106.2.2 + 23 := N117
  have X121 := X111.tr X118
  have N122 : G113.2.2 = G0.2.2 + 53 := by omega
  have E120 : s.heap.size + 53 ≤ b + G113.2.2 := by omega
  refine jPutRF C 78 (by decide +kernel : decode cX10_init 75 = .ok (.putfield 49, 3)) rfl E120 (X118.ok (X108.ok (X99.ok (X89.ok (X80.ok (X70.ok (X61.ok (X51.ok (X42.ok (X33.ok (X23.ok (X14.ok (X4.ok t_v0))))))))))))) kX10 6 (by decide) rfl rfl (by decide) rfl hin rfl wd_317 rfl rfl rfl (fun t ht => by cases ht; exact (X118.ok t_a105)) ?_
  refine jTopS (fun S123 e_S123 => ?_)
  have h := h S123 e_S123
  refine jB C [(.aload_n 0, 1, 0)] 79 [(0, .ref (b + v0))] [.ref (b + v0)] (by decide +kernel) rfl rfl ?_
  refine jNew C 82 (by decide +kernel : decode cX10_init 79 = .ok (.new 53, 3)) rfl E120 kX4 (by decide) dfX4 wd_181 wd_182 wd_8 (Nat.le_of_ble_eq_true rfl) (Nat.le_of_ble_eq_true rfl) (fun a124 G125 S126 e_a124 e_G125 e_S126 => ?_)
  have h := h a124 e_a124 G125 e_G125 S126 e_S126
  have X127 : ext G113 G125 := by rw [e_G125]; exact ext.new
  have N128 : G125.2.2 = G113.2.2 + 1 := by rw [e_G125]; rfl
  have X130 := X121.tr X127
  have N131 : G125.2.2 = G0.2.2 + 54 := by omega
  have E129 : s.heap.size + 54 ≤ b + G125.2.2 := by omega
  have t_a124 : ok G125 3 a124 := by rw [e_G125, e_a124]; exact ok_new
  refine jB C [(.dup, 1, 0)] 83 [(0, .ref (b + v0))] [.ref (b + a124), .ref (b + a124), .ref (b + v0)] (by decide +kernel) rfl rfl ?_
  refine jCallIN_V C 86 (rest := [.ref (b + a124), .ref (b + v0)]) (ok_X4_init t_a124 h) (by decide +kernel : decode cX10_init 83 = .ok (.invokespecial 55, 3)) rfl wn_183 wd_184 rfl wd_8 wd_185 ⟨rfl, rfl⟩ hd_X4_init ⟨Nat.le_of_ble_eq_true rfl, Nat.le_of_ble_eq_true rfl⟩ rfl rfl rfl (Nat.le_of_ble_eq_true rfl) ⟨Nat.le_of_ble_eq_true rfl, Nat.le_of_ble_eq_true rfl⟩ (fun G132 S133 h => ?_)
  obtain ⟨⟨X135, N136⟩, h⟩ := h
  have X137 := X135
  have N138 : G132.2.2 = G125.2.2 + 20 := N136
  have X140 := X130.tr X137
  have N141 : G132.2.2 = G0.2.2 + 74 := by omega
  have E139 : s.heap.size + 74 ≤ b + G132.2.2 := by omega
  refine jPutRF C 89 (by decide +kernel : decode cX10_init 86 = .ok (.putfield 56, 3)) rfl E139 (X137.ok (X127.ok (X118.ok (X108.ok (X99.ok (X89.ok (X80.ok (X70.ok (X61.ok (X51.ok (X42.ok (X33.ok (X23.ok (X14.ok (X4.ok t_v0))))))))))))))) kX10 7 (by decide) rfl rfl (by decide) rfl hin rfl wd_318 rfl rfl rfl (fun t ht => by cases ht; exact (X137.ok t_a124)) ?_
  refine jTopS (fun S142 e_S142 => ?_)
  have h := h S142 e_S142
  refine jB C [(.aload_n 0, 1, 0)] 90 [(0, .ref (b + v0))] [.ref (b + v0)] (by decide +kernel) rfl rfl ?_
  refine jNew C 93 (by decide +kernel : decode cX10_init 90 = .ok (.new 60, 3)) rfl E139 kX6 (by decide) dfX6 wd_228 wd_229 wd_9 (Nat.le_of_ble_eq_true rfl) (Nat.le_of_ble_eq_true rfl) (fun a143 G144 S145 e_a143 e_G144 e_S145 => ?_)
  have h := h a143 e_a143 G144 e_G144 S145 e_S145
  have X146 : ext G132 G144 := by rw [e_G144]; exact ext.new
  have N147 : G144.2.2 = G132.2.2 + 1 := by rw [e_G144]; rfl
  have X149 := X140.tr X146
  have N150 : G144.2.2 = G0.2.2 + 75 := by omega
  have E148 : s.heap.size + 75 ≤ b + G144.2.2 := by omega
  have t_a143 : ok G144 5 a143 := by rw [e_G144, e_a143]; exact ok_new
  refine jB C [(.dup, 1, 0)] 94 [(0, .ref (b + v0))] [.ref (b + a143), .ref (b + a143), .ref (b + v0)] (by decide +kernel) rfl rfl ?_
  refine jCallIN_V C 97 (rest := [.ref (b + a143), .ref (b + v0)]) (ok_X6_init t_a143 h) (by decide +kernel : decode cX10_init 94 = .ok (.invokespecial 62, 3)) rfl wn_230 wd_231 rfl wd_9 wd_232 ⟨rfl, rfl⟩ hd_X6_init ⟨Nat.le_of_ble_eq_true rfl, Nat.le_of_ble_eq_true rfl⟩ rfl rfl rfl (Nat.le_of_ble_eq_true rfl) ⟨Nat.le_of_ble_eq_true rfl, Nat.le_of_ble_eq_true rfl⟩ (fun G151 S152 h => ?_)
  obtain ⟨⟨X154, N155⟩, h⟩ := h
  have X156 := X154
  have N157 : G151.2.2 = G144.2.2 + 10 := N155
  have X159 := X149.tr X156
  have N160 : G151.2.2 = G0.2.2 + 85 := by omega
  have E158 : s.heap.size + 85 ≤ b + G151.2.2 := by omega
  refine jPutRF C 100 (by decide +kernel : decode cX10_init 97 = .ok (.putfield 63, 3)) rfl E158 (X156.ok (X146.ok (X137.ok (X127.ok (X118.ok (X108.ok (X99.ok (X89.ok (X80.ok (X70.ok (X61.ok (X51.ok (X42.ok (X33.ok (X23.ok (X14.ok (X4.ok t_v0))))))))))))))))) kX10 8 (by decide) rfl rfl (by decide) rfl hin rfl wd_319 rfl rfl rfl (fun t ht => by cases ht; exact (X156.ok t_a143)) ?_
  refine jTopS (fun S161 e_S161 => ?_)
  have h := h S161 e_S161
  refine jB C [(.aload_n 0, 1, 0), (.bipush 7, 2, 7)] 103 [(0, .ref (b + v0))] [.int 7, .ref (b + v0)] (by decide +kernel) rfl rfl ?_
  refine jNewI C 105 7 (by decide +kernel : decode cX10_init 103 = .ok (.newarray .int, 2)) rfl E158 wa_I (by decide) (by decide) (by decide) (Nat.le_of_ble_eq_true rfl) (Nat.le_of_ble_eq_true rfl) (fun a162 G163 S164 e_a162 e_G163 e_S164 => ?_)
  have h := h a162 e_a162 G163 e_G163 S164 e_S164
  have X165 : ext G151 G163 := by rw [e_G163]; exact ext.new
  have N166 : G163.2.2 = G151.2.2 + 1 := by rw [e_G163]; rfl
  have X168 := X159.tr X165
  have N169 : G163.2.2 = G0.2.2 + 86 := by omega
  have E167 : s.heap.size + 86 ≤ b + G163.2.2 := by omega
  have t_a162 : ok G163 11 a162 := by rw [e_G163, e_a162]; exact ok_new
  refine jPutRF C 108 (by decide +kernel : decode cX10_init 105 = .ok (.putfield 67, 3)) rfl E167 (X165.ok (X156.ok (X146.ok (X137.ok (X127.ok (X118.ok (X108.ok (X99.ok (X89.ok (X80.ok (X70.ok (X61.ok (X51.ok (X42.ok (X33.ok (X23.ok (X14.ok (X4.ok t_v0)))))))))))))))))) kX10 9 (by decide) rfl rfl (by decide) rfl hin rfl wd_320 rfl rfl rfl (fun t ht => by cases ht; exact t_a162) ?_
  refine jTopS (fun S170 e_S170 => ?_)
  have h := h S170 e_S170
  refine jB C [(.aload_n 0, 1, 0), (.iconst (-1), 1, (-1))] 110 [(0, .ref (b + v0))] [.int (-1), .ref (b + v0)] (by decide +kernel) rfl rfl ?_
  refine jPutI C 113 (by decide +kernel : decode cX10_init 110 = .ok (.putfield 71, 3)) rfl E167 (X165.ok (X156.ok (X146.ok (X137.ok (X127.ok (X118.ok (X108.ok (X99.ok (X89.ok (X80.ok (X70.ok (X61.ok (X51.ok (X42.ok (X33.ok (X23.ok (X14.ok (X4.ok t_v0)))))))))))))))))) kX10 12 (by decide) rfl rfl (by decide) rfl wd_323 rfl rfl rfl ?_
  refine jTopS (fun S171 e_S171 => ?_)
  have h := h S171 e_S171
  exact jRetV C (by decide +kernel : decode cX10_init 113 = .ok (.return_, 1)) (Nat.le_of_ble_eq_true rfl) (Nat.le_of_ble_eq_true rfl) ⟨⟨X168, N169⟩, h⟩
theorem ok_X10_init {G : Gm} {v0 : Nat} {S : St} {Q : Gm → St → Prop}  (t_v0 : ok G 9 v0) (h : f_X10_init G v0 Q S) : MT yX10_init cX10_init 1 none rm_X10_init 86 5937 (fun b => [.ref (b + v0)]) G S (QV (fun G1 S1 => (ext G G1 ∧ G1.2.2 = G.2.2 + 86) ∧ Q G1 S1)) := MT.ofJ (by decide +kernel) (fun b => [(0, .ref (b + v0))]) (fun b => rfl) (fun b => Nat.le_of_ble_eq_true rfl) (fun l b D cy p e s m below meth c C hE hn => j_X10_init C hE hn hE ext.rf rfl t_v0 h)
theorem hd_X10_init : yX10_init.cls ≠ "java/lang/invoke/MethodHandle" ∧ yX10_init.cls ≠ "java/lang/invoke/VarHandle" ∧ (parseMethodDescriptor yX10_init.desc).map (fun d => d.parameters.length) = some 0 := by decide +kernel
abbrev rm_X8_empty : Room := { frames := 0, cells := 0, slots := 0, locals := 0 }
set_option maxHeartbeats 4000000 in
set_option maxRecDepth 100000 in
theorem j_X8_empty {p : Program} {l : Launch} {e : Env} {s : State} {m : MethodId} {args : Array Value} {below : List Frame} {meth : Method} {c : Code} {b : Nat} {D : va_G} {cy : Nat → ClassId} {G : Gm} {v0 : Nat} {S : St} {Q : St → Prop} (C : CX p s m args meth c b D cy cX8_empty RX8 1 none) (hE : s.heap.size + 0 ≤ b + G.2.2) (t_v0 : ok G 7 v0) (h : f_X8_empty G v0 Q S) : J p l e rm_X8_empty s m args below meth c b D cy 1 (zV b D cy below args s G Q) 0 0 G S 0 [(0, .ref (b + v0))] [] := by
  unfold f_X8_empty at h
  refine jB C [(.aload_n 0, 1, 0), (.iconst 0, 1, 0)] 2 [(0, .ref (b + v0))] [.int 0, .ref (b + v0)] (by decide +kernel) rfl rfl ?_
  refine jPutI C 5 (by decide +kernel : decode cX8_empty 2 = .ok (.putfield 31, 3)) rfl hE t_v0 kX8 5 (by decide) rfl rfl (by decide) rfl wd_255 rfl rfl rfl ?_
  refine jTopS (fun S1 e_S1 => ?_)
  have h := h S1 e_S1
  refine jB C [(.aload_n 0, 1, 0), (.iconst 0, 1, 0)] 7 [(0, .ref (b + v0))] [.int 0, .ref (b + v0)] (by decide +kernel) rfl rfl ?_
  refine jPutI C 10 (by decide +kernel : decode cX8_empty 7 = .ok (.putfield 35, 3)) rfl hE t_v0 kX8 6 (by decide) rfl rfl (by decide) rfl wd_258 rfl rfl rfl ?_
  refine jTopS (fun S2 e_S2 => ?_)
  have h := h S2 e_S2
  exact jRetV C (by decide +kernel : decode cX8_empty 10 = .ok (.return_, 1)) (Nat.le_refl _) (Nat.le_refl _) ⟨rfl, h⟩
theorem ok_X8_empty {G : Gm} {v0 : Nat} {S : St} {Q : St → Prop}  (t_v0 : ok G 7 v0) (h : f_X8_empty G v0 Q S) : MT yX8_empty cX8_empty 1 none rm_X8_empty 0 0 (fun b => [.ref (b + v0)]) G S (QV (fun G1 S1 => G1 = G ∧ Q S1)) := MT.ofJ (by decide +kernel) (fun b => [(0, .ref (b + v0))]) (fun b => rfl) (fun b => Nat.le_of_ble_eq_true rfl) (fun l b D cy p e s m below meth c C hE hn => j_X8_empty C hE t_v0 h)
theorem hd_X8_empty : yX8_empty.cls ≠ "java/lang/invoke/MethodHandle" ∧ yX8_empty.cls ≠ "java/lang/invoke/VarHandle" ∧ (parseMethodDescriptor yX8_empty.desc).map (fun d => d.parameters.length) = some 0 := by decide +kernel
abbrev rm_X6_sortOf : Room := { frames := 0, cells := 0, slots := 0, locals := 0 }
set_option maxHeartbeats 4000000 in
set_option maxRecDepth 100000 in
theorem j_X6_sortOf_14 {p : Program} {l : Launch} {e : Env} {s : State} {m : MethodId} {args : Array Value} {below : List Frame} {meth : Method} {c : Code} {b : Nat} {D : va_G} {cy : Nat → ClassId} {G : Gm} {v0 : Int32} {S : St} {Q : Int32 → St → Prop} (C : CX p s m args meth c b D cy cX6_sortOf RX6 1 (some .int)) (hE : s.heap.size + 0 ≤ b + G.2.2) (h : f_X6_sortOf_14 G v0 Q S) : J p l e rm_X6_sortOf s m args below meth c b D cy 1 (zI b D cy below args s G Q) 0 0 G S 14 [(0, .int v0)] [] := by
  unfold f_X6_sortOf_14 at h
  refine jB C [(.iload_n 0, 1, 0), (.bipush 48, 2, 48)] 17 [(0, .int v0)] [.int 48, .int v0] (by decide +kernel) rfl rfl ?_
  refine jIcmp_lt C 20 30 (by decide +kernel : decode cX6_sortOf 17 = .ok (.if_icmp .lt 13, 3)) rfl rfl (fun c1 => ?_) (fun c1 => ?_)
  · have h := it1 h c1
    refine jB C [(.iconst 0, 1, 0)] 31 [(0, .int v0)] [.int 0] (by decide +kernel) rfl rfl ?_
    exact jRetI C (by decide +kernel : decode cX6_sortOf 31 = .ok (.ireturn, 1)) (Nat.le_refl _) (Nat.le_refl _) ⟨rfl, h⟩
  · have h := it2 h c1
    refine jB C [(.iload_n 0, 1, 0), (.bipush 57, 2, 57)] 23 [(0, .int v0)] [.int 57, .int v0] (by decide +kernel) rfl rfl ?_
    refine jIcmp_gt C 26 30 (by decide +kernel : decode cX6_sortOf 23 = .ok (.if_icmp .gt 7, 3)) rfl rfl (fun c2 => ?_) (fun c2 => ?_)
    · have h := it1 h c2
      refine jB C [(.iconst 0, 1, 0)] 31 [(0, .int v0)] [.int 0] (by decide +kernel) rfl rfl ?_
      exact jRetI C (by decide +kernel : decode cX6_sortOf 31 = .ok (.ireturn, 1)) (Nat.le_refl _) (Nat.le_refl _) ⟨rfl, h⟩
    · have h := it2 h c2
      refine jB C [(.iconst 2, 1, 2)] 27 [(0, .int v0)] [.int 2] (by decide +kernel) rfl rfl ?_
      refine jGoto C 31 (by decide +kernel : decode cX6_sortOf 27 = .ok (.goto 4, 3)) rfl ?_
      exact jRetI C (by decide +kernel : decode cX6_sortOf 31 = .ok (.ireturn, 1)) (Nat.le_refl _) (Nat.le_refl _) ⟨rfl, h⟩
set_option maxHeartbeats 4000000 in
set_option maxRecDepth 100000 in
theorem j_X6_sortOf {p : Program} {l : Launch} {e : Env} {s : State} {m : MethodId} {args : Array Value} {below : List Frame} {meth : Method} {c : Code} {b : Nat} {D : va_G} {cy : Nat → ClassId} {G : Gm} {v0 : Int32} {S : St} {Q : Int32 → St → Prop} (C : CX p s m args meth c b D cy cX6_sortOf RX6 1 (some .int)) (hE : s.heap.size + 0 ≤ b + G.2.2) (h : f_X6_sortOf G v0 Q S) : J p l e rm_X6_sortOf s m args below meth c b D cy 1 (zI b D cy below args s G Q) 0 0 G S 0 [(0, .int v0)] [] := by
  unfold f_X6_sortOf at h
  refine jB C [(.iload_n 0, 1, 0), (.bipush 97, 2, 97)] 3 [(0, .int v0)] [.int 97, .int v0] (by decide +kernel) rfl rfl ?_
  refine jIcmp_lt C 6 14 (by decide +kernel : decode cX6_sortOf 3 = .ok (.if_icmp .lt 11, 3)) rfl rfl (fun c1 => ?_) (fun c1 => ?_)
  · have h := it1 h c1
    refine jSub [0] rfl ?_
    exact j_X6_sortOf_14 C hE h
  · have h := it2 h c1
    refine jB C [(.iload_n 0, 1, 0), (.bipush 122, 2, 122)] 9 [(0, .int v0)] [.int 122, .int v0] (by decide +kernel) rfl rfl ?_
    refine jIcmp_gt C 12 14 (by decide +kernel : decode cX6_sortOf 9 = .ok (.if_icmp .gt 5, 3)) rfl rfl (fun c2 => ?_) (fun c2 => ?_)
    · have h := it1 h c2
      refine jSub [0] rfl ?_
      exact j_X6_sortOf_14 C hE h
    · have h := it2 h c2
      refine jB C [(.iconst 1, 1, 1)] 13 [(0, .int v0)] [.int 1] (by decide +kernel) rfl rfl ?_
      exact jRetI C (by decide +kernel : decode cX6_sortOf 13 = .ok (.ireturn, 1)) (Nat.le_refl _) (Nat.le_refl _) ⟨rfl, h⟩
theorem ok_X6_sortOf {G : Gm} {v0 : Int32} {S : St} {Q : Int32 → St → Prop}  (h : f_X6_sortOf G v0 Q S) : MT yX6_sortOf cX6_sortOf 1 (some .int) rm_X6_sortOf 0 0 (fun b => [.int v0]) G S (QI (fun r G1 S1 => G1 = G ∧ Q r S1)) := MT.ofJ (by decide +kernel) (fun b => [(0, .int v0)]) (fun b => rfl) (fun b => Nat.le_of_ble_eq_true rfl) (fun l b D cy p e s m below meth c C hE hn => j_X6_sortOf C hE h)
theorem hd_X6_sortOf : yX6_sortOf.cls ≠ "java/lang/invoke/MethodHandle" ∧ yX6_sortOf.cls ≠ "java/lang/invoke/VarHandle" ∧ (parseMethodDescriptor yX6_sortOf.desc).map (fun d => d.parameters.length) = some 1 := by decide +kernel
abbrev rm_X6_startsToken : Room := { frames := 1, cells := 0, slots := 0, locals := 21 }
set_option maxHeartbeats 4000000 in
set_option maxRecDepth 100000 in
theorem j_X6_startsToken {p : Program} {l : Launch} {e : Env} {s : State} {m : MethodId} {args : Array Value} {below : List Frame} {meth : Method} {c : Code} {b : Nat} {D : va_G} {cy : Nat → ClassId} {G : Gm} {v0 : Nat} {v1 : Int32} {S : St} {Q : Int32 → St → Prop} (C : CX p s m args meth c b D cy cX6_startsToken RX6 3 (some .boolean)) (hE : s.heap.size + 0 ≤ b + G.2.2) (t_v0 : ok G 5 v0) (h : f_X6_startsToken G v0 v1 Q S) : J p l e rm_X6_startsToken s m args below meth c b D cy 3 (zI b D cy below args s G Q) 0 0 G S 0 [(0, .ref (b + v0)), (1, .int v1)] [] := by
  unfold f_X6_startsToken at h
  refine jB C [(.aload_n 0, 1, 0), (.iload_n 1, 1, 0)] 2 [(0, .ref (b + v0)), (1, .int v1)] [.int v1, .ref (b + v0)] (by decide +kernel) rfl rfl ?_
  refine jcV_I C 5 (rest := []) (ok_X6_byteAt t_v0 h) (by decide +kernel : decode cX6_startsToken 2 = .ok (.invokevirtual 40, 3)) rfl wd_569 wd_571 wp_31 wd_9 wd_572 ⟨rfl, rfl⟩ hd_X6_byteAt ⟨Nat.le_of_ble_eq_true rfl, Nat.le_of_ble_eq_true rfl⟩ t_v0 kX6 (by decide) rfl rfl rfl (Nat.le_of_ble_eq_true rfl) ⟨Nat.zero_le _, Nat.zero_le _⟩ (fun r2 S1 h => ?_)
  refine jcS_I C 8 (rest := []) (ok_X6_sortOf h) (by decide +kernel : decode cX6_startsToken 5 = .ok (.invokestatic 77, 3)) rfl wd_603 wd_604 wd_9 wd_605 ⟨rfl, rfl⟩ hd_X6_sortOf ⟨Nat.le_of_ble_eq_true rfl, Nat.le_of_ble_eq_true rfl⟩ rfl rfl (Nat.le_of_ble_eq_true rfl) ⟨Nat.zero_le _, Nat.zero_le _⟩ (fun r4 S3 h => ?_)
  refine jB C [(.istore_n 2, 1, 0), (.iload_n 2, 1, 0)] 10 [(2, .int r4), (0, .ref (b + v0)), (1, .int v1)] [.int r4] (by decide +kernel) rfl rfl ?_
  refine jIf_ne C 13 31 (by decide +kernel : decode cX6_startsToken 10 = .ok (.ifCond .ne 21, 3)) rfl rfl (fun c5 => ?_) (fun c5 => ?_)
  · have h := it2 h c5
    refine jB C [(.aload_n 0, 1, 0), (.iload_n 1, 1, 0), (.iconst 1, 1, 1), (.isub, 1, 0)] 35 [(2, .int r4), (0, .ref (b + v0)), (1, .int v1)] [.int (v1 - 1), .ref (b + v0)] (by decide +kernel) rfl rfl ?_
    refine jcV_I C 38 (rest := []) (ok_X6_byteAt t_v0 h) (by decide +kernel : decode cX6_startsToken 35 = .ok (.invokevirtual 40, 3)) rfl wd_569 wd_571 wp_31 wd_9 wd_572 ⟨rfl, rfl⟩ hd_X6_byteAt ⟨Nat.le_of_ble_eq_true rfl, Nat.le_of_ble_eq_true rfl⟩ t_v0 kX6 (by decide) rfl rfl rfl (Nat.le_of_ble_eq_true rfl) ⟨Nat.zero_le _, Nat.zero_le _⟩ (fun r7 S6 h => ?_)
    refine jcS_I C 41 (rest := []) (ok_X6_sortOf h) (by decide +kernel : decode cX6_startsToken 38 = .ok (.invokestatic 77, 3)) rfl wd_603 wd_604 wd_9 wd_605 ⟨rfl, rfl⟩ hd_X6_sortOf ⟨Nat.le_of_ble_eq_true rfl, Nat.le_of_ble_eq_true rfl⟩ rfl rfl (Nat.le_of_ble_eq_true rfl) ⟨Nat.zero_le _, Nat.zero_le _⟩ (fun r9 S8 h => ?_)
    refine jB C [(.iload_n 2, 1, 0)] 42 [(2, .int r4), (0, .ref (b + v0)), (1, .int v1)] [.int r4, .int r9] (by decide +kernel) rfl rfl ?_
    refine jIcmp_eq C 45 49 (by decide +kernel : decode cX6_startsToken 42 = .ok (.if_icmp .eq 7, 3)) rfl rfl (fun c10 => ?_) (fun c10 => ?_)
    · have h := it1 h c10
      refine jB C [(.iconst 0, 1, 0)] 50 [(2, .int r4), (0, .ref (b + v0)), (1, .int v1)] [.int 0] (by decide +kernel) rfl rfl ?_
      exact jRetZ C (by decide +kernel : decode cX6_startsToken 50 = .ok (.ireturn, 1)) (Nat.le_refl _) (Nat.le_refl _) (by decide) ⟨rfl, h⟩
    · have h := it2 h c10
      refine jB C [(.iconst 1, 1, 1)] 46 [(2, .int r4), (0, .ref (b + v0)), (1, .int v1)] [.int 1] (by decide +kernel) rfl rfl ?_
      refine jGoto C 50 (by decide +kernel : decode cX6_startsToken 46 = .ok (.goto 4, 3)) rfl ?_
      exact jRetZ C (by decide +kernel : decode cX6_startsToken 50 = .ok (.ireturn, 1)) (Nat.le_refl _) (Nat.le_refl _) (by decide) ⟨rfl, h⟩
  · have h := it1 h c5
    refine jB C [(.aload_n 0, 1, 0), (.iload_n 1, 1, 0)] 15 [(2, .int r4), (0, .ref (b + v0)), (1, .int v1)] [.int v1, .ref (b + v0)] (by decide +kernel) rfl rfl ?_
    refine jcV_I C 18 (rest := []) (ok_X6_byteAt t_v0 h) (by decide +kernel : decode cX6_startsToken 15 = .ok (.invokevirtual 40, 3)) rfl wd_569 wd_571 wp_31 wd_9 wd_572 ⟨rfl, rfl⟩ hd_X6_byteAt ⟨Nat.le_of_ble_eq_true rfl, Nat.le_of_ble_eq_true rfl⟩ t_v0 kX6 (by decide) rfl rfl rfl (Nat.le_of_ble_eq_true rfl) ⟨Nat.zero_le _, Nat.zero_le _⟩ (fun r12 S11 h => ?_)
    refine jB C [(.bipush 32, 2, 32)] 20 [(2, .int r4), (0, .ref (b + v0)), (1, .int v1)] [.int 32, .int r12] (by decide +kernel) rfl rfl ?_
    refine jIcmp_eq C 23 27 (by decide +kernel : decode cX6_startsToken 20 = .ok (.if_icmp .eq 7, 3)) rfl rfl (fun c13 => ?_) (fun c13 => ?_)
    · have h := it1 h c13
      refine jB C [(.iconst 0, 1, 0)] 28 [(2, .int r4), (0, .ref (b + v0)), (1, .int v1)] [.int 0] (by decide +kernel) rfl rfl ?_
      refine jGoto C 50 (by decide +kernel : decode cX6_startsToken 28 = .ok (.goto 22, 3)) rfl ?_
      exact jRetZ C (by decide +kernel : decode cX6_startsToken 50 = .ok (.ireturn, 1)) (Nat.le_refl _) (Nat.le_refl _) (by decide) ⟨rfl, h⟩
    · have h := it2 h c13
      refine jB C [(.iconst 1, 1, 1)] 24 [(2, .int r4), (0, .ref (b + v0)), (1, .int v1)] [.int 1] (by decide +kernel) rfl rfl ?_
      refine jGoto C 50 (by decide +kernel : decode cX6_startsToken 24 = .ok (.goto 26, 3)) rfl ?_
      exact jRetZ C (by decide +kernel : decode cX6_startsToken 50 = .ok (.ireturn, 1)) (Nat.le_refl _) (Nat.le_refl _) (by decide) ⟨rfl, h⟩
theorem ok_X6_startsToken {G : Gm} {v0 : Nat} {v1 : Int32} {S : St} {Q : Int32 → St → Prop}  (t_v0 : ok G 5 v0) (h : f_X6_startsToken G v0 v1 Q S) : MT yX6_startsToken cX6_startsToken 3 (some .boolean) rm_X6_startsToken 0 0 (fun b => [.ref (b + v0), .int v1]) G S (QI (fun r G1 S1 => G1 = G ∧ Q r S1)) := MT.ofJ (by decide +kernel) (fun b => [(0, .ref (b + v0)), (1, .int v1)]) (fun b => rfl) (fun b => Nat.le_of_ble_eq_true rfl) (fun l b D cy p e s m below meth c C hE hn => j_X6_startsToken C hE t_v0 h)
theorem hd_X6_startsToken : yX6_startsToken.cls ≠ "java/lang/invoke/MethodHandle" ∧ yX6_startsToken.cls ≠ "java/lang/invoke/VarHandle" ∧ (parseMethodDescriptor yX6_startsToken.desc).map (fun d => d.parameters.length) = some 1 := by decide +kernel
abbrev rm_X6_pastToken : Room := { frames := 2, cells := 0, slots := 0, locals := 43 }
set_option maxHeartbeats 4000000 in
set_option maxRecDepth 100000 in
theorem j_X6_pastToken_4_n {p : Program} {l : Launch} {e : Env} {s : State} {m : MethodId} {args : Array Value} {below : List Frame} {meth : Method} {c : Code} {b : Nat} {D : va_G} {cy : Nat → ClassId} {G : Gm} {v0 : Nat} {Q : Int32 → St → Prop} (C : CX p s m args meth c b D cy cX6_pastToken RX6 3 (some .int)) (hE : s.heap.size + 0 ≤ b + G.2.2) (t_v0 : ok G 5 v0) : ∀ k (v2 : Int32) S, f_X6_pastToken_4_n G v0 Q k v2 S → J p l e rm_X6_pastToken s m args below meth c b D cy 3 (zI b D cy below args s G Q) 0 0 G S 4 [(0, .ref (b + v0)), (2, .int v2)] [] := by
  intro k
  induction k with
  | zero => intro v2 S h; exact h.elim
  | succ k ih =>
    intro v2 S h
    unfold f_X6_pastToken_4_n at h
    refine jB C [(.iload_n 2, 1, 0), (.aload_n 0, 1, 0)] 6 [(0, .ref (b + v0)), (2, .int v2)] [.ref (b + v0), .int v2] (by decide +kernel) rfl rfl ?_
    refine jGetI C 9 (by decide +kernel : decode cX6_pastToken 6 = .ok (.getfield 37, 3)) rfl t_v0 kX6 1 (by decide) rfl rfl (by decide) wd_275 ?_
    refine jIcmp_ge C 12 36 (by decide +kernel : decode cX6_pastToken 9 = .ok (.if_icmp .ge 27, 3)) rfl rfl (fun c1 => ?_) (fun c1 => ?_)
    · have h := it1 h c1
      refine jB C [(.iload_n 2, 1, 0)] 37 [(0, .ref (b + v0)), (2, .int v2)] [.int v2] (by decide +kernel) rfl rfl ?_
      exact jRetI C (by decide +kernel : decode cX6_pastToken 37 = .ok (.ireturn, 1)) (Nat.le_refl _) (Nat.le_refl _) ⟨rfl, h⟩
    · have h := it2 h c1
      refine jB C [(.aload_n 0, 1, 0), (.iload_n 2, 1, 0)] 14 [(0, .ref (b + v0)), (2, .int v2)] [.int v2, .ref (b + v0)] (by decide +kernel) rfl rfl ?_
      refine jcV_I C 17 (rest := []) (ok_X6_startsToken t_v0 h) (by decide +kernel : decode cX6_pastToken 14 = .ok (.invokevirtual 73, 3)) rfl wd_599 wd_601 wp_36 wd_9 wd_602 ⟨rfl, rfl⟩ hd_X6_startsToken ⟨Nat.le_of_ble_eq_true rfl, Nat.le_of_ble_eq_true rfl⟩ t_v0 kX6 (by decide) rfl rfl rfl (Nat.le_of_ble_eq_true rfl) ⟨Nat.zero_le _, Nat.zero_le _⟩ (fun r3 S2 h => ?_)
      refine jIf_ne C 20 36 (by decide +kernel : decode cX6_pastToken 17 = .ok (.ifCond .ne 19, 3)) rfl rfl (fun c4 => ?_) (fun c4 => ?_)
      · have h := it2 h c4
        refine jB C [(.iload_n 2, 1, 0)] 37 [(0, .ref (b + v0)), (2, .int v2)] [.int v2] (by decide +kernel) rfl rfl ?_
        exact jRetI C (by decide +kernel : decode cX6_pastToken 37 = .ok (.ireturn, 1)) (Nat.le_refl _) (Nat.le_refl _) ⟨rfl, h⟩
      · have h := it1 h c4
        refine jB C [(.aload_n 0, 1, 0), (.iload_n 2, 1, 0)] 22 [(0, .ref (b + v0)), (2, .int v2)] [.int v2, .ref (b + v0)] (by decide +kernel) rfl rfl ?_
        refine jcV_I C 25 (rest := []) (ok_X6_byteAt t_v0 h) (by decide +kernel : decode cX6_pastToken 22 = .ok (.invokevirtual 40, 3)) rfl wd_569 wd_571 wp_31 wd_9 wd_572 ⟨rfl, rfl⟩ hd_X6_byteAt ⟨Nat.le_of_ble_eq_true rfl, Nat.le_of_ble_eq_true rfl⟩ t_v0 kX6 (by decide) rfl rfl rfl (Nat.le_of_ble_eq_true rfl) ⟨Nat.zero_le _, Nat.zero_le _⟩ (fun r6 S5 h => ?_)
        refine jB C [(.bipush 32, 2, 32)] 27 [(0, .ref (b + v0)), (2, .int v2)] [.int 32, .int r6] (by decide +kernel) rfl rfl ?_
        refine jIcmp_eq C 30 36 (by decide +kernel : decode cX6_pastToken 27 = .ok (.if_icmp .eq 9, 3)) rfl rfl (fun c7 => ?_) (fun c7 => ?_)
        · have h := it1 h c7
          refine jB C [(.iload_n 2, 1, 0)] 37 [(0, .ref (b + v0)), (2, .int v2)] [.int v2] (by decide +kernel) rfl rfl ?_
          exact jRetI C (by decide +kernel : decode cX6_pastToken 37 = .ok (.ireturn, 1)) (Nat.le_refl _) (Nat.le_refl _) ⟨rfl, h⟩
        · have h := it2 h c7
          refine jB C [(.iinc 2 1, 3, 1)] 33 [(2, .int (v2 + 1)), (0, .ref (b + v0))] [] (by decide +kernel) rfl rfl ?_
          refine jGoto C 4 (by decide +kernel : decode cX6_pastToken 33 = .ok (.goto (-29), 3)) rfl ?_
          refine jSub [1, 0] rfl ?_
          exact ih (v2 + 1) S5 h
theorem j_X6_pastToken_4 {p : Program} {l : Launch} {e : Env} {s : State} {m : MethodId} {args : Array Value} {below : List Frame} {meth : Method} {c : Code} {b : Nat} {D : va_G} {cy : Nat → ClassId} {G : Gm} {v0 : Nat} {v2 : Int32} {S : St} {Q : Int32 → St → Prop} (C : CX p s m args meth c b D cy cX6_pastToken RX6 3 (some .int)) (hE : s.heap.size + 0 ≤ b + G.2.2) (t_v0 : ok G 5 v0) (h : f_X6_pastToken_4 G v0 Q v2 S) : J p l e rm_X6_pastToken s m args below meth c b D cy 3 (zI b D cy below args s G Q) 0 0 G S 4 [(0, .ref (b + v0)), (2, .int v2)] [] := by
  obtain ⟨k, h⟩ := h
  exact j_X6_pastToken_4_n C hE t_v0 k v2 S h
set_option maxHeartbeats 4000000 in
set_option maxRecDepth 100000 in
theorem j_X6_pastToken {p : Program} {l : Launch} {e : Env} {s : State} {m : MethodId} {args : Array Value} {below : List Frame} {meth : Method} {c : Code} {b : Nat} {D : va_G} {cy : Nat → ClassId} {G : Gm} {v0 : Nat} {v1 : Int32} {S : St} {Q : Int32 → St → Prop} (C : CX p s m args meth c b D cy cX6_pastToken RX6 3 (some .int)) (hE : s.heap.size + 0 ≤ b + G.2.2) (t_v0 : ok G 5 v0) (h : f_X6_pastToken G v0 v1 Q S) : J p l e rm_X6_pastToken s m args below meth c b D cy 3 (zI b D cy below args s G Q) 0 0 G S 0 [(0, .ref (b + v0)), (1, .int v1)] [] := by
  unfold f_X6_pastToken at h
  refine jB C [(.iload_n 1, 1, 0), (.iconst 1, 1, 1), (.iadd, 1, 0)] 3 [(0, .ref (b + v0)), (1, .int v1)] [.int (v1 + 1)] (by decide +kernel) rfl rfl ?_
  refine jTopI (fun x1 e_x1 => ?_)
  have h := h x1 e_x1
  refine jB C [(.istore_n 2, 1, 0)] 4 [(2, .int x1), (0, .ref (b + v0)), (1, .int v1)] [] (by decide +kernel) rfl rfl ?_
  refine jSub [1, 0] rfl ?_
  exact j_X6_pastToken_4 C hE t_v0 h
theorem ok_X6_pastToken {G : Gm} {v0 : Nat} {v1 : Int32} {S : St} {Q : Int32 → St → Prop}  (t_v0 : ok G 5 v0) (h : f_X6_pastToken G v0 v1 Q S) : MT yX6_pastToken cX6_pastToken 3 (some .int) rm_X6_pastToken 0 0 (fun b => [.ref (b + v0), .int v1]) G S (QI (fun r G1 S1 => G1 = G ∧ Q r S1)) := MT.ofJ (by decide +kernel) (fun b => [(0, .ref (b + v0)), (1, .int v1)]) (fun b => rfl) (fun b => Nat.le_of_ble_eq_true rfl) (fun l b D cy p e s m below meth c C hE hn => j_X6_pastToken C hE t_v0 h)
theorem hd_X6_pastToken : yX6_pastToken.cls ≠ "java/lang/invoke/MethodHandle" ∧ yX6_pastToken.cls ≠ "java/lang/invoke/VarHandle" ∧ (parseMethodDescriptor yX6_pastToken.desc).map (fun d => d.parameters.length) = some 1 := by decide +kernel
abbrev rm_X6_isSame : Room := { frames := 4, cells := 0, slots := 0, locals := 200 }
set_option maxHeartbeats 4000000 in
set_option maxRecDepth 100000 in
theorem j_X6_isSame_3_n {p : Program} {l : Launch} {e : Env} {s : State} {m : MethodId} {args : Array Value} {below : List Frame} {meth : Method} {c : Code} {b : Nat} {D : va_G} {cy : Nat → ClassId} {G : Gm} {v0 : Nat} {v1 : Int32} {v2 : Int32} {v3 : Int32} {Q : Int32 → St → Prop} (C : CX p s m args meth c b D cy cX6_isSame RX6 5 (some .boolean)) (hE : s.heap.size + 0 ≤ b + G.2.2) (t_v0 : ok G 5 v0) : ∀ k (v4 : Int32) S, f_X6_isSame_3_n G v0 v1 v2 v3 Q k v4 S → J p l e rm_X6_isSame s m args below meth c b D cy 5 (zI b D cy below args s G Q) 0 0 G S 3 [(0, .ref (b + v0)), (1, .int v1), (2, .int v2), (3, .int v3), (4, .int v4)] [] := by
  intro k
  induction k with
  | zero => intro v4 S h; exact h.elim
  | succ k ih =>
    intro v4 S h
    unfold f_X6_isSame_3_n at h
    refine jB C [(.iload 4, 2, 0), (.iload_n 3, 1, 0)] 6 [(0, .ref (b + v0)), (1, .int v1), (2, .int v2), (3, .int v3), (4, .int v4)] [.int v3, .int v4] (by decide +kernel) rfl rfl ?_
    refine jIcmp_ge C 9 49 (by decide +kernel : decode cX6_isSame 6 = .ok (.if_icmp .ge 43, 3)) rfl rfl (fun c1 => ?_) (fun c1 => ?_)
    · have h := it1 h c1
      refine jB C [(.iconst 1, 1, 1)] 50 [(0, .ref (b + v0)), (1, .int v1), (2, .int v2), (3, .int v3), (4, .int v4)] [.int 1] (by decide +kernel) rfl rfl ?_
      exact jRetZ C (by decide +kernel : decode cX6_isSame 50 = .ok (.ireturn, 1)) (Nat.le_refl _) (Nat.le_refl _) (by decide) ⟨rfl, h⟩
    · have h := it2 h c1
      refine jB C [(.iload_n 1, 1, 0), (.iload 4, 2, 0), (.iadd, 1, 0)] 13 [(0, .ref (b + v0)), (1, .int v1), (2, .int v2), (3, .int v3), (4, .int v4)] [.int (v1 + v4)] (by decide +kernel) rfl rfl ?_
      refine jLdcS C 15 (by decide +kernel : decode cX6_isSame 13 = .ok (.ldc 90, 2)) rfl rfl ?_
      refine jSLen C 18 (by decide +kernel : decode cX6_isSame 15 = .ok (.invokevirtual 92, 3)) rfl wd_615 (Nat.le_of_ble_eq_true rfl) (Nat.le_of_ble_eq_true rfl) (Nat.le_of_ble_eq_true rfl) ?_
      refine jIcmp_ge C 21 49 (by decide +kernel : decode cX6_isSame 18 = .ok (.if_icmp .ge 31, 3)) rfl rfl (fun c2 => ?_) (fun c2 => ?_)
      · have h := it1 h c2
        refine jB C [(.iconst 1, 1, 1)] 50 [(0, .ref (b + v0)), (1, .int v1), (2, .int v2), (3, .int v3), (4, .int v4)] [.int 1] (by decide +kernel) rfl rfl ?_
        exact jRetZ C (by decide +kernel : decode cX6_isSame 50 = .ok (.ireturn, 1)) (Nat.le_refl _) (Nat.le_refl _) (by decide) ⟨rfl, h⟩
      · have h := it2 h c2
        refine jLdcS C 23 (by decide +kernel : decode cX6_isSame 21 = .ok (.ldc 90, 2)) rfl rfl ?_
        refine jB C [(.iload_n 1, 1, 0), (.iload 4, 2, 0), (.iadd, 1, 0)] 27 [(0, .ref (b + v0)), (1, .int v1), (2, .int v2), (3, .int v3), (4, .int v4)] [.int (v1 + v4), .ref (cy 101)] (by decide +kernel) rfl rfl ?_
        obtain ⟨y3, h⟩ := h
        refine jSChar C 30 (by decide +kernel : decode cX6_isSame 27 = .ok (.invokevirtual 96, 3)) rfl y3 wd_625 (Nat.le_of_ble_eq_true rfl) (Nat.le_of_ble_eq_true rfl) (Nat.le_of_ble_eq_true rfl) ?_
        refine jB C [(.aload_n 0, 1, 0), (.iload_n 2, 1, 0), (.iload 4, 2, 0), (.iadd, 1, 0)] 35 [(0, .ref (b + v0)), (1, .int v1), (2, .int v2), (3, .int v3), (4, .int v4)] [.int (v2 + v4), .ref (b + v0), .int (chS (v1 + v4))] (by decide +kernel) rfl rfl ?_
        refine jcV_I C 38 (rest := [.int (chS (v1 + v4))]) (ok_X6_byteAt t_v0 h) (by decide +kernel : decode cX6_isSame 35 = .ok (.invokevirtual 40, 3)) rfl wd_569 wd_571 wp_31 wd_9 wd_572 ⟨rfl, rfl⟩ hd_X6_byteAt ⟨Nat.le_of_ble_eq_true rfl, Nat.le_of_ble_eq_true rfl⟩ t_v0 kX6 (by decide) rfl rfl rfl (Nat.le_of_ble_eq_true rfl) ⟨Nat.zero_le _, Nat.zero_le _⟩ (fun r5 S4 h => ?_)
        refine jIcmp_eq C 41 43 (by decide +kernel : decode cX6_isSame 38 = .ok (.if_icmp .eq 5, 3)) rfl rfl (fun c6 => ?_) (fun c6 => ?_)
        · have h := it1 h c6
          refine jB C [(.iinc 4 1, 3, 1)] 46 [(4, .int (v4 + 1)), (0, .ref (b + v0)), (1, .int v1), (2, .int v2), (3, .int v3)] [] (by decide +kernel) rfl rfl ?_
          refine jGoto C 3 (by decide +kernel : decode cX6_isSame 46 = .ok (.goto (-43), 3)) rfl ?_
          refine jSub [1, 2, 3, 4, 0] rfl ?_
          exact ih (v4 + 1) S4 h
        · have h := it2 h c6
          refine jB C [(.iconst 0, 1, 0)] 42 [(0, .ref (b + v0)), (1, .int v1), (2, .int v2), (3, .int v3), (4, .int v4)] [.int 0] (by decide +kernel) rfl rfl ?_
          exact jRetZ C (by decide +kernel : decode cX6_isSame 42 = .ok (.ireturn, 1)) (Nat.le_refl _) (Nat.le_refl _) (by decide) ⟨rfl, h⟩
theorem j_X6_isSame_3 {p : Program} {l : Launch} {e : Env} {s : State} {m : MethodId} {args : Array Value} {below : List Frame} {meth : Method} {c : Code} {b : Nat} {D : va_G} {cy : Nat → ClassId} {G : Gm} {v0 : Nat} {v1 : Int32} {v2 : Int32} {v3 : Int32} {v4 : Int32} {S : St} {Q : Int32 → St → Prop} (C : CX p s m args meth c b D cy cX6_isSame RX6 5 (some .boolean)) (hE : s.heap.size + 0 ≤ b + G.2.2) (t_v0 : ok G 5 v0) (h : f_X6_isSame_3 G v0 v1 v2 v3 Q v4 S) : J p l e rm_X6_isSame s m args below meth c b D cy 5 (zI b D cy below args s G Q) 0 0 G S 3 [(0, .ref (b + v0)), (1, .int v1), (2, .int v2), (3, .int v3), (4, .int v4)] [] := by
  obtain ⟨k, h⟩ := h
  exact j_X6_isSame_3_n C hE t_v0 k v4 S h
set_option maxHeartbeats 4000000 in
set_option maxRecDepth 100000 in
theorem j_X6_isSame {p : Program} {l : Launch} {e : Env} {s : State} {m : MethodId} {args : Array Value} {below : List Frame} {meth : Method} {c : Code} {b : Nat} {D : va_G} {cy : Nat → ClassId} {G : Gm} {v0 : Nat} {v1 : Int32} {v2 : Int32} {v3 : Int32} {S : St} {Q : Int32 → St → Prop} (C : CX p s m args meth c b D cy cX6_isSame RX6 5 (some .boolean)) (hE : s.heap.size + 0 ≤ b + G.2.2) (t_v0 : ok G 5 v0) (h : f_X6_isSame G v0 v1 v2 v3 Q S) : J p l e rm_X6_isSame s m args below meth c b D cy 5 (zI b D cy below args s G Q) 0 0 G S 0 [(0, .ref (b + v0)), (1, .int v1), (2, .int v2), (3, .int v3)] [] := by
  unfold f_X6_isSame at h
  refine jB C [(.iconst 0, 1, 0), (.istore 4, 2, 0)] 3 [(4, .int 0), (0, .ref (b + v0)), (1, .int v1), (2, .int v2), (3, .int v3)] [] (by decide +kernel) rfl rfl ?_
  refine jSub [1, 2, 3, 4, 0] rfl ?_
  exact j_X6_isSame_3 C hE t_v0 h
theorem ok_X6_isSame {G : Gm} {v0 : Nat} {v1 : Int32} {v2 : Int32} {v3 : Int32} {S : St} {Q : Int32 → St → Prop}  (t_v0 : ok G 5 v0) (h : f_X6_isSame G v0 v1 v2 v3 Q S) : MT yX6_isSame cX6_isSame 5 (some .boolean) rm_X6_isSame 0 0 (fun b => [.ref (b + v0), .int v1, .int v2, .int v3]) G S (QI (fun r G1 S1 => G1 = G ∧ Q r S1)) := MT.ofJ (by decide +kernel) (fun b => [(0, .ref (b + v0)), (1, .int v1), (2, .int v2), (3, .int v3)]) (fun b => rfl) (fun b => Nat.le_of_ble_eq_true rfl) (fun l b D cy p e s m below meth c C hE hn => j_X6_isSame C hE t_v0 h)
theorem hd_X6_isSame : yX6_isSame.cls ≠ "java/lang/invoke/MethodHandle" ∧ yX6_isSame.cls ≠ "java/lang/invoke/VarHandle" ∧ (parseMethodDescriptor yX6_isSame.desc).map (fun d => d.parameters.length) = some 3 := by decide +kernel
abbrev rm_X6_nameOf : Room := { frames := 5, cells := 0, slots := 0, locals := 224 }
set_option maxHeartbeats 4000000 in
set_option maxRecDepth 100000 in
theorem j_X6_nameOf_58 {p : Program} {l : Launch} {e : Env} {s : State} {m : MethodId} {args : Array Value} {below : List Frame} {meth : Method} {c : Code} {b : Nat} {D : va_G} {cy : Nat → ClassId} {G : Gm} {k8 : Int32 → Int32 → Int32 → St → Prop} {v0 : Nat} {v1 : Int32} {v2 : Int32} {v3 : Int32} {v5 : Int32} {S : St} {Q : Int32 → St → Prop} (C : CX p s m args meth c b D cy cX6_nameOf RX6 6 (some .int)) (hE : s.heap.size + 0 ≤ b + G.2.2) (t_v0 : ok G 5 v0) (hk8 : ∀ v3' v4' v5' S, k8 v3' v4' v5' S → J p l e rm_X6_nameOf s m args below meth c b D cy 6 (zI b D cy below args s G Q) 0 0 G S 8 [(0, .ref (b + v0)), (1, .int v1), (2, .int v2), (3, .int (v3')), (4, .int (v4')), (5, .int (v5'))] []) (h : f_X6_nameOf_58 G k8 v0 v1 v2 v3 v5 Q S) : J p l e rm_X6_nameOf s m args below meth c b D cy 6 (zI b D cy below args s G Q) 0 0 G S 58 [(0, .ref (b + v0)), (1, .int v1), (2, .int v2), (3, .int v3), (5, .int v5)] [] := by
  unfold f_X6_nameOf_58 at h
  refine jB C [(.iinc 3 1, 3, 1), (.iload 5, 2, 0), (.iconst 1, 1, 1), (.iadd, 1, 0)] 65 [(3, .int (v3 + 1)), (0, .ref (b + v0)), (1, .int v1), (2, .int v2), (5, .int v5)] [.int (v5 + 1)] (by decide +kernel) rfl rfl ?_
  refine jTopI (fun x1 e_x1 => ?_)
  have h := h x1 e_x1
  refine jB C [(.istore 4, 2, 0), (.iinc 5 1, 3, 1)] 70 [(5, .int (v5 + 1)), (4, .int x1), (3, .int (v3 + 1)), (0, .ref (b + v0)), (1, .int v1), (2, .int v2)] [] (by decide +kernel) rfl rfl ?_
  refine jGoto C 8 (by decide +kernel : decode cX6_nameOf 70 = .ok (.goto (-62), 3)) rfl ?_
  refine jSub [3, 4, 5, 2, 1, 0] rfl ?_
  exact hk8 (v3 + 1) x1 (v5 + 1) S h
set_option maxHeartbeats 4000000 in
set_option maxRecDepth 100000 in
theorem j_X6_nameOf_8_n {p : Program} {l : Launch} {e : Env} {s : State} {m : MethodId} {args : Array Value} {below : List Frame} {meth : Method} {c : Code} {b : Nat} {D : va_G} {cy : Nat → ClassId} {G : Gm} {v0 : Nat} {v1 : Int32} {v2 : Int32} {Q : Int32 → St → Prop} (C : CX p s m args meth c b D cy cX6_nameOf RX6 6 (some .int)) (hE : s.heap.size + 0 ≤ b + G.2.2) (t_v0 : ok G 5 v0) : ∀ k (v3 : Int32) (v4 : Int32) (v5 : Int32) S, f_X6_nameOf_8_n G v0 v1 v2 Q k v3 v4 v5 S → J p l e rm_X6_nameOf s m args below meth c b D cy 6 (zI b D cy below args s G Q) 0 0 G S 8 [(0, .ref (b + v0)), (1, .int v1), (2, .int v2), (3, .int v3), (4, .int v4), (5, .int v5)] [] := by
  intro k
  induction k with
  | zero => intro v3 v4 v5 S h; exact h.elim
  | succ k ih =>
    intro v3 v4 v5 S h
    unfold f_X6_nameOf_8_n at h
    refine jB C [(.iload 5, 2, 0)] 10 [(0, .ref (b + v0)), (1, .int v1), (2, .int v2), (3, .int v3), (4, .int v4), (5, .int v5)] [.int v5] (by decide +kernel) rfl rfl ?_
    refine jLdcS C 12 (by decide +kernel : decode cX6_nameOf 10 = .ok (.ldc 90, 2)) rfl rfl ?_
    refine jSLen C 15 (by decide +kernel : decode cX6_nameOf 12 = .ok (.invokevirtual 92, 3)) rfl wd_615 (Nat.le_of_ble_eq_true rfl) (Nat.le_of_ble_eq_true rfl) (Nat.le_of_ble_eq_true rfl) ?_
    refine jIcmp_ge C 18 73 (by decide +kernel : decode cX6_nameOf 15 = .ok (.if_icmp .ge 58, 3)) rfl rfl (fun c1 => ?_) (fun c1 => ?_)
    · have h := it1 h c1
      refine jB C [(.iconst (-1), 1, (-1))] 74 [(0, .ref (b + v0)), (1, .int v1), (2, .int v2), (3, .int v3), (4, .int v4), (5, .int v5)] [.int (-1)] (by decide +kernel) rfl rfl ?_
      exact jRetI C (by decide +kernel : decode cX6_nameOf 74 = .ok (.ireturn, 1)) (Nat.le_refl _) (Nat.le_refl _) ⟨rfl, h⟩
    · have h := it2 h c1
      refine jLdcS C 20 (by decide +kernel : decode cX6_nameOf 18 = .ok (.ldc 90, 2)) rfl rfl ?_
      refine jB C [(.iload 5, 2, 0)] 22 [(0, .ref (b + v0)), (1, .int v1), (2, .int v2), (3, .int v3), (4, .int v4), (5, .int v5)] [.int v5, .ref (cy 101)] (by decide +kernel) rfl rfl ?_
      obtain ⟨y2, h⟩ := h
      refine jSChar C 25 (by decide +kernel : decode cX6_nameOf 22 = .ok (.invokevirtual 96, 3)) rfl y2 wd_625 (Nat.le_of_ble_eq_true rfl) (Nat.le_of_ble_eq_true rfl) (Nat.le_of_ble_eq_true rfl) ?_
      refine jB C [(.bipush 32, 2, 32)] 27 [(0, .ref (b + v0)), (1, .int v1), (2, .int v2), (3, .int v3), (4, .int v4), (5, .int v5)] [.int 32, .int (chS v5)] (by decide +kernel) rfl rfl ?_
      refine jIcmp_ne C 30 67 (by decide +kernel : decode cX6_nameOf 27 = .ok (.if_icmp .ne 40, 3)) rfl rfl (fun c3 => ?_) (fun c3 => ?_)
      · have h := it2 h c3
        refine jB C [(.iinc 5 1, 3, 1)] 70 [(5, .int (v5 + 1)), (0, .ref (b + v0)), (1, .int v1), (2, .int v2), (3, .int v3), (4, .int v4)] [] (by decide +kernel) rfl rfl ?_
        refine jGoto C 8 (by decide +kernel : decode cX6_nameOf 70 = .ok (.goto (-62), 3)) rfl ?_
        refine jSub [1, 2, 3, 4, 5, 0] rfl ?_
        exact ih v3 v4 (v5 + 1) S h
      · have h := it1 h c3
        refine jB C [(.iload 5, 2, 0), (.iload 4, 2, 0), (.isub, 1, 0), (.iload_n 2, 1, 0), (.iload_n 1, 1, 0), (.isub, 1, 0)] 38 [(0, .ref (b + v0)), (1, .int v1), (2, .int v2), (3, .int v3), (4, .int v4), (5, .int v5)] [.int (v2 - v1), .int (v5 - v4)] (by decide +kernel) rfl rfl ?_
        refine jIcmp_ne C 41 58 (by decide +kernel : decode cX6_nameOf 38 = .ok (.if_icmp .ne 20, 3)) rfl rfl (fun c4 => ?_) (fun c4 => ?_)
        · have h := it2 h c4
          refine jSub [0, 1, 2, 3, 5] rfl ?_
          exact j_X6_nameOf_58 C hE t_v0 ih h
        · have h := it1 h c4
          refine jB C [(.aload_n 0, 1, 0), (.iload 4, 2, 0), (.iload_n 1, 1, 0), (.iload 5, 2, 0), (.iload 4, 2, 0), (.isub, 1, 0)] 50 [(0, .ref (b + v0)), (1, .int v1), (2, .int v2), (3, .int v3), (4, .int v4), (5, .int v5)] [.int (v5 - v4), .int v1, .int v4, .ref (b + v0)] (by decide +kernel) rfl rfl ?_
          refine jcV_I C 53 (rest := []) (ok_X6_isSame t_v0 h) (by decide +kernel : decode cX6_nameOf 50 = .ok (.invokevirtual 100, 3)) rfl wd_663 wd_665 wp_39 wd_9 wd_666 ⟨rfl, rfl⟩ hd_X6_isSame ⟨Nat.le_of_ble_eq_true rfl, Nat.le_of_ble_eq_true rfl⟩ t_v0 kX6 (by decide) rfl rfl rfl (Nat.le_of_ble_eq_true rfl) ⟨Nat.zero_le _, Nat.zero_le _⟩ (fun r6 S5 h => ?_)
          refine jIf_eq C 56 58 (by decide +kernel : decode cX6_nameOf 53 = .ok (.ifCond .eq 5, 3)) rfl rfl (fun c7 => ?_) (fun c7 => ?_)
          · have h := it1 h c7
            refine jSub [0, 1, 2, 3, 5] rfl ?_
            exact j_X6_nameOf_58 C hE t_v0 ih h
          · have h := it2 h c7
            refine jB C [(.iload_n 3, 1, 0)] 57 [(0, .ref (b + v0)), (1, .int v1), (2, .int v2), (3, .int v3), (4, .int v4), (5, .int v5)] [.int v3] (by decide +kernel) rfl rfl ?_
            exact jRetI C (by decide +kernel : decode cX6_nameOf 57 = .ok (.ireturn, 1)) (Nat.le_refl _) (Nat.le_refl _) ⟨rfl, h⟩
theorem j_X6_nameOf_8 {p : Program} {l : Launch} {e : Env} {s : State} {m : MethodId} {args : Array Value} {below : List Frame} {meth : Method} {c : Code} {b : Nat} {D : va_G} {cy : Nat → ClassId} {G : Gm} {v0 : Nat} {v1 : Int32} {v2 : Int32} {v3 : Int32} {v4 : Int32} {v5 : Int32} {S : St} {Q : Int32 → St → Prop} (C : CX p s m args meth c b D cy cX6_nameOf RX6 6 (some .int)) (hE : s.heap.size + 0 ≤ b + G.2.2) (t_v0 : ok G 5 v0) (h : f_X6_nameOf_8 G v0 v1 v2 Q v3 v4 v5 S) : J p l e rm_X6_nameOf s m args below meth c b D cy 6 (zI b D cy below args s G Q) 0 0 G S 8 [(0, .ref (b + v0)), (1, .int v1), (2, .int v2), (3, .int v3), (4, .int v4), (5, .int v5)] [] := by
  obtain ⟨k, h⟩ := h
  exact j_X6_nameOf_8_n C hE t_v0 k v3 v4 v5 S h
set_option maxHeartbeats 4000000 in
set_option maxRecDepth 100000 in
theorem j_X6_nameOf {p : Program} {l : Launch} {e : Env} {s : State} {m : MethodId} {args : Array Value} {below : List Frame} {meth : Method} {c : Code} {b : Nat} {D : va_G} {cy : Nat → ClassId} {G : Gm} {v0 : Nat} {v1 : Int32} {v2 : Int32} {S : St} {Q : Int32 → St → Prop} (C : CX p s m args meth c b D cy cX6_nameOf RX6 6 (some .int)) (hE : s.heap.size + 0 ≤ b + G.2.2) (t_v0 : ok G 5 v0) (h : f_X6_nameOf G v0 v1 v2 Q S) : J p l e rm_X6_nameOf s m args below meth c b D cy 6 (zI b D cy below args s G Q) 0 0 G S 0 [(0, .ref (b + v0)), (1, .int v1), (2, .int v2)] [] := by
  unfold f_X6_nameOf at h
  refine jB C [(.iconst 0, 1, 0), (.istore_n 3, 1, 0), (.iconst 0, 1, 0), (.istore 4, 2, 0), (.iconst 0, 1, 0), (.istore 5, 2, 0)] 8 [(5, .int 0), (4, .int 0), (3, .int 0), (0, .ref (b + v0)), (1, .int v1), (2, .int v2)] [] (by decide +kernel) rfl rfl ?_
  refine jSub [3, 4, 5, 2, 1, 0] rfl ?_
  exact j_X6_nameOf_8 C hE t_v0 h
theorem ok_X6_nameOf {G : Gm} {v0 : Nat} {v1 : Int32} {v2 : Int32} {S : St} {Q : Int32 → St → Prop}  (t_v0 : ok G 5 v0) (h : f_X6_nameOf G v0 v1 v2 Q S) : MT yX6_nameOf cX6_nameOf 6 (some .int) rm_X6_nameOf 0 0 (fun b => [.ref (b + v0), .int v1, .int v2]) G S (QI (fun r G1 S1 => G1 = G ∧ Q r S1)) := MT.ofJ (by decide +kernel) (fun b => [(0, .ref (b + v0)), (1, .int v1), (2, .int v2)]) (fun b => rfl) (fun b => Nat.le_of_ble_eq_true rfl) (fun l b D cy p e s m below meth c C hE hn => j_X6_nameOf C hE t_v0 h)
theorem hd_X6_nameOf : yX6_nameOf.cls ≠ "java/lang/invoke/MethodHandle" ∧ yX6_nameOf.cls ≠ "java/lang/invoke/VarHandle" ∧ (parseMethodDescriptor yX6_nameOf.desc).map (fun d => d.parameters.length) = some 2 := by decide +kernel
abbrev rm_X6_numberOf : Room := { frames := 1, cells := 0, slots := 0, locals := 30 }
set_option maxHeartbeats 4000000 in
set_option maxRecDepth 100000 in
theorem j_X6_numberOf_5_n {p : Program} {l : Launch} {e : Env} {s : State} {m : MethodId} {args : Array Value} {below : List Frame} {meth : Method} {c : Code} {b : Nat} {D : va_G} {cy : Nat → ClassId} {G : Gm} {v0 : Nat} {v2 : Int32} {Q : Int32 → St → Prop} (C : CX p s m args meth c b D cy cX6_numberOf RX6 5 (some .int)) (hE : s.heap.size + 0 ≤ b + G.2.2) (t_v0 : ok G 5 v0) : ∀ k (v3 : Int32) (v4 : Int32) S, f_X6_numberOf_5_n G v0 v2 Q k v3 v4 S → J p l e rm_X6_numberOf s m args below meth c b D cy 5 (zI b D cy below args s G Q) 0 0 G S 5 [(0, .ref (b + v0)), (2, .int v2), (3, .int v3), (4, .int v4)] [] := by
  intro k
  induction k with
  | zero => intro v3 v4 S h; exact h.elim
  | succ k ih =>
    intro v3 v4 S h
    unfold f_X6_numberOf_5_n at h
    refine jB C [(.iload 4, 2, 0), (.iload_n 2, 1, 0)] 8 [(0, .ref (b + v0)), (2, .int v2), (3, .int v3), (4, .int v4)] [.int v2, .int v4] (by decide +kernel) rfl rfl ?_
    refine jIcmp_ge C 11 38 (by decide +kernel : decode cX6_numberOf 8 = .ok (.if_icmp .ge 30, 3)) rfl rfl (fun c1 => ?_) (fun c1 => ?_)
    · have h := it1 h c1
      refine jB C [(.iload_n 3, 1, 0)] 39 [(0, .ref (b + v0)), (2, .int v2), (3, .int v3), (4, .int v4)] [.int v3] (by decide +kernel) rfl rfl ?_
      exact jRetI C (by decide +kernel : decode cX6_numberOf 39 = .ok (.ireturn, 1)) (Nat.le_refl _) (Nat.le_refl _) ⟨rfl, h⟩
    · have h := it2 h c1
      refine jB C [(.iload_n 3, 1, 0), (.bipush 10, 2, 10), (.imul, 1, 0), (.aload_n 0, 1, 0), (.iload 4, 2, 0)] 18 [(0, .ref (b + v0)), (2, .int v2), (3, .int v3), (4, .int v4)] [.int v4, .ref (b + v0), .int (v3 * 10)] (by decide +kernel) rfl rfl ?_
      refine jcV_I C 21 (rest := [.int (v3 * 10)]) (ok_X6_byteAt t_v0 h) (by decide +kernel : decode cX6_numberOf 18 = .ok (.invokevirtual 40, 3)) rfl wd_569 wd_571 wp_31 wd_9 wd_572 ⟨rfl, rfl⟩ hd_X6_byteAt ⟨Nat.le_of_ble_eq_true rfl, Nat.le_of_ble_eq_true rfl⟩ t_v0 kX6 (by decide) rfl rfl rfl (Nat.le_of_ble_eq_true rfl) ⟨Nat.zero_le _, Nat.zero_le _⟩ (fun r3 S2 h => ?_)
      refine jB C [(.iadd, 1, 0), (.bipush 48, 2, 48), (.isub, 1, 0), (.sipush 1001, 3, 1001)] 28 [(0, .ref (b + v0)), (2, .int v2), (3, .int v3), (4, .int v4)] [.int 1001, .int (((v3 * 10) + r3) - 48)] (by decide +kernel) rfl rfl ?_
      refine jMin C 31 (by decide +kernel : decode cX6_numberOf 28 = .ok (.invokestatic 104, 3)) rfl wd_671 (Nat.le_of_ble_eq_true rfl) (Nat.le_of_ble_eq_true rfl) (Nat.le_of_ble_eq_true rfl) (Nat.zero_le _) (Nat.zero_le _) ?_
      refine jTopI (fun x4 e_x4 => ?_)
      have h := h x4 e_x4
      refine jB C [(.istore_n 3, 1, 0), (.iinc 4 1, 3, 1)] 35 [(4, .int (v4 + 1)), (3, .int x4), (0, .ref (b + v0)), (2, .int v2)] [] (by decide +kernel) rfl rfl ?_
      refine jGoto C 5 (by decide +kernel : decode cX6_numberOf 35 = .ok (.goto (-30), 3)) rfl ?_
      refine jSub [2, 3, 1, 0] rfl ?_
      exact ih x4 (v4 + 1) S2 h
theorem j_X6_numberOf_5 {p : Program} {l : Launch} {e : Env} {s : State} {m : MethodId} {args : Array Value} {below : List Frame} {meth : Method} {c : Code} {b : Nat} {D : va_G} {cy : Nat → ClassId} {G : Gm} {v0 : Nat} {v2 : Int32} {v3 : Int32} {v4 : Int32} {S : St} {Q : Int32 → St → Prop} (C : CX p s m args meth c b D cy cX6_numberOf RX6 5 (some .int)) (hE : s.heap.size + 0 ≤ b + G.2.2) (t_v0 : ok G 5 v0) (h : f_X6_numberOf_5 G v0 v2 Q v3 v4 S) : J p l e rm_X6_numberOf s m args below meth c b D cy 5 (zI b D cy below args s G Q) 0 0 G S 5 [(0, .ref (b + v0)), (2, .int v2), (3, .int v3), (4, .int v4)] [] := by
  obtain ⟨k, h⟩ := h
  exact j_X6_numberOf_5_n C hE t_v0 k v3 v4 S h
set_option maxHeartbeats 4000000 in
set_option maxRecDepth 100000 in
theorem j_X6_numberOf {p : Program} {l : Launch} {e : Env} {s : State} {m : MethodId} {args : Array Value} {below : List Frame} {meth : Method} {c : Code} {b : Nat} {D : va_G} {cy : Nat → ClassId} {G : Gm} {v0 : Nat} {v1 : Int32} {v2 : Int32} {S : St} {Q : Int32 → St → Prop} (C : CX p s m args meth c b D cy cX6_numberOf RX6 5 (some .int)) (hE : s.heap.size + 0 ≤ b + G.2.2) (t_v0 : ok G 5 v0) (h : f_X6_numberOf G v0 v1 v2 Q S) : J p l e rm_X6_numberOf s m args below meth c b D cy 5 (zI b D cy below args s G Q) 0 0 G S 0 [(0, .ref (b + v0)), (1, .int v1), (2, .int v2)] [] := by
  unfold f_X6_numberOf at h
  refine jB C [(.iconst 0, 1, 0), (.istore_n 3, 1, 0), (.iload_n 1, 1, 0), (.istore 4, 2, 0)] 5 [(4, .int v1), (3, .int 0), (0, .ref (b + v0)), (1, .int v1), (2, .int v2)] [] (by decide +kernel) rfl rfl ?_
  refine jSub [2, 4, 1, 0] rfl ?_
  exact j_X6_numberOf_5 C hE t_v0 h
theorem ok_X6_numberOf {G : Gm} {v0 : Nat} {v1 : Int32} {v2 : Int32} {S : St} {Q : Int32 → St → Prop}  (t_v0 : ok G 5 v0) (h : f_X6_numberOf G v0 v1 v2 Q S) : MT yX6_numberOf cX6_numberOf 5 (some .int) rm_X6_numberOf 0 0 (fun b => [.ref (b + v0), .int v1, .int v2]) G S (QI (fun r G1 S1 => G1 = G ∧ Q r S1)) := MT.ofJ (by decide +kernel) (fun b => [(0, .ref (b + v0)), (1, .int v1), (2, .int v2)]) (fun b => rfl) (fun b => Nat.le_of_ble_eq_true rfl) (fun l b D cy p e s m below meth c C hE hn => j_X6_numberOf C hE t_v0 h)
theorem hd_X6_numberOf : yX6_numberOf.cls ≠ "java/lang/invoke/MethodHandle" ∧ yX6_numberOf.cls ≠ "java/lang/invoke/VarHandle" ∧ (parseMethodDescriptor yX6_numberOf.desc).map (fun d => d.parameters.length) = some 2 := by decide +kernel
abbrev rm_X6_split : Room := { frames := 6, cells := 0, slots := 0, locals := 249 }
set_option maxHeartbeats 4000000 in
set_option maxRecDepth 100000 in
theorem j_X6_split_143 {p : Program} {l : Launch} {e : Env} {s : State} {m : MethodId} {args : Array Value} {below : List Frame} {meth : Method} {c : Code} {b : Nat} {D : va_G} {cy : Nat → ClassId} {G : Gm} {v0 : Nat} {S : St} {Q : St → Prop} (C : CX p s m args meth c b D cy cX6_split RX6 5 none) (hE : s.heap.size + 0 ≤ b + G.2.2) (t_v0 : ok G 5 v0) (h : f_X6_split_143 G v0 Q S) : J p l e rm_X6_split s m args below meth c b D cy 5 (zV b D cy below args s G Q) 0 0 G S 143 [(0, .ref (b + v0))] [] := by
  unfold f_X6_split_143 at h
  refine jB C [(.aload_n 0, 1, 0)] 144 [(0, .ref (b + v0))] [.ref (b + v0)] (by decide +kernel) rfl rfl ?_
  obtain ⟨a1, e_a1, h⟩ := h
  refine jGetR C 147 (by decide +kernel : decode cX6_split 144 = .ok (.getfield 15, 3)) rfl t_v0 kX6 2 (by decide) rfl rfl (by decide) wd_277 e_a1 rfl (fun t_a1 => ?_)
  refine jB C [(.aload_n 0, 1, 0)] 148 [(0, .ref (b + v0))] [.ref (b + v0), .ref (b + a1)] (by decide +kernel) rfl rfl ?_
  refine jGetI C 151 (by decide +kernel : decode cX6_split 148 = .ok (.getfield 70, 3)) rfl t_v0 kX6 5 (by decide) rfl rfl (by decide) wd_280 ?_
  refine jB C [(.bipush 51, 2, 51)] 153 [(0, .ref (b + v0))] [.int 51, .int (S.1 v0 5), .ref (b + a1)] (by decide +kernel) rfl rfl ?_
  obtain ⟨y2, h⟩ := h
  refine jIast C 154 (by decide +kernel : decode cX6_split 153 = .ok (.iastore, 1)) rfl hE t_a1 y2 ?_
  refine jTopS (fun S3 e_S3 => ?_)
  have h := h S3 e_S3
  refine jB C [(.aload_n 0, 1, 0)] 155 [(0, .ref (b + v0))] [.ref (b + v0)] (by decide +kernel) rfl rfl ?_
  obtain ⟨a4, e_a4, h⟩ := h
  refine jGetR C 158 (by decide +kernel : decode cX6_split 155 = .ok (.getfield 18, 3)) rfl t_v0 kX6 3 (by decide) rfl rfl (by decide) wd_278 e_a4 rfl (fun t_a4 => ?_)
  refine jB C [(.aload_n 0, 1, 0)] 159 [(0, .ref (b + v0))] [.ref (b + v0), .ref (b + a4)] (by decide +kernel) rfl rfl ?_
  refine jGetI C 162 (by decide +kernel : decode cX6_split 159 = .ok (.getfield 70, 3)) rfl t_v0 kX6 5 (by decide) rfl rfl (by decide) wd_280 ?_
  refine jB C [(.aload_n 0, 1, 0)] 163 [(0, .ref (b + v0))] [.ref (b + v0), .int (S3.1 v0 5), .ref (b + a4)] (by decide +kernel) rfl rfl ?_
  refine jGetI C 166 (by decide +kernel : decode cX6_split 163 = .ok (.getfield 37, 3)) rfl t_v0 kX6 1 (by decide) rfl rfl (by decide) wd_275 ?_
  obtain ⟨y5, h⟩ := h
  refine jIast C 167 (by decide +kernel : decode cX6_split 166 = .ok (.iastore, 1)) rfl hE t_a4 y5 ?_
  refine jTopS (fun S6 e_S6 => ?_)
  have h := h S6 e_S6
  exact jRetV C (by decide +kernel : decode cX6_split 167 = .ok (.return_, 1)) (Nat.le_refl _) (Nat.le_refl _) ⟨rfl, h⟩
set_option maxHeartbeats 4000000 in
set_option maxRecDepth 100000 in
theorem j_X6_split_126 {p : Program} {l : Launch} {e : Env} {s : State} {m : MethodId} {args : Array Value} {below : List Frame} {meth : Method} {c : Code} {b : Nat} {D : va_G} {cy : Nat → ClassId} {G : Gm} {k7 : Int32 → St → Prop} {v0 : Nat} {v1 : Int32} {u0 : Int32} {u1 : Int32} {u2 : Nat} {S : St} {Q : St → Prop} (C : CX p s m args meth c b D cy cX6_split RX6 5 none) (hE : s.heap.size + 0 ≤ b + G.2.2) (t_v0 : ok G 5 v0) (t_u2 : ok G 11 u2) (hk7 : ∀ v1' S, k7 v1' S → J p l e rm_X6_split s m args below meth c b D cy 5 (zV b D cy below args s G Q) 0 0 G S 7 [(0, .ref (b + v0)), (1, .int (v1'))] []) (h : f_X6_split_126 G k7 v0 v1 u0 u1 u2 Q S) : J p l e rm_X6_split s m args below meth c b D cy 5 (zV b D cy below args s G Q) 0 0 G S 126 [(0, .ref (b + v0)), (1, .int v1)] [.int u0, .int u1, .ref (b + u2)] := by
  unfold f_X6_split_126 at h
  obtain ⟨y1, h⟩ := h
  refine jIast C 127 (by decide +kernel : decode cX6_split 126 = .ok (.iastore, 1)) rfl hE t_u2 y1 ?_
  refine jTopS (fun S2 e_S2 => ?_)
  have h := h S2 e_S2
  refine jB C [(.aload_n 0, 1, 0), (.dup, 1, 0)] 129 [(0, .ref (b + v0)), (1, .int v1)] [.ref (b + v0), .ref (b + v0)] (by decide +kernel) rfl rfl ?_
  refine jGetI C 132 (by decide +kernel : decode cX6_split 129 = .ok (.getfield 70, 3)) rfl t_v0 kX6 5 (by decide) rfl rfl (by decide) wd_280 ?_
  refine jB C [(.iconst 1, 1, 1), (.iadd, 1, 0)] 134 [(0, .ref (b + v0)), (1, .int v1)] [.int ((S2.1 v0 5) + 1), .ref (b + v0)] (by decide +kernel) rfl rfl ?_
  refine jPutI C 137 (by decide +kernel : decode cX6_split 134 = .ok (.putfield 70, 3)) rfl hE t_v0 kX6 5 (by decide) rfl rfl (by decide) rfl wd_280 rfl rfl rfl ?_
  refine jTopS (fun S3 e_S3 => ?_)
  have h := h S3 e_S3
  refine jB C [(.iinc 1 1, 3, 1)] 140 [(1, .int (v1 + 1)), (0, .ref (b + v0))] [] (by decide +kernel) rfl rfl ?_
  refine jGoto C 7 (by decide +kernel : decode cX6_split 140 = .ok (.goto (-133), 3)) rfl ?_
  refine jSub [1, 0] rfl ?_
  exact hk7 (v1 + 1) S3 h
set_option maxHeartbeats 4000000 in
set_option maxRecDepth 100000 in
theorem j_X6_split_92 {p : Program} {l : Launch} {e : Env} {s : State} {m : MethodId} {args : Array Value} {below : List Frame} {meth : Method} {c : Code} {b : Nat} {D : va_G} {cy : Nat → ClassId} {G : Gm} {k7 : Int32 → St → Prop} {v0 : Nat} {v1 : Int32} {v2 : Int32} {v3 : Int32} {u0 : Int32} {u1 : Int32} {u2 : Nat} {S : St} {Q : St → Prop} (C : CX p s m args meth c b D cy cX6_split RX6 5 none) (hE : s.heap.size + 0 ≤ b + G.2.2) (t_v0 : ok G 5 v0) (t_u2 : ok G 11 u2) (hk7 : ∀ v1' S, k7 v1' S → J p l e rm_X6_split s m args below meth c b D cy 5 (zV b D cy below args s G Q) 0 0 G S 7 [(0, .ref (b + v0)), (1, .int (v1'))] []) (h : f_X6_split_92 G k7 v0 v1 v2 v3 u0 u1 u2 Q S) : J p l e rm_X6_split s m args below meth c b D cy 5 (zV b D cy below args s G Q) 0 0 G S 92 [(0, .ref (b + v0)), (1, .int v1), (2, .int v2), (3, .int v3)] [.int u0, .int u1, .ref (b + u2)] := by
  unfold f_X6_split_92 at h
  obtain ⟨y1, h⟩ := h
  refine jIast C 93 (by decide +kernel : decode cX6_split 92 = .ok (.iastore, 1)) rfl hE t_u2 y1 ?_
  refine jTopS (fun S2 e_S2 => ?_)
  have h := h S2 e_S2
  refine jB C [(.aload_n 0, 1, 0)] 94 [(0, .ref (b + v0)), (1, .int v1), (2, .int v2), (3, .int v3)] [.ref (b + v0)] (by decide +kernel) rfl rfl ?_
  obtain ⟨a3, e_a3, h⟩ := h
  refine jGetR C 97 (by decide +kernel : decode cX6_split 94 = .ok (.getfield 18, 3)) rfl t_v0 kX6 3 (by decide) rfl rfl (by decide) wd_278 e_a3 rfl (fun t_a3 => ?_)
  refine jB C [(.aload_n 0, 1, 0)] 98 [(0, .ref (b + v0)), (1, .int v1), (2, .int v2), (3, .int v3)] [.ref (b + v0), .ref (b + a3)] (by decide +kernel) rfl rfl ?_
  refine jGetI C 101 (by decide +kernel : decode cX6_split 98 = .ok (.getfield 70, 3)) rfl t_v0 kX6 5 (by decide) rfl rfl (by decide) wd_280 ?_
  refine jB C [(.iload_n 1, 1, 0)] 102 [(0, .ref (b + v0)), (1, .int v1), (2, .int v2), (3, .int v3)] [.int v1, .int (S2.1 v0 5), .ref (b + a3)] (by decide +kernel) rfl rfl ?_
  obtain ⟨y4, h⟩ := h
  refine jIast C 103 (by decide +kernel : decode cX6_split 102 = .ok (.iastore, 1)) rfl hE t_a3 y4 ?_
  refine jTopS (fun S5 e_S5 => ?_)
  have h := h S5 e_S5
  refine jB C [(.aload_n 0, 1, 0)] 104 [(0, .ref (b + v0)), (1, .int v1), (2, .int v2), (3, .int v3)] [.ref (b + v0)] (by decide +kernel) rfl rfl ?_
  obtain ⟨a6, e_a6, h⟩ := h
  refine jGetR C 107 (by decide +kernel : decode cX6_split 104 = .ok (.getfield 21, 3)) rfl t_v0 kX6 4 (by decide) rfl rfl (by decide) wd_279 e_a6 rfl (fun t_a6 => ?_)
  refine jB C [(.aload_n 0, 1, 0)] 108 [(0, .ref (b + v0)), (1, .int v1), (2, .int v2), (3, .int v3)] [.ref (b + v0), .ref (b + a6)] (by decide +kernel) rfl rfl ?_
  refine jGetI C 111 (by decide +kernel : decode cX6_split 108 = .ok (.getfield 70, 3)) rfl t_v0 kX6 5 (by decide) rfl rfl (by decide) wd_280 ?_
  refine jB C [(.iload_n 2, 1, 0), (.iconst 2, 1, 2)] 113 [(0, .ref (b + v0)), (1, .int v1), (2, .int v2), (3, .int v3)] [.int 2, .int v2, .int (S5.1 v0 5), .ref (b + a6)] (by decide +kernel) rfl rfl ?_
  refine jIcmp_ne C 116 125 (by decide +kernel : decode cX6_split 113 = .ok (.if_icmp .ne 12, 3)) rfl rfl (fun c7 => ?_) (fun c7 => ?_)
  · have h := it2 h c7
    refine jB C [(.iconst 0, 1, 0)] 126 [(0, .ref (b + v0)), (1, .int v1), (2, .int v2), (3, .int v3)] [.int 0, .int (S5.1 v0 5), .ref (b + a6)] (by decide +kernel) rfl rfl ?_
    refine jSub [0, 1] rfl ?_
    exact j_X6_split_126 C hE t_v0 t_a6 hk7 h
  · have h := it1 h c7
    refine jB C [(.aload_n 0, 1, 0), (.iload_n 1, 1, 0), (.iload_n 3, 1, 0)] 119 [(0, .ref (b + v0)), (1, .int v1), (2, .int v2), (3, .int v3)] [.int v3, .int v1, .ref (b + v0), .int (S5.1 v0 5), .ref (b + a6)] (by decide +kernel) rfl rfl ?_
    refine jcV_I C 122 (rest := [.int (S5.1 v0 5), .ref (b + a6)]) (ok_X6_numberOf t_v0 h) (by decide +kernel : decode cX6_split 119 = .ok (.invokevirtual 87, 3)) rfl wd_667 wd_669 wp_40 wd_9 wd_670 ⟨rfl, rfl⟩ hd_X6_numberOf ⟨Nat.le_of_ble_eq_true rfl, Nat.le_of_ble_eq_true rfl⟩ t_v0 kX6 (by decide) rfl rfl rfl (Nat.le_of_ble_eq_true rfl) ⟨Nat.zero_le _, Nat.zero_le _⟩ (fun r9 S8 h => ?_)
    refine jGoto C 126 (by decide +kernel : decode cX6_split 122 = .ok (.goto 4, 3)) rfl ?_
    refine jSub [0, 1] rfl ?_
    exact j_X6_split_126 C hE t_v0 t_a6 hk7 h
set_option maxHeartbeats 4000000 in
set_option maxRecDepth 100000 in
theorem j_X6_split_66 {p : Program} {l : Launch} {e : Env} {s : State} {m : MethodId} {args : Array Value} {below : List Frame} {meth : Method} {c : Code} {b : Nat} {D : va_G} {cy : Nat → ClassId} {G : Gm} {k7 : Int32 → St → Prop} {v0 : Nat} {v1 : Int32} {v2 : Int32} {v3 : Int32} {u0 : Int32} {S : St} {Q : St → Prop} (C : CX p s m args meth c b D cy cX6_split RX6 5 none) (hE : s.heap.size + 0 ≤ b + G.2.2) (t_v0 : ok G 5 v0) (hk7 : ∀ v1' S, k7 v1' S → J p l e rm_X6_split s m args below meth c b D cy 5 (zV b D cy below args s G Q) 0 0 G S 7 [(0, .ref (b + v0)), (1, .int (v1'))] []) (h : f_X6_split_66 G k7 v0 v1 v2 v3 u0 Q S) : J p l e rm_X6_split s m args below meth c b D cy 5 (zV b D cy below args s G Q) 0 0 G S 66 [(0, .ref (b + v0)), (1, .int v1), (2, .int v2), (3, .int v3)] [.int u0] := by
  unfold f_X6_split_66 at h
  refine jB C [(.istore 4, 2, 0), (.aload_n 0, 1, 0)] 69 [(4, .int u0), (0, .ref (b + v0)), (1, .int v1), (2, .int v2), (3, .int v3)] [.ref (b + v0)] (by decide +kernel) rfl rfl ?_
  obtain ⟨a1, e_a1, h⟩ := h
  refine jGetR C 72 (by decide +kernel : decode cX6_split 69 = .ok (.getfield 15, 3)) rfl t_v0 kX6 2 (by decide) rfl rfl (by decide) wd_277 e_a1 rfl (fun t_a1 => ?_)
  refine jB C [(.aload_n 0, 1, 0)] 73 [(4, .int u0), (0, .ref (b + v0)), (1, .int v1), (2, .int v2), (3, .int v3)] [.ref (b + v0), .ref (b + a1)] (by decide +kernel) rfl rfl ?_
  refine jGetI C 76 (by decide +kernel : decode cX6_split 73 = .ok (.getfield 70, 3)) rfl t_v0 kX6 5 (by decide) rfl rfl (by decide) wd_280 ?_
  refine jB C [(.iload_n 2, 1, 0), (.iconst 1, 1, 1)] 78 [(4, .int u0), (0, .ref (b + v0)), (1, .int v1), (2, .int v2), (3, .int v3)] [.int 1, .int v2, .int (S.1 v0 5), .ref (b + a1)] (by decide +kernel) rfl rfl ?_
  refine jIcmp_ne C 81 90 (by decide +kernel : decode cX6_split 78 = .ok (.if_icmp .ne 12, 3)) rfl rfl (fun c2 => ?_) (fun c2 => ?_)
  · have h := it2 h c2
    refine jB C [(.iload 4, 2, 0)] 92 [(4, .int u0), (0, .ref (b + v0)), (1, .int v1), (2, .int v2), (3, .int v3)] [.int u0, .int (S.1 v0 5), .ref (b + a1)] (by decide +kernel) rfl rfl ?_
    refine jSub [1, 2, 3, 4] rfl ?_
    exact j_X6_split_92 C hE t_v0 t_a1 hk7 h
  · have h := it1 h c2
    refine jB C [(.aload_n 0, 1, 0), (.iload_n 1, 1, 0), (.iload_n 3, 1, 0)] 84 [(4, .int u0), (0, .ref (b + v0)), (1, .int v1), (2, .int v2), (3, .int v3)] [.int v3, .int v1, .ref (b + v0), .int (S.1 v0 5), .ref (b + a1)] (by decide +kernel) rfl rfl ?_
    refine jcV_I C 87 (rest := [.int (S.1 v0 5), .ref (b + a1)]) (ok_X6_nameOf t_v0 h) (by decide +kernel : decode cX6_split 84 = .ok (.invokevirtual 83, 3)) rfl wd_610 wd_612 wp_38 wd_9 wd_613 ⟨rfl, rfl⟩ hd_X6_nameOf ⟨Nat.le_of_ble_eq_true rfl, Nat.le_of_ble_eq_true rfl⟩ t_v0 kX6 (by decide) rfl rfl rfl (Nat.le_of_ble_eq_true rfl) ⟨Nat.zero_le _, Nat.zero_le _⟩ (fun r4 S3 h => ?_)
    refine jGoto C 92 (by decide +kernel : decode cX6_split 87 = .ok (.goto 5, 3)) rfl ?_
    refine jSub [1, 2, 3, 4] rfl ?_
    exact j_X6_split_92 C hE t_v0 t_a1 hk7 h
set_option maxHeartbeats 4000000 in
set_option maxRecDepth 100000 in
theorem j_X6_split_7_n {p : Program} {l : Launch} {e : Env} {s : State} {m : MethodId} {args : Array Value} {below : List Frame} {meth : Method} {c : Code} {b : Nat} {D : va_G} {cy : Nat → ClassId} {G : Gm} {v0 : Nat} {Q : St → Prop} (C : CX p s m args meth c b D cy cX6_split RX6 5 none) (hE : s.heap.size + 0 ≤ b + G.2.2) (t_v0 : ok G 5 v0) : ∀ k (v1 : Int32) S, f_X6_split_7_n G v0 Q k v1 S → J p l e rm_X6_split s m args below meth c b D cy 5 (zV b D cy below args s G Q) 0 0 G S 7 [(0, .ref (b + v0)), (1, .int v1)] [] := by
  intro k
  induction k with
  | zero => intro v1 S h; exact h.elim
  | succ k ih =>
    intro v1 S h
    unfold f_X6_split_7_n at h
    refine jB C [(.iload_n 1, 1, 0), (.aload_n 0, 1, 0)] 9 [(0, .ref (b + v0)), (1, .int v1)] [.ref (b + v0), .int v1] (by decide +kernel) rfl rfl ?_
    refine jGetI C 12 (by decide +kernel : decode cX6_split 9 = .ok (.getfield 37, 3)) rfl t_v0 kX6 1 (by decide) rfl rfl (by decide) wd_275 ?_
    refine jIcmp_ge C 15 143 (by decide +kernel : decode cX6_split 12 = .ok (.if_icmp .ge 131, 3)) rfl rfl (fun c1 => ?_) (fun c1 => ?_)
    · have h := it1 h c1
      refine jSub [0] rfl ?_
      exact j_X6_split_143 C hE t_v0 h
    · have h := it2 h c1
      refine jB C [(.aload_n 0, 1, 0)] 16 [(0, .ref (b + v0)), (1, .int v1)] [.ref (b + v0)] (by decide +kernel) rfl rfl ?_
      refine jGetI C 19 (by decide +kernel : decode cX6_split 16 = .ok (.getfield 70, 3)) rfl t_v0 kX6 5 (by decide) rfl rfl (by decide) wd_280 ?_
      refine jB C [(.sipush 400, 3, 400)] 22 [(0, .ref (b + v0)), (1, .int v1)] [.int 400, .int (S.1 v0 5)] (by decide +kernel) rfl rfl ?_
      refine jIcmp_ge C 25 143 (by decide +kernel : decode cX6_split 22 = .ok (.if_icmp .ge 121, 3)) rfl rfl (fun c2 => ?_) (fun c2 => ?_)
      · have h := it1 h c2
        refine jSub [0] rfl ?_
        exact j_X6_split_143 C hE t_v0 h
      · have h := it2 h c2
        refine jB C [(.aload_n 0, 1, 0), (.iload_n 1, 1, 0)] 27 [(0, .ref (b + v0)), (1, .int v1)] [.int v1, .ref (b + v0)] (by decide +kernel) rfl rfl ?_
        refine jcV_I C 30 (rest := []) (ok_X6_startsToken t_v0 h) (by decide +kernel : decode cX6_split 27 = .ok (.invokevirtual 73, 3)) rfl wd_599 wd_601 wp_36 wd_9 wd_602 ⟨rfl, rfl⟩ hd_X6_startsToken ⟨Nat.le_of_ble_eq_true rfl, Nat.le_of_ble_eq_true rfl⟩ t_v0 kX6 (by decide) rfl rfl rfl (Nat.le_of_ble_eq_true rfl) ⟨Nat.zero_le _, Nat.zero_le _⟩ (fun r4 S3 h => ?_)
        refine jIf_eq C 33 137 (by decide +kernel : decode cX6_split 30 = .ok (.ifCond .eq 107, 3)) rfl rfl (fun c5 => ?_) (fun c5 => ?_)
        · have h := it1 h c5
          refine jB C [(.iinc 1 1, 3, 1)] 140 [(1, .int (v1 + 1)), (0, .ref (b + v0))] [] (by decide +kernel) rfl rfl ?_
          refine jGoto C 7 (by decide +kernel : decode cX6_split 140 = .ok (.goto (-133), 3)) rfl ?_
          refine jSub [1, 0] rfl ?_
          exact ih (v1 + 1) S3 h
        · have h := it2 h c5
          refine jB C [(.aload_n 0, 1, 0), (.iload_n 1, 1, 0)] 35 [(0, .ref (b + v0)), (1, .int v1)] [.int v1, .ref (b + v0)] (by decide +kernel) rfl rfl ?_
          refine jcV_I C 38 (rest := []) (ok_X6_byteAt t_v0 h) (by decide +kernel : decode cX6_split 35 = .ok (.invokevirtual 40, 3)) rfl wd_569 wd_571 wp_31 wd_9 wd_572 ⟨rfl, rfl⟩ hd_X6_byteAt ⟨Nat.le_of_ble_eq_true rfl, Nat.le_of_ble_eq_true rfl⟩ t_v0 kX6 (by decide) rfl rfl rfl (Nat.le_of_ble_eq_true rfl) ⟨Nat.zero_le _, Nat.zero_le _⟩ (fun r7 S6 h => ?_)
          refine jcS_I C 41 (rest := []) (ok_X6_sortOf h) (by decide +kernel : decode cX6_split 38 = .ok (.invokestatic 77, 3)) rfl wd_603 wd_604 wd_9 wd_605 ⟨rfl, rfl⟩ hd_X6_sortOf ⟨Nat.le_of_ble_eq_true rfl, Nat.le_of_ble_eq_true rfl⟩ rfl rfl (Nat.le_of_ble_eq_true rfl) ⟨Nat.zero_le _, Nat.zero_le _⟩ (fun r9 S8 h => ?_)
          refine jB C [(.istore_n 2, 1, 0), (.aload_n 0, 1, 0), (.iload_n 1, 1, 0)] 44 [(2, .int r9), (0, .ref (b + v0)), (1, .int v1)] [.int v1, .ref (b + v0)] (by decide +kernel) rfl rfl ?_
          refine jcV_I C 47 (rest := []) (ok_X6_pastToken t_v0 h) (by decide +kernel : decode cX6_split 44 = .ok (.invokevirtual 80, 3)) rfl wd_606 wd_608 wp_37 wd_9 wd_609 ⟨rfl, rfl⟩ hd_X6_pastToken ⟨Nat.le_of_ble_eq_true rfl, Nat.le_of_ble_eq_true rfl⟩ t_v0 kX6 (by decide) rfl rfl rfl (Nat.le_of_ble_eq_true rfl) ⟨Nat.zero_le _, Nat.zero_le _⟩ (fun r11 S10 h => ?_)
          refine jB C [(.istore_n 3, 1, 0), (.iload_n 2, 1, 0), (.iconst 2, 1, 2)] 50 [(3, .int r11), (2, .int r9), (0, .ref (b + v0)), (1, .int v1)] [.int 2, .int r9] (by decide +kernel) rfl rfl ?_
          refine jIcmp_ne C 53 58 (by decide +kernel : decode cX6_split 50 = .ok (.if_icmp .ne 8, 3)) rfl rfl (fun c12 => ?_) (fun c12 => ?_)
          · have h := it2 h c12
            refine jB C [(.aload_n 0, 1, 0), (.iload_n 1, 1, 0)] 60 [(3, .int r11), (2, .int r9), (0, .ref (b + v0)), (1, .int v1)] [.int v1, .ref (b + v0)] (by decide +kernel) rfl rfl ?_
            refine jcV_I C 63 (rest := []) (ok_X6_byteAt t_v0 h) (by decide +kernel : decode cX6_split 60 = .ok (.invokevirtual 40, 3)) rfl wd_569 wd_571 wp_31 wd_9 wd_572 ⟨rfl, rfl⟩ hd_X6_byteAt ⟨Nat.le_of_ble_eq_true rfl, Nat.le_of_ble_eq_true rfl⟩ t_v0 kX6 (by decide) rfl rfl rfl (Nat.le_of_ble_eq_true rfl) ⟨Nat.zero_le _, Nat.zero_le _⟩ (fun r14 S13 h => ?_)
            refine jB C [(.bipush 100, 2, 100), (.iadd, 1, 0)] 66 [(3, .int r11), (2, .int r9), (0, .ref (b + v0)), (1, .int v1)] [.int (r14 + 100)] (by decide +kernel) rfl rfl ?_
            refine jSub [2, 3, 1, 0] rfl ?_
            exact j_X6_split_66 C hE t_v0 ih h
          · have h := it1 h c12
            refine jB C [(.bipush 50, 2, 50)] 55 [(3, .int r11), (2, .int r9), (0, .ref (b + v0)), (1, .int v1)] [.int 50] (by decide +kernel) rfl rfl ?_
            refine jGoto C 66 (by decide +kernel : decode cX6_split 55 = .ok (.goto 11, 3)) rfl ?_
            refine jSub [2, 3, 1, 0] rfl ?_
            exact j_X6_split_66 C hE t_v0 ih h
theorem j_X6_split_7 {p : Program} {l : Launch} {e : Env} {s : State} {m : MethodId} {args : Array Value} {below : List Frame} {meth : Method} {c : Code} {b : Nat} {D : va_G} {cy : Nat → ClassId} {G : Gm} {v0 : Nat} {v1 : Int32} {S : St} {Q : St → Prop} (C : CX p s m args meth c b D cy cX6_split RX6 5 none) (hE : s.heap.size + 0 ≤ b + G.2.2) (t_v0 : ok G 5 v0) (h : f_X6_split_7 G v0 Q v1 S) : J p l e rm_X6_split s m args below meth c b D cy 5 (zV b D cy below args s G Q) 0 0 G S 7 [(0, .ref (b + v0)), (1, .int v1)] [] := by
  obtain ⟨k, h⟩ := h
  exact j_X6_split_7_n C hE t_v0 k v1 S h
set_option maxHeartbeats 4000000 in
set_option maxRecDepth 100000 in
theorem j_X6_split {p : Program} {l : Launch} {e : Env} {s : State} {m : MethodId} {args : Array Value} {below : List Frame} {meth : Method} {c : Code} {b : Nat} {D : va_G} {cy : Nat → ClassId} {G : Gm} {v0 : Nat} {S : St} {Q : St → Prop} (C : CX p s m args meth c b D cy cX6_split RX6 5 none) (hE : s.heap.size + 0 ≤ b + G.2.2) (t_v0 : ok G 5 v0) (h : f_X6_split G v0 Q S) : J p l e rm_X6_split s m args below meth c b D cy 5 (zV b D cy below args s G Q) 0 0 G S 0 [(0, .ref (b + v0))] [] := by
  unfold f_X6_split at h
  refine jB C [(.aload_n 0, 1, 0), (.iconst 0, 1, 0)] 2 [(0, .ref (b + v0))] [.int 0, .ref (b + v0)] (by decide +kernel) rfl rfl ?_
  refine jPutI C 5 (by decide +kernel : decode cX6_split 2 = .ok (.putfield 70, 3)) rfl hE t_v0 kX6 5 (by decide) rfl rfl (by decide) rfl wd_280 rfl rfl rfl ?_
  refine jTopS (fun S1 e_S1 => ?_)
  have h := h S1 e_S1
  refine jB C [(.iconst 0, 1, 0), (.istore_n 1, 1, 0)] 7 [(1, .int 0), (0, .ref (b + v0))] [] (by decide +kernel) rfl rfl ?_
  refine jSub [1, 0] rfl ?_
  exact j_X6_split_7 C hE t_v0 h
theorem ok_X6_split {G : Gm} {v0 : Nat} {S : St} {Q : St → Prop}  (t_v0 : ok G 5 v0) (h : f_X6_split G v0 Q S) : MT yX6_split cX6_split 5 none rm_X6_split 0 0 (fun b => [.ref (b + v0)]) G S (QV (fun G1 S1 => G1 = G ∧ Q S1)) := MT.ofJ (by decide +kernel) (fun b => [(0, .ref (b + v0))]) (fun b => rfl) (fun b => Nat.le_of_ble_eq_true rfl) (fun l b D cy p e s m below meth c C hE hn => j_X6_split C hE t_v0 h)
theorem hd_X6_split : yX6_split.cls ≠ "java/lang/invoke/MethodHandle" ∧ yX6_split.cls ≠ "java/lang/invoke/VarHandle" ∧ (parseMethodDescriptor yX6_split.desc).map (fun d => d.parameters.length) = some 0 := by decide +kernel
abbrev rm_X6_here : Room := { frames := 0, cells := 0, slots := 0, locals := 0 }
set_option maxHeartbeats 4000000 in
set_option maxRecDepth 100000 in
theorem j_X6_here {p : Program} {l : Launch} {e : Env} {s : State} {m : MethodId} {args : Array Value} {below : List Frame} {meth : Method} {c : Code} {b : Nat} {D : va_G} {cy : Nat → ClassId} {G : Gm} {v0 : Nat} {S : St} {Q : Int32 → St → Prop} (C : CX p s m args meth c b D cy cX6_here RX6 1 (some .int)) (hE : s.heap.size + 0 ≤ b + G.2.2) (t_v0 : ok G 5 v0) (h : f_X6_here G v0 Q S) : J p l e rm_X6_here s m args below meth c b D cy 1 (zI b D cy below args s G Q) 0 0 G S 0 [(0, .ref (b + v0))] [] := by
  unfold f_X6_here at h
  refine jB C [(.aload_n 0, 1, 0)] 1 [(0, .ref (b + v0))] [.ref (b + v0)] (by decide +kernel) rfl rfl ?_
  refine jGetI C 4 (by decide +kernel : decode cX6_here 1 = .ok (.getfield 51, 3)) rfl t_v0 kX6 6 (by decide) rfl rfl (by decide) wd_281 ?_
  refine jIf_lt C 7 30 (by decide +kernel : decode cX6_here 4 = .ok (.ifCond .lt 26, 3)) rfl rfl (fun c1 => ?_) (fun c1 => ?_)
  · have h := it1 h c1
    refine jB C [(.bipush 51, 2, 51)] 32 [(0, .ref (b + v0))] [.int 51] (by decide +kernel) rfl rfl ?_
    exact jRetI C (by decide +kernel : decode cX6_here 32 = .ok (.ireturn, 1)) (Nat.le_refl _) (Nat.le_refl _) ⟨rfl, h⟩
  · have h := it2 h c1
    refine jB C [(.aload_n 0, 1, 0)] 8 [(0, .ref (b + v0))] [.ref (b + v0)] (by decide +kernel) rfl rfl ?_
    refine jGetI C 11 (by decide +kernel : decode cX6_here 8 = .ok (.getfield 51, 3)) rfl t_v0 kX6 6 (by decide) rfl rfl (by decide) wd_281 ?_
    refine jB C [(.aload_n 0, 1, 0)] 12 [(0, .ref (b + v0))] [.ref (b + v0), .int (S.1 v0 6)] (by decide +kernel) rfl rfl ?_
    refine jGetI C 15 (by decide +kernel : decode cX6_here 12 = .ok (.getfield 70, 3)) rfl t_v0 kX6 5 (by decide) rfl rfl (by decide) wd_280 ?_
    refine jIcmp_ge C 18 30 (by decide +kernel : decode cX6_here 15 = .ok (.if_icmp .ge 15, 3)) rfl rfl (fun c2 => ?_) (fun c2 => ?_)
    · have h := it1 h c2
      refine jB C [(.bipush 51, 2, 51)] 32 [(0, .ref (b + v0))] [.int 51] (by decide +kernel) rfl rfl ?_
      exact jRetI C (by decide +kernel : decode cX6_here 32 = .ok (.ireturn, 1)) (Nat.le_refl _) (Nat.le_refl _) ⟨rfl, h⟩
    · have h := it2 h c2
      refine jB C [(.aload_n 0, 1, 0)] 19 [(0, .ref (b + v0))] [.ref (b + v0)] (by decide +kernel) rfl rfl ?_
      obtain ⟨a3, e_a3, h⟩ := h
      refine jGetR C 22 (by decide +kernel : decode cX6_here 19 = .ok (.getfield 15, 3)) rfl t_v0 kX6 2 (by decide) rfl rfl (by decide) wd_277 e_a3 rfl (fun t_a3 => ?_)
      refine jB C [(.aload_n 0, 1, 0)] 23 [(0, .ref (b + v0))] [.ref (b + v0), .ref (b + a3)] (by decide +kernel) rfl rfl ?_
      refine jGetI C 26 (by decide +kernel : decode cX6_here 23 = .ok (.getfield 51, 3)) rfl t_v0 kX6 6 (by decide) rfl rfl (by decide) wd_281 ?_
      obtain ⟨y4, h⟩ := h
      refine jIald C 27 (by decide +kernel : decode cX6_here 26 = .ok (.iaload, 1)) rfl t_a3 y4 ?_
      refine jGoto C 32 (by decide +kernel : decode cX6_here 27 = .ok (.goto 5, 3)) rfl ?_
      exact jRetI C (by decide +kernel : decode cX6_here 32 = .ok (.ireturn, 1)) (Nat.le_refl _) (Nat.le_refl _) ⟨rfl, h⟩
theorem ok_X6_here {G : Gm} {v0 : Nat} {S : St} {Q : Int32 → St → Prop}  (t_v0 : ok G 5 v0) (h : f_X6_here G v0 Q S) : MT yX6_here cX6_here 1 (some .int) rm_X6_here 0 0 (fun b => [.ref (b + v0)]) G S (QI (fun r G1 S1 => G1 = G ∧ Q r S1)) := MT.ofJ (by decide +kernel) (fun b => [(0, .ref (b + v0))]) (fun b => rfl) (fun b => Nat.le_of_ble_eq_true rfl) (fun l b D cy p e s m below meth c C hE hn => j_X6_here C hE t_v0 h)
theorem hd_X6_here : yX6_here.cls ≠ "java/lang/invoke/MethodHandle" ∧ yX6_here.cls ≠ "java/lang/invoke/VarHandle" ∧ (parseMethodDescriptor yX6_here.desc).map (fun d => d.parameters.length) = some 0 := by decide +kernel
abbrev rm_X6_fail : Room := { frames := 0, cells := 0, slots := 0, locals := 0 }
set_option maxHeartbeats 4000000 in
set_option maxRecDepth 100000 in
theorem j_X6_fail_38 {p : Program} {l : Launch} {e : Env} {s : State} {m : MethodId} {args : Array Value} {below : List Frame} {meth : Method} {c : Code} {b : Nat} {D : va_G} {cy : Nat → ClassId} {G : Gm} {v0 : Nat} {S : St} {Q : St → Prop} (C : CX p s m args meth c b D cy cX6_fail RX6 1 none) (hE : s.heap.size + 0 ≤ b + G.2.2) (t_v0 : ok G 5 v0) (h : f_X6_fail_38 G v0 Q S) : J p l e rm_X6_fail s m args below meth c b D cy 1 (zV b D cy below args s G Q) 0 0 G S 38 [(0, .ref (b + v0))] [] := by
  unfold f_X6_fail_38 at h
  refine jB C [(.aload_n 0, 1, 0), (.aload_n 0, 1, 0)] 40 [(0, .ref (b + v0))] [.ref (b + v0), .ref (b + v0)] (by decide +kernel) rfl rfl ?_
  refine jGetI C 43 (by decide +kernel : decode cX6_fail 40 = .ok (.getfield 70, 3)) rfl t_v0 kX6 5 (by decide) rfl rfl (by decide) wd_280 ?_
  refine jPutI C 46 (by decide +kernel : decode cX6_fail 43 = .ok (.putfield 51, 3)) rfl hE t_v0 kX6 6 (by decide) rfl rfl (by decide) rfl wd_281 rfl rfl rfl ?_
  refine jTopS (fun S1 e_S1 => ?_)
  have h := h S1 e_S1
  exact jRetV C (by decide +kernel : decode cX6_fail 46 = .ok (.return_, 1)) (Nat.le_refl _) (Nat.le_refl _) ⟨rfl, h⟩
set_option maxHeartbeats 4000000 in
set_option maxRecDepth 100000 in
theorem j_X6_fail {p : Program} {l : Launch} {e : Env} {s : State} {m : MethodId} {args : Array Value} {below : List Frame} {meth : Method} {c : Code} {b : Nat} {D : va_G} {cy : Nat → ClassId} {G : Gm} {v0 : Nat} {S : St} {Q : St → Prop} (C : CX p s m args meth c b D cy cX6_fail RX6 1 none) (hE : s.heap.size + 0 ≤ b + G.2.2) (t_v0 : ok G 5 v0) (h : f_X6_fail G v0 Q S) : J p l e rm_X6_fail s m args below meth c b D cy 1 (zV b D cy below args s G Q) 0 0 G S 0 [(0, .ref (b + v0))] [] := by
  unfold f_X6_fail at h
  refine jB C [(.aload_n 0, 1, 0)] 1 [(0, .ref (b + v0))] [.ref (b + v0)] (by decide +kernel) rfl rfl ?_
  refine jGetI C 4 (by decide +kernel : decode cX6_fail 1 = .ok (.getfield 24, 3)) rfl t_v0 kX6 9 (by decide) rfl rfl (by decide) wd_284 ?_
  refine jB C [(.iconst (-1), 1, (-1))] 5 [(0, .ref (b + v0))] [.int (-1), .int (S.1 v0 9)] (by decide +kernel) rfl rfl ?_
  refine jIcmp_ne C 8 38 (by decide +kernel : decode cX6_fail 5 = .ok (.if_icmp .ne 33, 3)) rfl rfl (fun c1 => ?_) (fun c1 => ?_)
  · have h := it2 h c1
    refine jSub [0] rfl ?_
    exact j_X6_fail_38 C hE t_v0 h
  · have h := it1 h c1
    refine jB C [(.aload_n 0, 1, 0)] 9 [(0, .ref (b + v0))] [.ref (b + v0)] (by decide +kernel) rfl rfl ?_
    refine jGetI C 12 (by decide +kernel : decode cX6_fail 9 = .ok (.getfield 51, 3)) rfl t_v0 kX6 6 (by decide) rfl rfl (by decide) wd_281 ?_
    refine jIf_lt C 15 38 (by decide +kernel : decode cX6_fail 12 = .ok (.ifCond .lt 26, 3)) rfl rfl (fun c2 => ?_) (fun c2 => ?_)
    · have h := it1 h c2
      refine jSub [0] rfl ?_
      exact j_X6_fail_38 C hE t_v0 h
    · have h := it2 h c2
      refine jB C [(.aload_n 0, 1, 0)] 16 [(0, .ref (b + v0))] [.ref (b + v0)] (by decide +kernel) rfl rfl ?_
      refine jGetI C 19 (by decide +kernel : decode cX6_fail 16 = .ok (.getfield 51, 3)) rfl t_v0 kX6 6 (by decide) rfl rfl (by decide) wd_281 ?_
      refine jB C [(.sipush 400, 3, 400)] 22 [(0, .ref (b + v0))] [.int 400, .int (S.1 v0 6)] (by decide +kernel) rfl rfl ?_
      refine jIcmp_gt C 25 38 (by decide +kernel : decode cX6_fail 22 = .ok (.if_icmp .gt 16, 3)) rfl rfl (fun c3 => ?_) (fun c3 => ?_)
      · have h := it1 h c3
        refine jSub [0] rfl ?_
        exact j_X6_fail_38 C hE t_v0 h
      · have h := it2 h c3
        refine jB C [(.aload_n 0, 1, 0), (.aload_n 0, 1, 0)] 27 [(0, .ref (b + v0))] [.ref (b + v0), .ref (b + v0)] (by decide +kernel) rfl rfl ?_
        obtain ⟨a4, e_a4, h⟩ := h
        refine jGetR C 30 (by decide +kernel : decode cX6_fail 27 = .ok (.getfield 18, 3)) rfl t_v0 kX6 3 (by decide) rfl rfl (by decide) wd_278 e_a4 rfl (fun t_a4 => ?_)
        refine jB C [(.aload_n 0, 1, 0)] 31 [(0, .ref (b + v0))] [.ref (b + v0), .ref (b + a4), .ref (b + v0)] (by decide +kernel) rfl rfl ?_
        refine jGetI C 34 (by decide +kernel : decode cX6_fail 31 = .ok (.getfield 51, 3)) rfl t_v0 kX6 6 (by decide) rfl rfl (by decide) wd_281 ?_
        obtain ⟨y5, h⟩ := h
        refine jIald C 35 (by decide +kernel : decode cX6_fail 34 = .ok (.iaload, 1)) rfl t_a4 y5 ?_
        refine jPutI C 38 (by decide +kernel : decode cX6_fail 35 = .ok (.putfield 24, 3)) rfl hE t_v0 kX6 9 (by decide) rfl rfl (by decide) rfl wd_284 rfl rfl rfl ?_
        refine jTopS (fun S6 e_S6 => ?_)
        have h := h S6 e_S6
        refine jSub [0] rfl ?_
        exact j_X6_fail_38 C hE t_v0 h
theorem ok_X6_fail {G : Gm} {v0 : Nat} {S : St} {Q : St → Prop}  (t_v0 : ok G 5 v0) (h : f_X6_fail G v0 Q S) : MT yX6_fail cX6_fail 1 none rm_X6_fail 0 0 (fun b => [.ref (b + v0)]) G S (QV (fun G1 S1 => G1 = G ∧ Q S1)) := MT.ofJ (by decide +kernel) (fun b => [(0, .ref (b + v0))]) (fun b => rfl) (fun b => Nat.le_of_ble_eq_true rfl) (fun l b D cy p e s m below meth c C hE hn => j_X6_fail C hE t_v0 h)
theorem hd_X6_fail : yX6_fail.cls ≠ "java/lang/invoke/MethodHandle" ∧ yX6_fail.cls ≠ "java/lang/invoke/VarHandle" ∧ (parseMethodDescriptor yX6_fail.desc).map (fun d => d.parameters.length) = some 0 := by decide +kernel
abbrev rm_X8_mark : Room := { frames := 0, cells := 0, slots := 0, locals := 0 }
set_option maxHeartbeats 4000000 in
set_option maxRecDepth 100000 in
theorem j_X8_mark {p : Program} {l : Launch} {e : Env} {s : State} {m : MethodId} {args : Array Value} {below : List Frame} {meth : Method} {c : Code} {b : Nat} {D : va_G} {cy : Nat → ClassId} {G : Gm} {v0 : Nat} {v1 : Int32} {S : St} {Q : St → Prop} (C : CX p s m args meth c b D cy cX8_mark RX8 3 none) (hE : s.heap.size + 0 ≤ b + G.2.2) (t_v0 : ok G 7 v0) (h : f_X8_mark G v0 v1 Q S) : J p l e rm_X8_mark s m args below meth c b D cy 3 (zV b D cy below args s G Q) 0 0 G S 0 [(0, .ref (b + v0)), (1, .int v1)] [] := by
  unfold f_X8_mark at h
  refine jB C [(.aload_n 0, 1, 0)] 1 [(0, .ref (b + v0)), (1, .int v1)] [.ref (b + v0)] (by decide +kernel) rfl rfl ?_
  refine jGetI C 4 (by decide +kernel : decode cX8_mark 1 = .ok (.getfield 31, 3)) rfl t_v0 kX8 5 (by decide) rfl rfl (by decide) wd_255 ?_
  refine jB C [(.iconst 1, 1, 1), (.isub, 1, 0), (.iconst 4, 1, 4), (.imul, 1, 0), (.iload_n 1, 1, 0), (.iadd, 1, 0)] 10 [(0, .ref (b + v0)), (1, .int v1)] [.int ((((S.1 v0 5) - 1) * 4) + v1)] (by decide +kernel) rfl rfl ?_
  refine jTopI (fun x1 e_x1 => ?_)
  have h := h x1 e_x1
  refine jB C [(.istore_n 2, 1, 0), (.iload_n 2, 1, 0)] 12 [(2, .int x1), (0, .ref (b + v0)), (1, .int v1)] [.int x1] (by decide +kernel) rfl rfl ?_
  refine jIf_lt C 15 34 (by decide +kernel : decode cX8_mark 12 = .ok (.ifCond .lt 22, 3)) rfl rfl (fun c2 => ?_) (fun c2 => ?_)
  · have h := it1 h c2
    exact jRetV C (by decide +kernel : decode cX8_mark 34 = .ok (.return_, 1)) (Nat.le_refl _) (Nat.le_refl _) ⟨rfl, h⟩
  · have h := it2 h c2
    refine jB C [(.iload_n 2, 1, 0), (.aload_n 0, 1, 0)] 17 [(2, .int x1), (0, .ref (b + v0)), (1, .int v1)] [.ref (b + v0), .int x1] (by decide +kernel) rfl rfl ?_
    obtain ⟨a3, e_a3, h⟩ := h
    refine jGetR C 20 (by decide +kernel : decode cX8_mark 17 = .ok (.getfield 25, 3)) rfl t_v0 kX8 3 (by decide) rfl rfl (by decide) wd_252 e_a3 rfl (fun t_a3 => ?_)
    refine jAlen11 C 21 (by decide +kernel : decode cX8_mark 20 = .ok (.arraylength, 1)) rfl t_a3 ?_
    refine jIcmp_ge C 24 34 (by decide +kernel : decode cX8_mark 21 = .ok (.if_icmp .ge 13, 3)) rfl rfl (fun c4 => ?_) (fun c4 => ?_)
    · have h := it1 h c4
      exact jRetV C (by decide +kernel : decode cX8_mark 34 = .ok (.return_, 1)) (Nat.le_refl _) (Nat.le_refl _) ⟨rfl, h⟩
    · have h := it2 h c4
      refine jB C [(.aload_n 0, 1, 0)] 25 [(2, .int x1), (0, .ref (b + v0)), (1, .int v1)] [.ref (b + v0)] (by decide +kernel) rfl rfl ?_
      obtain ⟨a5, e_a5, h⟩ := h
      refine jGetR C 28 (by decide +kernel : decode cX8_mark 25 = .ok (.getfield 25, 3)) rfl t_v0 kX8 3 (by decide) rfl rfl (by decide) wd_252 e_a5 rfl (fun t_a5 => ?_)
      refine jB C [(.iload_n 2, 1, 0), (.aload_n 0, 1, 0)] 30 [(2, .int x1), (0, .ref (b + v0)), (1, .int v1)] [.ref (b + v0), .int x1, .ref (b + a5)] (by decide +kernel) rfl rfl ?_
      refine jGetI C 33 (by decide +kernel : decode cX8_mark 30 = .ok (.getfield 35, 3)) rfl t_v0 kX8 6 (by decide) rfl rfl (by decide) wd_258 ?_
      obtain ⟨y6, h⟩ := h
      refine jIast C 34 (by decide +kernel : decode cX8_mark 33 = .ok (.iastore, 1)) rfl hE t_a5 y6 ?_
      refine jTopS (fun S7 e_S7 => ?_)
      have h := h S7 e_S7
      exact jRetV C (by decide +kernel : decode cX8_mark 34 = .ok (.return_, 1)) (Nat.le_refl _) (Nat.le_refl _) ⟨rfl, h⟩
theorem ok_X8_mark {G : Gm} {v0 : Nat} {v1 : Int32} {S : St} {Q : St → Prop}  (t_v0 : ok G 7 v0) (h : f_X8_mark G v0 v1 Q S) : MT yX8_mark cX8_mark 3 none rm_X8_mark 0 0 (fun b => [.ref (b + v0), .int v1]) G S (QV (fun G1 S1 => G1 = G ∧ Q S1)) := MT.ofJ (by decide +kernel) (fun b => [(0, .ref (b + v0)), (1, .int v1)]) (fun b => rfl) (fun b => Nat.le_of_ble_eq_true rfl) (fun l b D cy p e s m below meth c C hE hn => j_X8_mark C hE t_v0 h)
theorem hd_X8_mark : yX8_mark.cls ≠ "java/lang/invoke/MethodHandle" ∧ yX8_mark.cls ≠ "java/lang/invoke/VarHandle" ∧ (parseMethodDescriptor yX8_mark.desc).map (fun d => d.parameters.length) = some 1 := by decide +kernel
abbrev rm_X8_open : Room := { frames := 1, cells := 0, slots := 0, locals := 22 }
set_option maxHeartbeats 4000000 in
set_option maxRecDepth 100000 in
theorem j_X8_open {p : Program} {l : Launch} {e : Env} {s : State} {m : MethodId} {args : Array Value} {below : List Frame} {meth : Method} {c : Code} {b : Nat} {D : va_G} {cy : Nat → ClassId} {G : Gm} {v0 : Nat} {v1 : Int32} {S : St} {Q : St → Prop} (C : CX p s m args meth c b D cy cX8_open RX8 2 none) (hE : s.heap.size + 0 ≤ b + G.2.2) (t_v0 : ok G 7 v0) (h : f_X8_open G v0 v1 Q S) : J p l e rm_X8_open s m args below meth c b D cy 2 (zV b D cy below args s G Q) 0 0 G S 0 [(0, .ref (b + v0)), (1, .int v1)] [] := by
  unfold f_X8_open at h
  refine jB C [(.aload_n 0, 1, 0)] 1 [(0, .ref (b + v0)), (1, .int v1)] [.ref (b + v0)] (by decide +kernel) rfl rfl ?_
  refine jGetI C 4 (by decide +kernel : decode cX8_open 1 = .ok (.getfield 31, 3)) rfl t_v0 kX8 5 (by decide) rfl rfl (by decide) wd_255 ?_
  refine jIf_lt C 7 64 (by decide +kernel : decode cX8_open 4 = .ok (.ifCond .lt 60, 3)) rfl rfl (fun c1 => ?_) (fun c1 => ?_)
  · have h := it1 h c1
    exact jRetV C (by decide +kernel : decode cX8_open 64 = .ok (.return_, 1)) (Nat.le_refl _) (Nat.le_refl _) ⟨rfl, h⟩
  · have h := it2 h c1
    refine jB C [(.aload_n 0, 1, 0)] 8 [(0, .ref (b + v0)), (1, .int v1)] [.ref (b + v0)] (by decide +kernel) rfl rfl ?_
    refine jGetI C 11 (by decide +kernel : decode cX8_open 8 = .ok (.getfield 31, 3)) rfl t_v0 kX8 5 (by decide) rfl rfl (by decide) wd_255 ?_
    refine jB C [(.aload_n 0, 1, 0)] 12 [(0, .ref (b + v0)), (1, .int v1)] [.ref (b + v0), .int (S.1 v0 5)] (by decide +kernel) rfl rfl ?_
    obtain ⟨a2, e_a2, h⟩ := h
    refine jGetR C 15 (by decide +kernel : decode cX8_open 12 = .ok (.getfield 13, 3)) rfl t_v0 kX8 0 (by decide) rfl rfl (by decide) wd_249 e_a2 rfl (fun t_a2 => ?_)
    refine jAlen11 C 16 (by decide +kernel : decode cX8_open 15 = .ok (.arraylength, 1)) rfl t_a2 ?_
    refine jIcmp_ge C 19 64 (by decide +kernel : decode cX8_open 16 = .ok (.if_icmp .ge 48, 3)) rfl rfl (fun c3 => ?_) (fun c3 => ?_)
    · have h := it1 h c3
      exact jRetV C (by decide +kernel : decode cX8_open 64 = .ok (.return_, 1)) (Nat.le_refl _) (Nat.le_refl _) ⟨rfl, h⟩
    · have h := it2 h c3
      refine jB C [(.aload_n 0, 1, 0)] 20 [(0, .ref (b + v0)), (1, .int v1)] [.ref (b + v0)] (by decide +kernel) rfl rfl ?_
      obtain ⟨a4, e_a4, h⟩ := h
      refine jGetR C 23 (by decide +kernel : decode cX8_open 20 = .ok (.getfield 13, 3)) rfl t_v0 kX8 0 (by decide) rfl rfl (by decide) wd_249 e_a4 rfl (fun t_a4 => ?_)
      refine jB C [(.aload_n 0, 1, 0)] 24 [(0, .ref (b + v0)), (1, .int v1)] [.ref (b + v0), .ref (b + a4)] (by decide +kernel) rfl rfl ?_
      refine jGetI C 27 (by decide +kernel : decode cX8_open 24 = .ok (.getfield 31, 3)) rfl t_v0 kX8 5 (by decide) rfl rfl (by decide) wd_255 ?_
      refine jB C [(.iload_n 1, 1, 0)] 28 [(0, .ref (b + v0)), (1, .int v1)] [.int v1, .int (S.1 v0 5), .ref (b + a4)] (by decide +kernel) rfl rfl ?_
      obtain ⟨y5, h⟩ := h
      refine jIast C 29 (by decide +kernel : decode cX8_open 28 = .ok (.iastore, 1)) rfl hE t_a4 y5 ?_
      refine jTopS (fun S6 e_S6 => ?_)
      have h := h S6 e_S6
      refine jB C [(.aload_n 0, 1, 0)] 30 [(0, .ref (b + v0)), (1, .int v1)] [.ref (b + v0)] (by decide +kernel) rfl rfl ?_
      obtain ⟨a7, e_a7, h⟩ := h
      refine jGetR C 33 (by decide +kernel : decode cX8_open 30 = .ok (.getfield 19, 3)) rfl t_v0 kX8 1 (by decide) rfl rfl (by decide) wd_250 e_a7 rfl (fun t_a7 => ?_)
      refine jB C [(.aload_n 0, 1, 0)] 34 [(0, .ref (b + v0)), (1, .int v1)] [.ref (b + v0), .ref (b + a7)] (by decide +kernel) rfl rfl ?_
      refine jGetI C 37 (by decide +kernel : decode cX8_open 34 = .ok (.getfield 31, 3)) rfl t_v0 kX8 5 (by decide) rfl rfl (by decide) wd_255 ?_
      refine jB C [(.iconst 1, 1, 1)] 38 [(0, .ref (b + v0)), (1, .int v1)] [.int 1, .int (S6.1 v0 5), .ref (b + a7)] (by decide +kernel) rfl rfl ?_
      obtain ⟨y8, h⟩ := h
      refine jIast C 39 (by decide +kernel : decode cX8_open 38 = .ok (.iastore, 1)) rfl hE t_a7 y8 ?_
      refine jTopS (fun S9 e_S9 => ?_)
      have h := h S9 e_S9
      refine jB C [(.aload_n 0, 1, 0)] 40 [(0, .ref (b + v0)), (1, .int v1)] [.ref (b + v0)] (by decide +kernel) rfl rfl ?_
      obtain ⟨a10, e_a10, h⟩ := h
      refine jGetR C 43 (by decide +kernel : decode cX8_open 40 = .ok (.getfield 22, 3)) rfl t_v0 kX8 2 (by decide) rfl rfl (by decide) wd_251 e_a10 rfl (fun t_a10 => ?_)
      refine jB C [(.aload_n 0, 1, 0)] 44 [(0, .ref (b + v0)), (1, .int v1)] [.ref (b + v0), .ref (b + a10)] (by decide +kernel) rfl rfl ?_
      refine jGetI C 47 (by decide +kernel : decode cX8_open 44 = .ok (.getfield 31, 3)) rfl t_v0 kX8 5 (by decide) rfl rfl (by decide) wd_255 ?_
      refine jB C [(.iconst 0, 1, 0)] 48 [(0, .ref (b + v0)), (1, .int v1)] [.int 0, .int (S9.1 v0 5), .ref (b + a10)] (by decide +kernel) rfl rfl ?_
      obtain ⟨y11, h⟩ := h
      refine jIast C 49 (by decide +kernel : decode cX8_open 48 = .ok (.iastore, 1)) rfl hE t_a10 y11 ?_
      refine jTopS (fun S12 e_S12 => ?_)
      have h := h S12 e_S12
      refine jB C [(.aload_n 0, 1, 0), (.dup, 1, 0)] 51 [(0, .ref (b + v0)), (1, .int v1)] [.ref (b + v0), .ref (b + v0)] (by decide +kernel) rfl rfl ?_
      refine jGetI C 54 (by decide +kernel : decode cX8_open 51 = .ok (.getfield 31, 3)) rfl t_v0 kX8 5 (by decide) rfl rfl (by decide) wd_255 ?_
      refine jB C [(.iconst 1, 1, 1), (.iadd, 1, 0)] 56 [(0, .ref (b + v0)), (1, .int v1)] [.int ((S12.1 v0 5) + 1), .ref (b + v0)] (by decide +kernel) rfl rfl ?_
      refine jPutI C 59 (by decide +kernel : decode cX8_open 56 = .ok (.putfield 31, 3)) rfl hE t_v0 kX8 5 (by decide) rfl rfl (by decide) rfl wd_255 rfl rfl rfl ?_
      refine jTopS (fun S13 e_S13 => ?_)
      have h := h S13 e_S13
      refine jB C [(.aload_n 0, 1, 0), (.iconst 0, 1, 0)] 61 [(0, .ref (b + v0)), (1, .int v1)] [.int 0, .ref (b + v0)] (by decide +kernel) rfl rfl ?_
      refine jcV_V C 64 (rest := []) (ok_X8_mark t_v0 h) (by decide +kernel : decode cX8_open 61 = .ok (.invokevirtual 47, 3)) rfl wd_688 wd_690 wp_45 wd_10 wd_691 ⟨rfl, rfl⟩ hd_X8_mark ⟨Nat.le_of_ble_eq_true rfl, Nat.le_of_ble_eq_true rfl⟩ t_v0 kX8 (by decide) rfl rfl rfl (Nat.le_of_ble_eq_true rfl) ⟨Nat.zero_le _, Nat.zero_le _⟩ (fun S14 h => ?_)
      exact jRetV C (by decide +kernel : decode cX8_open 64 = .ok (.return_, 1)) (Nat.le_refl _) (Nat.le_refl _) ⟨rfl, h⟩
theorem ok_X8_open {G : Gm} {v0 : Nat} {v1 : Int32} {S : St} {Q : St → Prop}  (t_v0 : ok G 7 v0) (h : f_X8_open G v0 v1 Q S) : MT yX8_open cX8_open 2 none rm_X8_open 0 0 (fun b => [.ref (b + v0), .int v1]) G S (QV (fun G1 S1 => G1 = G ∧ Q S1)) := MT.ofJ (by decide +kernel) (fun b => [(0, .ref (b + v0)), (1, .int v1)]) (fun b => rfl) (fun b => Nat.le_of_ble_eq_true rfl) (fun l b D cy p e s m below meth c C hE hn => j_X8_open C hE t_v0 h)
theorem hd_X8_open : yX8_open.cls ≠ "java/lang/invoke/MethodHandle" ∧ yX8_open.cls ≠ "java/lang/invoke/VarHandle" ∧ (parseMethodDescriptor yX8_open.desc).map (fun d => d.parameters.length) = some 1 := by decide +kernel
abbrev rm_X6_numberHere : Room := { frames := 0, cells := 0, slots := 0, locals := 0 }
set_option maxHeartbeats 4000000 in
set_option maxRecDepth 100000 in
theorem j_X6_numberHere {p : Program} {l : Launch} {e : Env} {s : State} {m : MethodId} {args : Array Value} {below : List Frame} {meth : Method} {c : Code} {b : Nat} {D : va_G} {cy : Nat → ClassId} {G : Gm} {v0 : Nat} {S : St} {Q : Int32 → St → Prop} (C : CX p s m args meth c b D cy cX6_numberHere RX6 1 (some .int)) (hE : s.heap.size + 0 ≤ b + G.2.2) (t_v0 : ok G 5 v0) (h : f_X6_numberHere G v0 Q S) : J p l e rm_X6_numberHere s m args below meth c b D cy 1 (zI b D cy below args s G Q) 0 0 G S 0 [(0, .ref (b + v0))] [] := by
  unfold f_X6_numberHere at h
  refine jB C [(.aload_n 0, 1, 0)] 1 [(0, .ref (b + v0))] [.ref (b + v0)] (by decide +kernel) rfl rfl ?_
  refine jGetI C 4 (by decide +kernel : decode cX6_numberHere 1 = .ok (.getfield 51, 3)) rfl t_v0 kX6 6 (by decide) rfl rfl (by decide) wd_281 ?_
  refine jIf_lt C 7 44 (by decide +kernel : decode cX6_numberHere 4 = .ok (.ifCond .lt 40, 3)) rfl rfl (fun c1 => ?_) (fun c1 => ?_)
  · have h := it1 h c1
    refine jB C [(.iconst (-1), 1, (-1))] 45 [(0, .ref (b + v0))] [.int (-1)] (by decide +kernel) rfl rfl ?_
    exact jRetI C (by decide +kernel : decode cX6_numberHere 45 = .ok (.ireturn, 1)) (Nat.le_refl _) (Nat.le_refl _) ⟨rfl, h⟩
  · have h := it2 h c1
    refine jB C [(.aload_n 0, 1, 0)] 8 [(0, .ref (b + v0))] [.ref (b + v0)] (by decide +kernel) rfl rfl ?_
    refine jGetI C 11 (by decide +kernel : decode cX6_numberHere 8 = .ok (.getfield 51, 3)) rfl t_v0 kX6 6 (by decide) rfl rfl (by decide) wd_281 ?_
    refine jB C [(.aload_n 0, 1, 0)] 12 [(0, .ref (b + v0))] [.ref (b + v0), .int (S.1 v0 6)] (by decide +kernel) rfl rfl ?_
    refine jGetI C 15 (by decide +kernel : decode cX6_numberHere 12 = .ok (.getfield 70, 3)) rfl t_v0 kX6 5 (by decide) rfl rfl (by decide) wd_280 ?_
    refine jIcmp_ge C 18 44 (by decide +kernel : decode cX6_numberHere 15 = .ok (.if_icmp .ge 29, 3)) rfl rfl (fun c2 => ?_) (fun c2 => ?_)
    · have h := it1 h c2
      refine jB C [(.iconst (-1), 1, (-1))] 45 [(0, .ref (b + v0))] [.int (-1)] (by decide +kernel) rfl rfl ?_
      exact jRetI C (by decide +kernel : decode cX6_numberHere 45 = .ok (.ireturn, 1)) (Nat.le_refl _) (Nat.le_refl _) ⟨rfl, h⟩
    · have h := it2 h c2
      refine jB C [(.aload_n 0, 1, 0)] 19 [(0, .ref (b + v0))] [.ref (b + v0)] (by decide +kernel) rfl rfl ?_
      obtain ⟨a3, e_a3, h⟩ := h
      refine jGetR C 22 (by decide +kernel : decode cX6_numberHere 19 = .ok (.getfield 15, 3)) rfl t_v0 kX6 2 (by decide) rfl rfl (by decide) wd_277 e_a3 rfl (fun t_a3 => ?_)
      refine jB C [(.aload_n 0, 1, 0)] 23 [(0, .ref (b + v0))] [.ref (b + v0), .ref (b + a3)] (by decide +kernel) rfl rfl ?_
      refine jGetI C 26 (by decide +kernel : decode cX6_numberHere 23 = .ok (.getfield 51, 3)) rfl t_v0 kX6 6 (by decide) rfl rfl (by decide) wd_281 ?_
      obtain ⟨y4, h⟩ := h
      refine jIald C 27 (by decide +kernel : decode cX6_numberHere 26 = .ok (.iaload, 1)) rfl t_a3 y4 ?_
      refine jB C [(.bipush 50, 2, 50)] 29 [(0, .ref (b + v0))] [.int 50, .int (S.1 a3 (S.1 v0 6).toNatClampNeg)] (by decide +kernel) rfl rfl ?_
      refine jIcmp_ne C 32 44 (by decide +kernel : decode cX6_numberHere 29 = .ok (.if_icmp .ne 15, 3)) rfl rfl (fun c5 => ?_) (fun c5 => ?_)
      · have h := it2 h c5
        refine jB C [(.iconst (-1), 1, (-1))] 45 [(0, .ref (b + v0))] [.int (-1)] (by decide +kernel) rfl rfl ?_
        exact jRetI C (by decide +kernel : decode cX6_numberHere 45 = .ok (.ireturn, 1)) (Nat.le_refl _) (Nat.le_refl _) ⟨rfl, h⟩
      · have h := it1 h c5
        refine jB C [(.aload_n 0, 1, 0)] 33 [(0, .ref (b + v0))] [.ref (b + v0)] (by decide +kernel) rfl rfl ?_
        obtain ⟨a6, e_a6, h⟩ := h
        refine jGetR C 36 (by decide +kernel : decode cX6_numberHere 33 = .ok (.getfield 21, 3)) rfl t_v0 kX6 4 (by decide) rfl rfl (by decide) wd_279 e_a6 rfl (fun t_a6 => ?_)
        refine jB C [(.aload_n 0, 1, 0)] 37 [(0, .ref (b + v0))] [.ref (b + v0), .ref (b + a6)] (by decide +kernel) rfl rfl ?_
        refine jGetI C 40 (by decide +kernel : decode cX6_numberHere 37 = .ok (.getfield 51, 3)) rfl t_v0 kX6 6 (by decide) rfl rfl (by decide) wd_281 ?_
        obtain ⟨y7, h⟩ := h
        refine jIald C 41 (by decide +kernel : decode cX6_numberHere 40 = .ok (.iaload, 1)) rfl t_a6 y7 ?_
        refine jGoto C 45 (by decide +kernel : decode cX6_numberHere 41 = .ok (.goto 4, 3)) rfl ?_
        exact jRetI C (by decide +kernel : decode cX6_numberHere 45 = .ok (.ireturn, 1)) (Nat.le_refl _) (Nat.le_refl _) ⟨rfl, h⟩
theorem ok_X6_numberHere {G : Gm} {v0 : Nat} {S : St} {Q : Int32 → St → Prop}  (t_v0 : ok G 5 v0) (h : f_X6_numberHere G v0 Q S) : MT yX6_numberHere cX6_numberHere 1 (some .int) rm_X6_numberHere 0 0 (fun b => [.ref (b + v0)]) G S (QI (fun r G1 S1 => G1 = G ∧ Q r S1)) := MT.ofJ (by decide +kernel) (fun b => [(0, .ref (b + v0))]) (fun b => rfl) (fun b => Nat.le_of_ble_eq_true rfl) (fun l b D cy p e s m below meth c C hE hn => j_X6_numberHere C hE t_v0 h)
theorem hd_X6_numberHere : yX6_numberHere.cls ≠ "java/lang/invoke/MethodHandle" ∧ yX6_numberHere.cls ≠ "java/lang/invoke/VarHandle" ∧ (parseMethodDescriptor yX6_numberHere.desc).map (fun d => d.parameters.length) = some 0 := by decide +kernel
