abbrev rm_X11_glass : Room := { frames := 2, cells := 0, slots := 0, locals := 47 }
set_option maxHeartbeats 4000000 in
set_option maxRecDepth 100000 in
theorem j_X11_glass {p : Program} {l : Launch} {e : Env} {s : State} {m : MethodId} {args : Array Value} {below : List Frame} {meth : Method} {c : Code} {b : Nat} {D : va_G} {cy : Nat → ClassId} {G : Gm} {v0 : Nat} {v1 : Int32} {v2 : Int32} {S : St} {Q : Int32 → St → Prop} (C : CX p s m args meth c b D cy cX11_glass RX11 3 (some .int)) (hE : s.heap.size + 0 ≤ b + G.2.2) (t_v0 : ok G 10 v0) (h : f_X11_glass G v0 v1 v2 Q S) : J p l e rm_X11_glass s m args below meth c b D cy 3 (zI b D cy below args s G Q) 0 0 G S 0 [(0, .ref (b + v0)), (1, .int v1), (2, .int v2)] [] := by
  unfold f_X11_glass at h
  refine jB C [(.aload_n 0, 1, 0), (.iconst 0, 1, 0)] 2 [(0, .ref (b + v0)), (1, .int v1), (2, .int v2)] [.int 0, .ref (b + v0)] (by decide +kernel) rfl rfl ?_
  refine jPutI C 5 (by decide +kernel : decode cX11_glass 2 = .ok (.putfield 165, 3)) rfl hE t_v0 kX11 0 (by decide) rfl rfl (by decide) rfl wd_1154 rfl rfl rfl ?_
  refine jTopS (fun S1 e_S1 => ?_)
  have h := h S1 e_S1
  refine jB C [(.iload_n 2, 1, 0)] 6 [(0, .ref (b + v0)), (1, .int v1), (2, .int v2)] [.int v2] (by decide +kernel) rfl rfl ?_
  refine jcS_I C 9 (rest := []) (ok_X11_isGlass h) (by decide +kernel : decode cX11_glass 6 = .ok (.invokestatic 235, 3)) rfl wd_1453 wd_1454 wd_12 wd_1455 ⟨rfl, rfl⟩ hd_X11_isGlass ⟨Nat.le_of_ble_eq_true rfl, Nat.le_of_ble_eq_true rfl⟩ rfl rfl (Nat.le_of_ble_eq_true rfl) ⟨Nat.zero_le _, Nat.zero_le _⟩ (fun r3 S2 h => ?_)
  refine jIf_ne C 12 18 (by decide +kernel : decode cX11_glass 9 = .ok (.ifCond .ne 9, 3)) rfl rfl (fun c4 => ?_) (fun c4 => ?_)
  · have h := it2 h c4
    refine jB C [(.aload_n 0, 1, 0), (.iload_n 1, 1, 0)] 20 [(0, .ref (b + v0)), (1, .int v1), (2, .int v2)] [.int v1, .ref (b + v0)] (by decide +kernel) rfl rfl ?_
    refine jcV_I C 23 (rest := []) (ok_X11_isPerson t_v0 h) (by decide +kernel : decode cX11_glass 20 = .ok (.invokevirtual 209, 3)) rfl wd_1376 wd_1378 wp_103 wd_12 wd_1379 ⟨rfl, rfl⟩ hd_X11_isPerson ⟨Nat.le_of_ble_eq_true rfl, Nat.le_of_ble_eq_true rfl⟩ t_v0 kX11 (by decide) rfl rfl rfl (Nat.le_of_ble_eq_true rfl) ⟨Nat.zero_le _, Nat.zero_le _⟩ (fun r6 S5 h => ?_)
    refine jIf_ne C 26 33 (by decide +kernel : decode cX11_glass 23 = .ok (.ifCond .ne 10, 3)) rfl rfl (fun c7 => ?_) (fun c7 => ?_)
    · have h := it2 h c7
      refine jB C [(.aload_n 0, 1, 0), (.iload_n 1, 1, 0), (.iload_n 2, 1, 0)] 36 [(0, .ref (b + v0)), (1, .int v1), (2, .int v2)] [.int v2, .int v1, .ref (b + v0)] (by decide +kernel) rfl rfl ?_
      refine jcV_V C 39 (rest := []) (ok_X11_putGlass t_v0 h) (by decide +kernel : decode cX11_glass 36 = .ok (.invokevirtual 238, 3)) rfl wd_1457 wd_1459 wp_116 wd_12 wd_1460 ⟨rfl, rfl⟩ hd_X11_putGlass ⟨Nat.le_of_ble_eq_true rfl, Nat.le_of_ble_eq_true rfl⟩ t_v0 kX11 (by decide) rfl rfl rfl (Nat.le_of_ble_eq_true rfl) ⟨Nat.zero_le _, Nat.zero_le _⟩ (fun S8 h => ?_)
      refine jB C [(.aload_n 0, 1, 0), (.aload_n 0, 1, 0), (.iload_n 1, 1, 0)] 42 [(0, .ref (b + v0)), (1, .int v1), (2, .int v2)] [.int v1, .ref (b + v0), .ref (b + v0)] (by decide +kernel) rfl rfl ?_
      refine jcV_I C 45 (rest := [.ref (b + v0)]) (ok_X11_lensesOf t_v0 h) (by decide +kernel : decode cX11_glass 42 = .ok (.invokevirtual 196, 3)) rfl wd_1382 wd_1384 wp_104 wd_12 wd_1385 ⟨rfl, rfl⟩ hd_X11_lensesOf ⟨Nat.le_of_ble_eq_true rfl, Nat.le_of_ble_eq_true rfl⟩ t_v0 kX11 (by decide) rfl rfl rfl (Nat.le_of_ble_eq_true rfl) ⟨Nat.zero_le _, Nat.zero_le _⟩ (fun r10 S9 h => ?_)
      refine jcV_I C 48 (rest := []) (ok_X11_settled t_v0 h) (by decide +kernel : decode cX11_glass 45 = .ok (.invokevirtual 189, 3)) rfl wd_1359 wd_1361 wp_101 wd_12 wd_1362 ⟨rfl, rfl⟩ hd_X11_settled ⟨Nat.le_of_ble_eq_true rfl, Nat.le_of_ble_eq_true rfl⟩ t_v0 kX11 (by decide) rfl rfl rfl (Nat.le_of_ble_eq_true rfl) ⟨Nat.zero_le _, Nat.zero_le _⟩ (fun r12 S11 h => ?_)
      exact jRetI C (by decide +kernel : decode cX11_glass 48 = .ok (.ireturn, 1)) (Nat.le_refl _) (Nat.le_refl _) ⟨rfl, h⟩
    · have h := it1 h c7
      refine jB C [(.aload_n 0, 1, 0), (.bipush (-2), 2, (-2))] 29 [(0, .ref (b + v0)), (1, .int v1), (2, .int v2)] [.int (-2), .ref (b + v0)] (by decide +kernel) rfl rfl ?_
      refine jcV_I C 32 (rest := []) (ok_X11_tell t_v0 h) (by decide +kernel : decode cX11_glass 29 = .ok (.invokevirtual 174, 3)) rfl wd_1340 wd_1342 wp_99 wd_12 wd_1343 ⟨rfl, rfl⟩ hd_X11_tell ⟨Nat.le_of_ble_eq_true rfl, Nat.le_of_ble_eq_true rfl⟩ t_v0 kX11 (by decide) rfl rfl rfl (Nat.le_of_ble_eq_true rfl) ⟨Nat.zero_le _, Nat.zero_le _⟩ (fun r14 S13 h => ?_)
      exact jRetI C (by decide +kernel : decode cX11_glass 32 = .ok (.ireturn, 1)) (Nat.le_refl _) (Nat.le_refl _) ⟨rfl, h⟩
  · have h := it1 h c4
    refine jB C [(.aload_n 0, 1, 0), (.iconst (-1), 1, (-1))] 14 [(0, .ref (b + v0)), (1, .int v1), (2, .int v2)] [.int (-1), .ref (b + v0)] (by decide +kernel) rfl rfl ?_
    refine jcV_I C 17 (rest := []) (ok_X11_tell t_v0 h) (by decide +kernel : decode cX11_glass 14 = .ok (.invokevirtual 174, 3)) rfl wd_1340 wd_1342 wp_99 wd_12 wd_1343 ⟨rfl, rfl⟩ hd_X11_tell ⟨Nat.le_of_ble_eq_true rfl, Nat.le_of_ble_eq_true rfl⟩ t_v0 kX11 (by decide) rfl rfl rfl (Nat.le_of_ble_eq_true rfl) ⟨Nat.zero_le _, Nat.zero_le _⟩ (fun r16 S15 h => ?_)
    exact jRetI C (by decide +kernel : decode cX11_glass 17 = .ok (.ireturn, 1)) (Nat.le_refl _) (Nat.le_refl _) ⟨rfl, h⟩
theorem ok_X11_glass {G : Gm} {v0 : Nat} {v1 : Int32} {v2 : Int32} {S : St} {Q : Int32 → St → Prop}  (t_v0 : ok G 10 v0) (h : f_X11_glass G v0 v1 v2 Q S) : MT yX11_glass cX11_glass 3 (some .int) rm_X11_glass 0 0 (fun b => [.ref (b + v0), .int v1, .int v2]) G S (QI (fun r G1 S1 => G1 = G ∧ Q r S1)) := MT.ofJ (by decide +kernel) (fun b => [(0, .ref (b + v0)), (1, .int v1), (2, .int v2)]) (fun b => rfl) (fun b => Nat.le_of_ble_eq_true rfl) (fun l b D cy p e s m below meth c C hE hn => j_X11_glass C hE t_v0 h)
theorem hd_X11_glass : yX11_glass.cls ≠ "java/lang/invoke/MethodHandle" ∧ yX11_glass.cls ≠ "java/lang/invoke/VarHandle" ∧ (parseMethodDescriptor yX11_glass.desc).map (fun d => d.parameters.length) = some 2 := by decide +kernel
abbrev rm_X11_grind : Room := { frames := 10, cells := 0, slots := 0, locals := 233 }
set_option maxHeartbeats 4000000 in
set_option maxRecDepth 100000 in
theorem j_X11_grind {p : Program} {l : Launch} {e : Env} {s : State} {m : MethodId} {args : Array Value} {below : List Frame} {meth : Method} {c : Code} {b : Nat} {D : va_G} {cy : Nat → ClassId} {G : Gm} {v0 : Nat} {v1 : Int32} {S : St} {Q : Int32 → St → Prop} (C : CX p s m args meth c b D cy cX11_grind RX11 2 (some .int)) (hE : s.heap.size + 0 ≤ b + G.2.2) (t_v0 : ok G 10 v0) (h : f_X11_grind G v0 v1 Q S) : J p l e rm_X11_grind s m args below meth c b D cy 2 (zI b D cy below args s G Q) 0 0 G S 0 [(0, .ref (b + v0)), (1, .int v1)] [] := by
  unfold f_X11_grind at h
  refine jB C [(.aload_n 0, 1, 0), (.iconst 0, 1, 0)] 2 [(0, .ref (b + v0)), (1, .int v1)] [.int 0, .ref (b + v0)] (by decide +kernel) rfl rfl ?_
  refine jPutI C 5 (by decide +kernel : decode cX11_grind 2 = .ok (.putfield 165, 3)) rfl hE t_v0 kX11 0 (by decide) rfl rfl (by decide) rfl wd_1154 rfl rfl rfl ?_
  refine jTopS (fun S1 e_S1 => ?_)
  have h := h S1 e_S1
  refine jB C [(.aload_n 0, 1, 0), (.aload_n 0, 1, 0), (.iload_n 1, 1, 0)] 8 [(0, .ref (b + v0)), (1, .int v1)] [.int v1, .ref (b + v0), .ref (b + v0)] (by decide +kernel) rfl rfl ?_
  refine jcV_I C 11 (rest := [.ref (b + v0)]) (ok_X11_grindNow t_v0 h) (by decide +kernel : decode cX11_grind 8 = .ok (.invokevirtual 477, 3)) rfl wd_1659 wd_1661 wp_146 wd_12 wd_1662 ⟨rfl, rfl⟩ hd_X11_grindNow ⟨Nat.le_of_ble_eq_true rfl, Nat.le_of_ble_eq_true rfl⟩ t_v0 kX11 (by decide) rfl rfl rfl (Nat.le_of_ble_eq_true rfl) ⟨Nat.zero_le _, Nat.zero_le _⟩ (fun r3 S2 h => ?_)
  refine jcV_I C 14 (rest := []) (ok_X11_tell t_v0 h) (by decide +kernel : decode cX11_grind 11 = .ok (.invokevirtual 174, 3)) rfl wd_1340 wd_1342 wp_99 wd_12 wd_1343 ⟨rfl, rfl⟩ hd_X11_tell ⟨Nat.le_of_ble_eq_true rfl, Nat.le_of_ble_eq_true rfl⟩ t_v0 kX11 (by decide) rfl rfl rfl (Nat.le_of_ble_eq_true rfl) ⟨Nat.zero_le _, Nat.zero_le _⟩ (fun r5 S4 h => ?_)
  exact jRetI C (by decide +kernel : decode cX11_grind 14 = .ok (.ireturn, 1)) (Nat.le_refl _) (Nat.le_refl _) ⟨rfl, h⟩
theorem ok_X11_grind {G : Gm} {v0 : Nat} {v1 : Int32} {S : St} {Q : Int32 → St → Prop}  (t_v0 : ok G 10 v0) (h : f_X11_grind G v0 v1 Q S) : MT yX11_grind cX11_grind 2 (some .int) rm_X11_grind 0 0 (fun b => [.ref (b + v0), .int v1]) G S (QI (fun r G1 S1 => G1 = G ∧ Q r S1)) := MT.ofJ (by decide +kernel) (fun b => [(0, .ref (b + v0)), (1, .int v1)]) (fun b => rfl) (fun b => Nat.le_of_ble_eq_true rfl) (fun l b D cy p e s m below meth c C hE hn => j_X11_grind C hE t_v0 h)
theorem hd_X11_grind : yX11_grind.cls ≠ "java/lang/invoke/MethodHandle" ∧ yX11_grind.cls ≠ "java/lang/invoke/VarHandle" ∧ (parseMethodDescriptor yX11_grind.desc).map (fun d => d.parameters.length) = some 1 := by decide +kernel
abbrev rm_X11_ground : Room := { frames := 8, cells := 0, slots := 0, locals := 188 }
set_option maxHeartbeats 4000000 in
set_option maxRecDepth 100000 in
theorem j_X11_ground {p : Program} {l : Launch} {e : Env} {s : State} {m : MethodId} {args : Array Value} {below : List Frame} {meth : Method} {c : Code} {b : Nat} {D : va_G} {cy : Nat → ClassId} {G : Gm} {v0 : Nat} {v1 : Int32} {v2 : Int32} {S : St} {Q : Int32 → St → Prop} (C : CX p s m args meth c b D cy cX11_ground RX11 5 (some .int)) (hE : s.heap.size + 0 ≤ b + G.2.2) (t_v0 : ok G 10 v0) (h : f_X11_ground G v0 v1 v2 Q S) : J p l e rm_X11_ground s m args below meth c b D cy 5 (zI b D cy below args s G Q) 0 0 G S 0 [(0, .ref (b + v0)), (1, .int v1), (2, .int v2)] [] := by
  unfold f_X11_ground at h
  refine jB C [(.aload_n 0, 1, 0), (.iconst 0, 1, 0)] 2 [(0, .ref (b + v0)), (1, .int v1), (2, .int v2)] [.int 0, .ref (b + v0)] (by decide +kernel) rfl rfl ?_
  refine jPutI C 5 (by decide +kernel : decode cX11_ground 2 = .ok (.putfield 165, 3)) rfl hE t_v0 kX11 0 (by decide) rfl rfl (by decide) rfl wd_1154 rfl rfl rfl ?_
  refine jTopS (fun S1 e_S1 => ?_)
  have h := h S1 e_S1
  refine jB C [(.aload_n 0, 1, 0), (.iload_n 1, 1, 0)] 7 [(0, .ref (b + v0)), (1, .int v1), (2, .int v2)] [.int v1, .ref (b + v0)] (by decide +kernel) rfl rfl ?_
  refine jcV_I C 10 (rest := []) (ok_X11_isLaw t_v0 h) (by decide +kernel : decode cX11_ground 7 = .ok (.invokevirtual 416, 3)) rfl wd_1634 wd_1636 wp_142 wd_12 wd_1637 ⟨rfl, rfl⟩ hd_X11_isLaw ⟨Nat.le_of_ble_eq_true rfl, Nat.le_of_ble_eq_true rfl⟩ t_v0 kX11 (by decide) rfl rfl rfl (Nat.le_of_ble_eq_true rfl) ⟨Nat.zero_le _, Nat.zero_le _⟩ (fun r3 S2 h => ?_)
  refine jIf_eq C 13 21 (by decide +kernel : decode cX11_ground 10 = .ok (.ifCond .eq 11, 3)) rfl rfl (fun c4 => ?_) (fun c4 => ?_)
  · have h := it1 h c4
    refine jB C [(.iconst (-1), 1, (-1))] 22 [(0, .ref (b + v0)), (1, .int v1), (2, .int v2)] [.int (-1)] (by decide +kernel) rfl rfl ?_
    exact jRetI C (by decide +kernel : decode cX11_ground 22 = .ok (.ireturn, 1)) (Nat.le_refl _) (Nat.le_refl _) ⟨rfl, h⟩
  · have h := it2 h c4
    refine jB C [(.aload_n 0, 1, 0), (.iload_n 2, 1, 0)] 15 [(0, .ref (b + v0)), (1, .int v1), (2, .int v2)] [.int v2, .ref (b + v0)] (by decide +kernel) rfl rfl ?_
    refine jcV_I C 18 (rest := []) (ok_X11_isPerson t_v0 h) (by decide +kernel : decode cX11_ground 15 = .ok (.invokevirtual 209, 3)) rfl wd_1376 wd_1378 wp_103 wd_12 wd_1379 ⟨rfl, rfl⟩ hd_X11_isPerson ⟨Nat.le_of_ble_eq_true rfl, Nat.le_of_ble_eq_true rfl⟩ t_v0 kX11 (by decide) rfl rfl rfl (Nat.le_of_ble_eq_true rfl) ⟨Nat.zero_le _, Nat.zero_le _⟩ (fun r6 S5 h => ?_)
    refine jIf_ne C 21 23 (by decide +kernel : decode cX11_ground 18 = .ok (.ifCond .ne 5, 3)) rfl rfl (fun c7 => ?_) (fun c7 => ?_)
    · have h := it2 h c7
      refine jB C [(.aload_n 0, 1, 0)] 24 [(0, .ref (b + v0)), (1, .int v1), (2, .int v2)] [.ref (b + v0)] (by decide +kernel) rfl rfl ?_
      obtain ⟨a8, e_a8, h⟩ := h
      refine jGetR C 27 (by decide +kernel : decode cX11_ground 24 = .ok (.getfield 16, 3)) rfl t_v0 kX11 4 (by decide) rfl rfl (by decide) wd_1158 e_a8 rfl (fun t_a8 => ?_)
      refine jB C [(.iconst 3, 1, 3)] 28 [(0, .ref (b + v0)), (1, .int v1), (2, .int v2)] [.int 3, .ref (b + a8)] (by decide +kernel) rfl rfl ?_
      obtain ⟨y9, h⟩ := h
      refine jIald C 29 (by decide +kernel : decode cX11_ground 28 = .ok (.iaload, 1)) rfl t_a8 y9 ?_
      refine jTopI (fun x10 e_x10 => ?_)
      have h := h x10 e_x10
      refine jB C [(.istore_n 3, 1, 0), (.aload_n 0, 1, 0)] 31 [(3, .int x10), (0, .ref (b + v0)), (1, .int v1), (2, .int v2)] [.ref (b + v0)] (by decide +kernel) rfl rfl ?_
      obtain ⟨a11, e_a11, h⟩ := h
      refine jGetR C 34 (by decide +kernel : decode cX11_ground 31 = .ok (.getfield 16, 3)) rfl t_v0 kX11 4 (by decide) rfl rfl (by decide) wd_1158 e_a11 rfl (fun t_a11 => ?_)
      refine jB C [(.iconst 3, 1, 3), (.iload_n 1, 1, 0)] 36 [(3, .int x10), (0, .ref (b + v0)), (1, .int v1), (2, .int v2)] [.int v1, .int 3, .ref (b + a11)] (by decide +kernel) rfl rfl ?_
      obtain ⟨y12, h⟩ := h
      refine jIast C 37 (by decide +kernel : decode cX11_ground 36 = .ok (.iastore, 1)) rfl hE t_a11 y12 ?_
      refine jTopS (fun S13 e_S13 => ?_)
      have h := h S13 e_S13
      refine jB C [(.aload_n 0, 1, 0), (.iload_n 2, 1, 0)] 39 [(3, .int x10), (0, .ref (b + v0)), (1, .int v1), (2, .int v2)] [.int v2, .ref (b + v0)] (by decide +kernel) rfl rfl ?_
      refine jcV_I C 42 (rest := []) (ok_X11_layGround t_v0 h) (by decide +kernel : decode cX11_ground 39 = .ok (.invokevirtual 471, 3)) rfl wd_1667 wd_1669 wp_148 wd_12 wd_1670 ⟨rfl, rfl⟩ hd_X11_layGround ⟨Nat.le_of_ble_eq_true rfl, Nat.le_of_ble_eq_true rfl⟩ t_v0 kX11 (by decide) rfl rfl rfl (Nat.le_of_ble_eq_true rfl) ⟨Nat.zero_le _, Nat.zero_le _⟩ (fun r15 S14 h => ?_)
      refine jB C [(.istore 4, 2, 0), (.aload_n 0, 1, 0)] 45 [(4, .int r15), (3, .int x10), (0, .ref (b + v0)), (1, .int v1), (2, .int v2)] [.ref (b + v0)] (by decide +kernel) rfl rfl ?_
      obtain ⟨a16, e_a16, h⟩ := h
      refine jGetR C 48 (by decide +kernel : decode cX11_ground 45 = .ok (.getfield 16, 3)) rfl t_v0 kX11 4 (by decide) rfl rfl (by decide) wd_1158 e_a16 rfl (fun t_a16 => ?_)
      refine jB C [(.iconst 3, 1, 3), (.iload_n 3, 1, 0)] 50 [(4, .int r15), (3, .int x10), (0, .ref (b + v0)), (1, .int v1), (2, .int v2)] [.int x10, .int 3, .ref (b + a16)] (by decide +kernel) rfl rfl ?_
      obtain ⟨y17, h⟩ := h
      refine jIast C 51 (by decide +kernel : decode cX11_ground 50 = .ok (.iastore, 1)) rfl hE t_a16 y17 ?_
      refine jTopS (fun S18 e_S18 => ?_)
      have h := h S18 e_S18
      refine jB C [(.iload 4, 2, 0)] 53 [(4, .int r15), (3, .int x10), (0, .ref (b + v0)), (1, .int v1), (2, .int v2)] [.int r15] (by decide +kernel) rfl rfl ?_
      exact jRetI C (by decide +kernel : decode cX11_ground 53 = .ok (.ireturn, 1)) (Nat.le_refl _) (Nat.le_refl _) ⟨rfl, h⟩
    · have h := it1 h c7
      refine jB C [(.iconst (-1), 1, (-1))] 22 [(0, .ref (b + v0)), (1, .int v1), (2, .int v2)] [.int (-1)] (by decide +kernel) rfl rfl ?_
      exact jRetI C (by decide +kernel : decode cX11_ground 22 = .ok (.ireturn, 1)) (Nat.le_refl _) (Nat.le_refl _) ⟨rfl, h⟩
theorem ok_X11_ground {G : Gm} {v0 : Nat} {v1 : Int32} {v2 : Int32} {S : St} {Q : Int32 → St → Prop}  (t_v0 : ok G 10 v0) (h : f_X11_ground G v0 v1 v2 Q S) : MT yX11_ground cX11_ground 5 (some .int) rm_X11_ground 0 0 (fun b => [.ref (b + v0), .int v1, .int v2]) G S (QI (fun r G1 S1 => G1 = G ∧ Q r S1)) := MT.ofJ (by decide +kernel) (fun b => [(0, .ref (b + v0)), (1, .int v1), (2, .int v2)]) (fun b => rfl) (fun b => Nat.le_of_ble_eq_true rfl) (fun l b D cy p e s m below meth c C hE hn => j_X11_ground C hE t_v0 h)
theorem hd_X11_ground : yX11_ground.cls ≠ "java/lang/invoke/MethodHandle" ∧ yX11_ground.cls ≠ "java/lang/invoke/VarHandle" ∧ (parseMethodDescriptor yX11_ground.desc).map (fun d => d.parameters.length) = some 2 := by decide +kernel
abbrev rm_X11_isIdle : Room := { frames := 0, cells := 0, slots := 0, locals := 0 }
set_option maxHeartbeats 4000000 in
set_option maxRecDepth 100000 in
theorem j_X11_isIdle_48_n {p : Program} {l : Launch} {e : Env} {s : State} {m : MethodId} {args : Array Value} {below : List Frame} {meth : Method} {c : Code} {b : Nat} {D : va_G} {cy : Nat → ClassId} {G : Gm} {k28 : Int32 → Int32 → St → Prop} {v0 : Nat} {v2 : Int32} {v3 : Int32} {v5 : Int32} {Q : Int32 → St → Prop} (C : CX p s m args meth c b D cy cX11_isIdle RX11 8 (some .boolean)) (hE : s.heap.size + 0 ≤ b + G.2.2) (t_v0 : ok G 10 v0) (hk28 : ∀ v4' v5' S, k28 v4' v5' S → J p l e rm_X11_isIdle s m args below meth c b D cy 8 (zI b D cy below args s G Q) 0 0 G S 28 [(0, .ref (b + v0)), (2, .int v2), (3, .int v3), (4, .int (v4')), (5, .int (v5'))] []) : ∀ k (v6 : Int32) (v7 : Int32) S, f_X11_isIdle_48_n G k28 v0 v2 v3 v5 Q k v6 v7 S → J p l e rm_X11_isIdle s m args below meth c b D cy 8 (zI b D cy below args s G Q) 0 0 G S 48 [(0, .ref (b + v0)), (2, .int v2), (3, .int v3), (5, .int v5), (6, .int v6), (7, .int v7)] [] := by
  intro k
  induction k with
  | zero => intro v6 v7 S h; exact h.elim
  | succ k ih =>
    intro v6 v7 S h
    unfold f_X11_isIdle_48_n at h
    refine jB C [(.iload 7, 2, 0)] 50 [(0, .ref (b + v0)), (2, .int v2), (3, .int v3), (5, .int v5), (6, .int v6), (7, .int v7)] [.int v7] (by decide +kernel) rfl rfl ?_
    refine jIf_le C 53 84 (by decide +kernel : decode cX11_isIdle 50 = .ok (.ifCond .le 34, 3)) rfl rfl (fun c1 => ?_) (fun c1 => ?_)
    · have h := it1 h c1
      refine jB C [(.iload 6, 2, 0), (.iload 5, 2, 0)] 88 [(0, .ref (b + v0)), (2, .int v2), (3, .int v3), (5, .int v5), (6, .int v6), (7, .int v7)] [.int v5, .int v6] (by decide +kernel) rfl rfl ?_
      refine jIcmp_ne C 91 95 (by decide +kernel : decode cX11_isIdle 88 = .ok (.if_icmp .ne 7, 3)) rfl rfl (fun c2 => ?_) (fun c2 => ?_)
      · have h := it2 h c2
        refine jB C [(.iconst 0, 1, 0), (.istore 4, 2, 0), (.iinc 5 1, 3, 1)] 101 [(5, .int (v5 + 1)), (4, .int 0), (0, .ref (b + v0)), (2, .int v2), (3, .int v3), (6, .int v6), (7, .int v7)] [] (by decide +kernel) rfl rfl ?_
        refine jGoto C 28 (by decide +kernel : decode cX11_isIdle 101 = .ok (.goto (-73), 3)) rfl ?_
        refine jSub [2, 3, 4, 1, 0] rfl ?_
        exact hk28 0 (v5 + 1) S h
      · have h := it1 h c2
        refine jB C [(.iconst 1, 1, 1)] 92 [(0, .ref (b + v0)), (2, .int v2), (3, .int v3), (5, .int v5), (6, .int v6), (7, .int v7)] [.int 1] (by decide +kernel) rfl rfl ?_
        refine jGoto C 96 (by decide +kernel : decode cX11_isIdle 92 = .ok (.goto 4, 3)) rfl ?_
        refine jB C [(.istore 4, 2, 0), (.iinc 5 1, 3, 1)] 101 [(5, .int (v5 + 1)), (4, .int 1), (0, .ref (b + v0)), (2, .int v2), (3, .int v3), (6, .int v6), (7, .int v7)] [] (by decide +kernel) rfl rfl ?_
        refine jGoto C 28 (by decide +kernel : decode cX11_isIdle 101 = .ok (.goto (-73), 3)) rfl ?_
        refine jSub [2, 3, 4, 1, 0] rfl ?_
        exact hk28 1 (v5 + 1) S h
    · have h := it2 h c1
      refine jB C [(.aload_n 0, 1, 0)] 54 [(0, .ref (b + v0)), (2, .int v2), (3, .int v3), (5, .int v5), (6, .int v6), (7, .int v7)] [.ref (b + v0)] (by decide +kernel) rfl rfl ?_
      obtain ⟨a3, e_a3, h⟩ := h
      refine jGetR C 57 (by decide +kernel : decode cX11_isIdle 54 = .ok (.getfield 13, 3)) rfl t_v0 kX11 3 (by decide) rfl rfl (by decide) wd_1157 e_a3 rfl (fun t_a3 => ?_)
      refine jB C [(.sipush 256, 3, 256), (.iload_n 2, 1, 0), (.iload 7, 2, 0)] 63 [(0, .ref (b + v0)), (2, .int v2), (3, .int v3), (5, .int v5), (6, .int v6), (7, .int v7)] [.int v7, .int v2, .int 256, .ref (b + a3)] (by decide +kernel) rfl rfl ?_
      obtain ⟨y7, h⟩ := h
      refine jIdiv C 64 (by decide +kernel : decode cX11_isIdle 63 = .ok (.idiv, 1)) rfl y7 ?_
      refine jB C [(.bipush 10, 2, 10)] 66 [(0, .ref (b + v0)), (2, .int v2), (3, .int v3), (5, .int v5), (6, .int v6), (7, .int v7)] [.int 10, .int (v2 / v7), .int 256, .ref (b + a3)] (by decide +kernel) rfl rfl ?_
      refine jIrem C 67 (by decide +kernel : decode cX11_isIdle 66 = .ok (.irem, 1)) rfl (by decide) ?_
      refine jB C [(.imul, 1, 0), (.iload 6, 2, 0), (.iadd, 1, 0)] 71 [(0, .ref (b + v0)), (2, .int v2), (3, .int v3), (5, .int v5), (6, .int v6), (7, .int v7)] [.int ((256 * ((v2 / v7) - (v2 / v7) / 10 * 10)) + v6), .ref (b + a3)] (by decide +kernel) rfl rfl ?_
      obtain ⟨y4, h⟩ := h
      refine jIald C 72 (by decide +kernel : decode cX11_isIdle 71 = .ok (.iaload, 1)) rfl t_a3 y4 ?_
      refine jTopI (fun x5 e_x5 => ?_)
      have h := h x5 e_x5
      refine jB C [(.istore 6, 2, 0), (.iload 7, 2, 0), (.bipush 10, 2, 10)] 78 [(6, .int x5), (0, .ref (b + v0)), (2, .int v2), (3, .int v3), (5, .int v5), (7, .int v7)] [.int 10, .int v7] (by decide +kernel) rfl rfl ?_
      refine jIdiv C 79 (by decide +kernel : decode cX11_isIdle 78 = .ok (.idiv, 1)) rfl (by decide) ?_
      refine jTopI (fun x6 e_x6 => ?_)
      have h := h x6 e_x6
      refine jB C [(.istore 7, 2, 0)] 81 [(7, .int x6), (6, .int x5), (0, .ref (b + v0)), (2, .int v2), (3, .int v3), (5, .int v5)] [] (by decide +kernel) rfl rfl ?_
      refine jGoto C 48 (by decide +kernel : decode cX11_isIdle 81 = .ok (.goto (-33), 3)) rfl ?_
      refine jSub [2, 3, 4, 5, 1, 0] rfl ?_
      exact ih x5 x6 S h
theorem j_X11_isIdle_48 {p : Program} {l : Launch} {e : Env} {s : State} {m : MethodId} {args : Array Value} {below : List Frame} {meth : Method} {c : Code} {b : Nat} {D : va_G} {cy : Nat → ClassId} {G : Gm} {k28 : Int32 → Int32 → St → Prop} {v0 : Nat} {v2 : Int32} {v3 : Int32} {v5 : Int32} {v6 : Int32} {v7 : Int32} {S : St} {Q : Int32 → St → Prop} (C : CX p s m args meth c b D cy cX11_isIdle RX11 8 (some .boolean)) (hE : s.heap.size + 0 ≤ b + G.2.2) (t_v0 : ok G 10 v0) (hk28 : ∀ v4' v5' S, k28 v4' v5' S → J p l e rm_X11_isIdle s m args below meth c b D cy 8 (zI b D cy below args s G Q) 0 0 G S 28 [(0, .ref (b + v0)), (2, .int v2), (3, .int v3), (4, .int (v4')), (5, .int (v5'))] []) (h : f_X11_isIdle_48 G k28 v0 v2 v3 v5 Q v6 v7 S) : J p l e rm_X11_isIdle s m args below meth c b D cy 8 (zI b D cy below args s G Q) 0 0 G S 48 [(0, .ref (b + v0)), (2, .int v2), (3, .int v3), (5, .int v5), (6, .int v6), (7, .int v7)] [] := by
  obtain ⟨k, h⟩ := h
  exact j_X11_isIdle_48_n C hE t_v0 hk28 k v6 v7 S h
set_option maxHeartbeats 4000000 in
set_option maxRecDepth 100000 in
theorem j_X11_isIdle_28_n {p : Program} {l : Launch} {e : Env} {s : State} {m : MethodId} {args : Array Value} {below : List Frame} {meth : Method} {c : Code} {b : Nat} {D : va_G} {cy : Nat → ClassId} {G : Gm} {v0 : Nat} {v2 : Int32} {v3 : Int32} {Q : Int32 → St → Prop} (C : CX p s m args meth c b D cy cX11_isIdle RX11 8 (some .boolean)) (hE : s.heap.size + 0 ≤ b + G.2.2) (t_v0 : ok G 10 v0) : ∀ k (v4 : Int32) (v5 : Int32) S, f_X11_isIdle_28_n G v0 v2 v3 Q k v4 v5 S → J p l e rm_X11_isIdle s m args below meth c b D cy 8 (zI b D cy below args s G Q) 0 0 G S 28 [(0, .ref (b + v0)), (2, .int v2), (3, .int v3), (4, .int v4), (5, .int v5)] [] := by
  intro k
  induction k with
  | zero => intro v4 v5 S h; exact h.elim
  | succ k ih =>
    intro v4 v5 S h
    unfold f_X11_isIdle_28_n at h
    refine jB C [(.iload 5, 2, 0), (.sipush 256, 3, 256)] 33 [(0, .ref (b + v0)), (2, .int v2), (3, .int v3), (4, .int v4), (5, .int v5)] [.int 256, .int v5] (by decide +kernel) rfl rfl ?_
    refine jIcmp_ge C 36 104 (by decide +kernel : decode cX11_isIdle 33 = .ok (.if_icmp .ge 71, 3)) rfl rfl (fun c1 => ?_) (fun c1 => ?_)
    · have h := it1 h c1
      refine jB C [(.iload 4, 2, 0)] 106 [(0, .ref (b + v0)), (2, .int v2), (3, .int v3), (4, .int v4), (5, .int v5)] [.int v4] (by decide +kernel) rfl rfl ?_
      exact jRetZ C (by decide +kernel : decode cX11_isIdle 106 = .ok (.ireturn, 1)) (Nat.le_refl _) (Nat.le_refl _) h.1 ⟨rfl, h.2⟩
    · have h := it2 h c1
      refine jB C [(.iload 4, 2, 0)] 38 [(0, .ref (b + v0)), (2, .int v2), (3, .int v3), (4, .int v4), (5, .int v5)] [.int v4] (by decide +kernel) rfl rfl ?_
      refine jIf_eq C 41 104 (by decide +kernel : decode cX11_isIdle 38 = .ok (.ifCond .eq 66, 3)) rfl rfl (fun c2 => ?_) (fun c2 => ?_)
      · have h := it1 h c2
        refine jB C [(.iload 4, 2, 0)] 106 [(0, .ref (b + v0)), (2, .int v2), (3, .int v3), (4, .int v4), (5, .int v5)] [.int v4] (by decide +kernel) rfl rfl ?_
        exact jRetZ C (by decide +kernel : decode cX11_isIdle 106 = .ok (.ireturn, 1)) (Nat.le_refl _) (Nat.le_refl _) h.1 ⟨rfl, h.2⟩
      · have h := it2 h c2
        refine jB C [(.iload 5, 2, 0), (.istore 6, 2, 0), (.iload_n 3, 1, 0), (.istore 7, 2, 0)] 48 [(7, .int v3), (6, .int v5), (0, .ref (b + v0)), (2, .int v2), (3, .int v3), (4, .int v4), (5, .int v5)] [] (by decide +kernel) rfl rfl ?_
        refine jSub [2, 3, 4, 6, 1, 0] rfl ?_
        exact j_X11_isIdle_48 C hE t_v0 ih h
theorem j_X11_isIdle_28 {p : Program} {l : Launch} {e : Env} {s : State} {m : MethodId} {args : Array Value} {below : List Frame} {meth : Method} {c : Code} {b : Nat} {D : va_G} {cy : Nat → ClassId} {G : Gm} {v0 : Nat} {v2 : Int32} {v3 : Int32} {v4 : Int32} {v5 : Int32} {S : St} {Q : Int32 → St → Prop} (C : CX p s m args meth c b D cy cX11_isIdle RX11 8 (some .boolean)) (hE : s.heap.size + 0 ≤ b + G.2.2) (t_v0 : ok G 10 v0) (h : f_X11_isIdle_28 G v0 v2 v3 Q v4 v5 S) : J p l e rm_X11_isIdle s m args below meth c b D cy 8 (zI b D cy below args s G Q) 0 0 G S 28 [(0, .ref (b + v0)), (2, .int v2), (3, .int v3), (4, .int v4), (5, .int v5)] [] := by
  obtain ⟨k, h⟩ := h
  exact j_X11_isIdle_28_n C hE t_v0 k v4 v5 S h
set_option maxHeartbeats 4000000 in
set_option maxRecDepth 100000 in
theorem j_X11_isIdle_5_n {p : Program} {l : Launch} {e : Env} {s : State} {m : MethodId} {args : Array Value} {below : List Frame} {meth : Method} {c : Code} {b : Nat} {D : va_G} {cy : Nat → ClassId} {G : Gm} {v0 : Nat} {v1 : Int32} {v2 : Int32} {Q : Int32 → St → Prop} (C : CX p s m args meth c b D cy cX11_isIdle RX11 8 (some .boolean)) (hE : s.heap.size + 0 ≤ b + G.2.2) (t_v0 : ok G 10 v0) : ∀ k (v3 : Int32) (v4 : Int32) S, f_X11_isIdle_5_n G v0 v1 v2 Q k v3 v4 S → J p l e rm_X11_isIdle s m args below meth c b D cy 8 (zI b D cy below args s G Q) 0 0 G S 5 [(0, .ref (b + v0)), (1, .int v1), (2, .int v2), (3, .int v3), (4, .int v4)] [] := by
  intro k
  induction k with
  | zero => intro v3 v4 S h; exact h.elim
  | succ k ih =>
    intro v3 v4 S h
    unfold f_X11_isIdle_5_n at h
    refine jB C [(.iload 4, 2, 0), (.iload_n 1, 1, 0)] 8 [(0, .ref (b + v0)), (1, .int v1), (2, .int v2), (3, .int v3), (4, .int v4)] [.int v1, .int v4] (by decide +kernel) rfl rfl ?_
    refine jIcmp_ge C 11 22 (by decide +kernel : decode cX11_isIdle 8 = .ok (.if_icmp .ge 14, 3)) rfl rfl (fun c1 => ?_) (fun c1 => ?_)
    · have h := it1 h c1
      refine jB C [(.iconst 1, 1, 1), (.istore 4, 2, 0), (.iconst 0, 1, 0), (.istore 5, 2, 0)] 28 [(5, .int 0), (4, .int 1), (0, .ref (b + v0)), (1, .int v1), (2, .int v2), (3, .int v3)] [] (by decide +kernel) rfl rfl ?_
      refine jSub [2, 4, 5, 1, 0] rfl ?_
      exact j_X11_isIdle_28 C hE t_v0 h
    · have h := it2 h c1
      refine jB C [(.iload_n 3, 1, 0), (.bipush 10, 2, 10), (.imul, 1, 0)] 15 [(0, .ref (b + v0)), (1, .int v1), (2, .int v2), (3, .int v3), (4, .int v4)] [.int (v3 * 10)] (by decide +kernel) rfl rfl ?_
      refine jTopI (fun x2 e_x2 => ?_)
      have h := h x2 e_x2
      refine jB C [(.istore_n 3, 1, 0), (.iinc 4 1, 3, 1)] 19 [(4, .int (v4 + 1)), (3, .int x2), (0, .ref (b + v0)), (1, .int v1), (2, .int v2)] [] (by decide +kernel) rfl rfl ?_
      refine jGoto C 5 (by decide +kernel : decode cX11_isIdle 19 = .ok (.goto (-14), 3)) rfl ?_
      refine jSub [2, 3, 4, 1, 0] rfl ?_
      exact ih x2 (v4 + 1) S h
theorem j_X11_isIdle_5 {p : Program} {l : Launch} {e : Env} {s : State} {m : MethodId} {args : Array Value} {below : List Frame} {meth : Method} {c : Code} {b : Nat} {D : va_G} {cy : Nat → ClassId} {G : Gm} {v0 : Nat} {v1 : Int32} {v2 : Int32} {v3 : Int32} {v4 : Int32} {S : St} {Q : Int32 → St → Prop} (C : CX p s m args meth c b D cy cX11_isIdle RX11 8 (some .boolean)) (hE : s.heap.size + 0 ≤ b + G.2.2) (t_v0 : ok G 10 v0) (h : f_X11_isIdle_5 G v0 v1 v2 Q v3 v4 S) : J p l e rm_X11_isIdle s m args below meth c b D cy 8 (zI b D cy below args s G Q) 0 0 G S 5 [(0, .ref (b + v0)), (1, .int v1), (2, .int v2), (3, .int v3), (4, .int v4)] [] := by
  obtain ⟨k, h⟩ := h
  exact j_X11_isIdle_5_n C hE t_v0 k v3 v4 S h
set_option maxHeartbeats 4000000 in
set_option maxRecDepth 100000 in
theorem j_X11_isIdle {p : Program} {l : Launch} {e : Env} {s : State} {m : MethodId} {args : Array Value} {below : List Frame} {meth : Method} {c : Code} {b : Nat} {D : va_G} {cy : Nat → ClassId} {G : Gm} {v0 : Nat} {v1 : Int32} {v2 : Int32} {S : St} {Q : Int32 → St → Prop} (C : CX p s m args meth c b D cy cX11_isIdle RX11 8 (some .boolean)) (hE : s.heap.size + 0 ≤ b + G.2.2) (t_v0 : ok G 10 v0) (h : f_X11_isIdle G v0 v1 v2 Q S) : J p l e rm_X11_isIdle s m args below meth c b D cy 8 (zI b D cy below args s G Q) 0 0 G S 0 [(0, .ref (b + v0)), (1, .int v1), (2, .int v2)] [] := by
  unfold f_X11_isIdle at h
  refine jB C [(.iconst 1, 1, 1), (.istore_n 3, 1, 0), (.iconst 1, 1, 1), (.istore 4, 2, 0)] 5 [(4, .int 1), (3, .int 1), (0, .ref (b + v0)), (1, .int v1), (2, .int v2)] [] (by decide +kernel) rfl rfl ?_
  refine jSub [2, 3, 4, 1, 0] rfl ?_
  exact j_X11_isIdle_5 C hE t_v0 h
theorem ok_X11_isIdle {G : Gm} {v0 : Nat} {v1 : Int32} {v2 : Int32} {S : St} {Q : Int32 → St → Prop}  (t_v0 : ok G 10 v0) (h : f_X11_isIdle G v0 v1 v2 Q S) : MT yX11_isIdle cX11_isIdle 8 (some .boolean) rm_X11_isIdle 0 0 (fun b => [.ref (b + v0), .int v1, .int v2]) G S (QI (fun r G1 S1 => G1 = G ∧ Q r S1)) := MT.ofJ (by decide +kernel) (fun b => [(0, .ref (b + v0)), (1, .int v1), (2, .int v2)]) (fun b => rfl) (fun b => Nat.le_of_ble_eq_true rfl) (fun l b D cy p e s m below meth c C hE hn => j_X11_isIdle C hE t_v0 h)
theorem hd_X11_isIdle : yX11_isIdle.cls ≠ "java/lang/invoke/MethodHandle" ∧ yX11_isIdle.cls ≠ "java/lang/invoke/VarHandle" ∧ (parseMethodDescriptor yX11_isIdle.desc).map (fun d => d.parameters.length) = some 2 := by decide +kernel
abbrev rm_X11_idle : Room := { frames := 1, cells := 0, slots := 0, locals := 27 }
set_option maxHeartbeats 4000000 in
set_option maxRecDepth 100000 in
theorem j_X11_idle_69_n {p : Program} {l : Launch} {e : Env} {s : State} {m : MethodId} {args : Array Value} {below : List Frame} {meth : Method} {c : Code} {b : Nat} {D : va_G} {cy : Nat → ClassId} {G : Gm} {k50 : Int32 → Int32 → Int32 → St → Prop} {v0 : Nat} {v1 : Int32} {v2 : Int32} {v3 : Int32} {v4 : Int32} {v5 : Int32} {v6 : Int32} {Q : Int32 → St → Prop} (C : CX p s m args meth c b D cy cX11_idle RX11 11 (some .int)) (hE : s.heap.size + 0 ≤ b + G.2.2) (t_v0 : ok G 10 v0) (hk50 : ∀ v4' v5' v6' S, k50 v4' v5' v6' S → J p l e rm_X11_idle s m args below meth c b D cy 11 (zI b D cy below args s G Q) 0 0 G S 50 [(0, .ref (b + v0)), (1, .int v1), (2, .int v2), (3, .int v3), (4, .int (v4')), (5, .int (v5')), (6, .int (v6'))] []) : ∀ k (v7 : Int32) (v8 : Int32) (v9 : Int32) (v10 : Int32) S, f_X11_idle_69_n G k50 v0 v1 v2 v3 v4 v5 v6 Q k v7 v8 v9 v10 S → J p l e rm_X11_idle s m args below meth c b D cy 11 (zI b D cy below args s G Q) 0 0 G S 69 [(0, .ref (b + v0)), (1, .int v1), (2, .int v2), (3, .int v3), (4, .int v4), (5, .int v5), (6, .int v6), (7, .int v7), (8, .int v8), (9, .int v9), (10, .int v10)] [] := by
  intro k
  induction k with
  | zero => intro v7 v8 v9 v10 S h; exact h.elim
  | succ k ih =>
    intro v7 v8 v9 v10 S h
    unfold f_X11_idle_69_n at h
    refine jB C [(.iload 10, 2, 0), (.iload_n 1, 1, 0)] 72 [(0, .ref (b + v0)), (1, .int v1), (2, .int v2), (3, .int v3), (4, .int v4), (5, .int v5), (6, .int v6), (7, .int v7), (8, .int v8), (9, .int v9), (10, .int v10)] [.int v1, .int v10] (by decide +kernel) rfl rfl ?_
    refine jIcmp_ge C 75 110 (by decide +kernel : decode cX11_idle 72 = .ok (.if_icmp .ge 38, 3)) rfl rfl (fun c1 => ?_) (fun c1 => ?_)
    · have h := it1 h c1
      refine jB C [(.aload_n 0, 1, 0), (.iload_n 1, 1, 0), (.iload 7, 2, 0)] 114 [(0, .ref (b + v0)), (1, .int v1), (2, .int v2), (3, .int v3), (4, .int v4), (5, .int v5), (6, .int v6), (7, .int v7), (8, .int v8), (9, .int v9), (10, .int v10)] [.int v7, .int v1, .ref (b + v0)] (by decide +kernel) rfl rfl ?_
      refine jcV_I C 117 (rest := []) (ok_X11_isIdle t_v0 h) (by decide +kernel : decode cX11_idle 114 = .ok (.invokevirtual 519, 3)) rfl wd_1769 wd_1771 wp_161 wd_12 wd_1772 ⟨rfl, rfl⟩ hd_X11_isIdle ⟨Nat.le_of_ble_eq_true rfl, Nat.le_of_ble_eq_true rfl⟩ t_v0 kX11 (by decide) rfl rfl rfl (Nat.le_of_ble_eq_true rfl) ⟨Nat.zero_le _, Nat.zero_le _⟩ (fun r3 S2 h => ?_)
      refine jIf_eq C 120 138 (by decide +kernel : decode cX11_idle 117 = .ok (.ifCond .eq 21, 3)) rfl rfl (fun c4 => ?_) (fun c4 => ?_)
      · have h := it1 h c4
        refine jB C [(.iinc 6 1, 3, 1)] 141 [(6, .int (v6 + 1)), (0, .ref (b + v0)), (1, .int v1), (2, .int v2), (3, .int v3), (4, .int v4), (5, .int v5), (7, .int v7), (8, .int v8), (9, .int v9), (10, .int v10)] [] (by decide +kernel) rfl rfl ?_
        refine jGoto C 50 (by decide +kernel : decode cX11_idle 141 = .ok (.goto (-91), 3)) rfl ?_
        refine jSub [1, 2, 3, 4, 5, 6, 0] rfl ?_
        exact hk50 v4 v5 (v6 + 1) S2 h
      · have h := it2 h c4
        refine jB C [(.iload 4, 2, 0), (.iload_n 2, 1, 0)] 123 [(0, .ref (b + v0)), (1, .int v1), (2, .int v2), (3, .int v3), (4, .int v4), (5, .int v5), (6, .int v6), (7, .int v7), (8, .int v8), (9, .int v9), (10, .int v10)] [.int v2, .int v4] (by decide +kernel) rfl rfl ?_
        refine jIcmp_ne C 126 131 (by decide +kernel : decode cX11_idle 123 = .ok (.if_icmp .ne 8, 3)) rfl rfl (fun c5 => ?_) (fun c5 => ?_)
        · have h := it2 h c5
          refine jB C [(.iload 5, 2, 0), (.istore 5, 2, 0), (.iinc 4 1, 3, 1), (.iinc 6 1, 3, 1)] 141 [(6, .int (v6 + 1)), (4, .int (v4 + 1)), (5, .int v5), (0, .ref (b + v0)), (1, .int v1), (2, .int v2), (3, .int v3), (7, .int v7), (8, .int v8), (9, .int v9), (10, .int v10)] [] (by decide +kernel) rfl rfl ?_
          refine jGoto C 50 (by decide +kernel : decode cX11_idle 141 = .ok (.goto (-91), 3)) rfl ?_
          refine jSub [3, 4, 5, 6, 1, 2, 0] rfl ?_
          exact hk50 (v4 + 1) v5 (v6 + 1) S2 h
        · have h := it1 h c5
          refine jB C [(.iload 7, 2, 0)] 128 [(0, .ref (b + v0)), (1, .int v1), (2, .int v2), (3, .int v3), (4, .int v4), (5, .int v5), (6, .int v6), (7, .int v7), (8, .int v8), (9, .int v9), (10, .int v10)] [.int v7] (by decide +kernel) rfl rfl ?_
          refine jGoto C 133 (by decide +kernel : decode cX11_idle 128 = .ok (.goto 5, 3)) rfl ?_
          refine jB C [(.istore 5, 2, 0), (.iinc 4 1, 3, 1), (.iinc 6 1, 3, 1)] 141 [(6, .int (v6 + 1)), (4, .int (v4 + 1)), (5, .int v7), (0, .ref (b + v0)), (1, .int v1), (2, .int v2), (3, .int v3), (7, .int v7), (8, .int v8), (9, .int v9), (10, .int v10)] [] (by decide +kernel) rfl rfl ?_
          refine jGoto C 50 (by decide +kernel : decode cX11_idle 141 = .ok (.goto (-91), 3)) rfl ?_
          refine jSub [3, 4, 5, 6, 1, 2, 0] rfl ?_
          exact hk50 (v4 + 1) v7 (v6 + 1) S2 h
    · have h := it2 h c1
      refine jB C [(.iload 7, 2, 0), (.iload 8, 2, 0), (.iload 9, 2, 0), (.bipush 7, 2, 7)] 83 [(0, .ref (b + v0)), (1, .int v1), (2, .int v2), (3, .int v3), (4, .int v4), (5, .int v5), (6, .int v6), (7, .int v7), (8, .int v8), (9, .int v9), (10, .int v10)] [.int 7, .int v9, .int v8, .int v7] (by decide +kernel) rfl rfl ?_
      refine jIrem C 84 (by decide +kernel : decode cX11_idle 83 = .ok (.irem, 1)) rfl (by decide) ?_
      refine jB C [(.iconst 1, 1, 1), (.iadd, 1, 0), (.imul, 1, 0), (.iadd, 1, 0)] 88 [(0, .ref (b + v0)), (1, .int v1), (2, .int v2), (3, .int v3), (4, .int v4), (5, .int v5), (6, .int v6), (7, .int v7), (8, .int v8), (9, .int v9), (10, .int v10)] [.int (v7 + (v8 * ((v9 - v9 / 7 * 7) + 1)))] (by decide +kernel) rfl rfl ?_
      refine jTopI (fun x6 e_x6 => ?_)
      have h := h x6 e_x6
      refine jB C [(.istore 7, 2, 0), (.iload 8, 2, 0), (.bipush 10, 2, 10), (.imul, 1, 0)] 95 [(7, .int x6), (0, .ref (b + v0)), (1, .int v1), (2, .int v2), (3, .int v3), (4, .int v4), (5, .int v5), (6, .int v6), (8, .int v8), (9, .int v9), (10, .int v10)] [.int (v8 * 10)] (by decide +kernel) rfl rfl ?_
      refine jTopI (fun x7 e_x7 => ?_)
      have h := h x7 e_x7
      refine jB C [(.istore 8, 2, 0), (.iload 9, 2, 0), (.bipush 7, 2, 7)] 101 [(8, .int x7), (7, .int x6), (0, .ref (b + v0)), (1, .int v1), (2, .int v2), (3, .int v3), (4, .int v4), (5, .int v5), (6, .int v6), (9, .int v9), (10, .int v10)] [.int 7, .int v9] (by decide +kernel) rfl rfl ?_
      refine jIdiv C 102 (by decide +kernel : decode cX11_idle 101 = .ok (.idiv, 1)) rfl (by decide) ?_
      refine jTopI (fun x8 e_x8 => ?_)
      have h := h x8 e_x8
      refine jB C [(.istore 9, 2, 0), (.iinc 10 1, 3, 1)] 107 [(10, .int (v10 + 1)), (9, .int x8), (8, .int x7), (7, .int x6), (0, .ref (b + v0)), (1, .int v1), (2, .int v2), (3, .int v3), (4, .int v4), (5, .int v5), (6, .int v6)] [] (by decide +kernel) rfl rfl ?_
      refine jGoto C 69 (by decide +kernel : decode cX11_idle 107 = .ok (.goto (-38), 3)) rfl ?_
      refine jSub [4, 5, 6, 7, 8, 9, 10, 3, 2, 1, 0] rfl ?_
      exact ih x6 x7 x8 (v10 + 1) S h
theorem j_X11_idle_69 {p : Program} {l : Launch} {e : Env} {s : State} {m : MethodId} {args : Array Value} {below : List Frame} {meth : Method} {c : Code} {b : Nat} {D : va_G} {cy : Nat → ClassId} {G : Gm} {k50 : Int32 → Int32 → Int32 → St → Prop} {v0 : Nat} {v1 : Int32} {v2 : Int32} {v3 : Int32} {v4 : Int32} {v5 : Int32} {v6 : Int32} {v7 : Int32} {v8 : Int32} {v9 : Int32} {v10 : Int32} {S : St} {Q : Int32 → St → Prop} (C : CX p s m args meth c b D cy cX11_idle RX11 11 (some .int)) (hE : s.heap.size + 0 ≤ b + G.2.2) (t_v0 : ok G 10 v0) (hk50 : ∀ v4' v5' v6' S, k50 v4' v5' v6' S → J p l e rm_X11_idle s m args below meth c b D cy 11 (zI b D cy below args s G Q) 0 0 G S 50 [(0, .ref (b + v0)), (1, .int v1), (2, .int v2), (3, .int v3), (4, .int (v4')), (5, .int (v5')), (6, .int (v6'))] []) (h : f_X11_idle_69 G k50 v0 v1 v2 v3 v4 v5 v6 Q v7 v8 v9 v10 S) : J p l e rm_X11_idle s m args below meth c b D cy 11 (zI b D cy below args s G Q) 0 0 G S 69 [(0, .ref (b + v0)), (1, .int v1), (2, .int v2), (3, .int v3), (4, .int v4), (5, .int v5), (6, .int v6), (7, .int v7), (8, .int v8), (9, .int v9), (10, .int v10)] [] := by
  obtain ⟨k, h⟩ := h
  exact j_X11_idle_69_n C hE t_v0 hk50 k v7 v8 v9 v10 S h
set_option maxHeartbeats 4000000 in
set_option maxRecDepth 100000 in
theorem j_X11_idle_50_n {p : Program} {l : Launch} {e : Env} {s : State} {m : MethodId} {args : Array Value} {below : List Frame} {meth : Method} {c : Code} {b : Nat} {D : va_G} {cy : Nat → ClassId} {G : Gm} {v0 : Nat} {v1 : Int32} {v2 : Int32} {v3 : Int32} {Q : Int32 → St → Prop} (C : CX p s m args meth c b D cy cX11_idle RX11 11 (some .int)) (hE : s.heap.size + 0 ≤ b + G.2.2) (t_v0 : ok G 10 v0) : ∀ k (v4 : Int32) (v5 : Int32) (v6 : Int32) S, f_X11_idle_50_n G v0 v1 v2 v3 Q k v4 v5 v6 S → J p l e rm_X11_idle s m args below meth c b D cy 11 (zI b D cy below args s G Q) 0 0 G S 50 [(0, .ref (b + v0)), (1, .int v1), (2, .int v2), (3, .int v3), (4, .int v4), (5, .int v5), (6, .int v6)] [] := by
  intro k
  induction k with
  | zero => intro v4 v5 v6 S h; exact h.elim
  | succ k ih =>
    intro v4 v5 v6 S h
    unfold f_X11_idle_50_n at h
    refine jB C [(.iload 6, 2, 0), (.iload_n 3, 1, 0)] 53 [(0, .ref (b + v0)), (1, .int v1), (2, .int v2), (3, .int v3), (4, .int v4), (5, .int v5), (6, .int v6)] [.int v3, .int v6] (by decide +kernel) rfl rfl ?_
    refine jIcmp_ge C 56 144 (by decide +kernel : decode cX11_idle 53 = .ok (.if_icmp .ge 91, 3)) rfl rfl (fun c1 => ?_) (fun c1 => ?_)
    · have h := it1 h c1
      refine jB C [(.iload_n 2, 1, 0), (.iconst (-1), 1, (-1))] 146 [(0, .ref (b + v0)), (1, .int v1), (2, .int v2), (3, .int v3), (4, .int v4), (5, .int v5), (6, .int v6)] [.int (-1), .int v2] (by decide +kernel) rfl rfl ?_
      refine jIcmp_ne C 149 154 (by decide +kernel : decode cX11_idle 146 = .ok (.if_icmp .ne 8, 3)) rfl rfl (fun c2 => ?_) (fun c2 => ?_)
      · have h := it2 h c2
        refine jB C [(.iload 5, 2, 0)] 156 [(0, .ref (b + v0)), (1, .int v1), (2, .int v2), (3, .int v3), (4, .int v4), (5, .int v5), (6, .int v6)] [.int v5] (by decide +kernel) rfl rfl ?_
        exact jRetI C (by decide +kernel : decode cX11_idle 156 = .ok (.ireturn, 1)) (Nat.le_refl _) (Nat.le_refl _) ⟨rfl, h⟩
      · have h := it1 h c2
        refine jB C [(.iload 4, 2, 0)] 151 [(0, .ref (b + v0)), (1, .int v1), (2, .int v2), (3, .int v3), (4, .int v4), (5, .int v5), (6, .int v6)] [.int v4] (by decide +kernel) rfl rfl ?_
        refine jGoto C 156 (by decide +kernel : decode cX11_idle 151 = .ok (.goto 5, 3)) rfl ?_
        exact jRetI C (by decide +kernel : decode cX11_idle 156 = .ok (.ireturn, 1)) (Nat.le_refl _) (Nat.le_refl _) ⟨rfl, h⟩
    · have h := it2 h c1
      refine jB C [(.iconst 0, 1, 0), (.istore 7, 2, 0), (.iconst 1, 1, 1), (.istore 8, 2, 0), (.iload 6, 2, 0), (.istore 9, 2, 0), (.iconst 0, 1, 0), (.istore 10, 2, 0)] 69 [(10, .int 0), (9, .int v6), (8, .int 1), (7, .int 0), (0, .ref (b + v0)), (1, .int v1), (2, .int v2), (3, .int v3), (4, .int v4), (5, .int v5), (6, .int v6)] [] (by decide +kernel) rfl rfl ?_
      refine jSub [4, 5, 6, 7, 8, 9, 10, 3, 2, 1, 0] rfl ?_
      exact j_X11_idle_69 C hE t_v0 ih h
theorem j_X11_idle_50 {p : Program} {l : Launch} {e : Env} {s : State} {m : MethodId} {args : Array Value} {below : List Frame} {meth : Method} {c : Code} {b : Nat} {D : va_G} {cy : Nat → ClassId} {G : Gm} {v0 : Nat} {v1 : Int32} {v2 : Int32} {v3 : Int32} {v4 : Int32} {v5 : Int32} {v6 : Int32} {S : St} {Q : Int32 → St → Prop} (C : CX p s m args meth c b D cy cX11_idle RX11 11 (some .int)) (hE : s.heap.size + 0 ≤ b + G.2.2) (t_v0 : ok G 10 v0) (h : f_X11_idle_50 G v0 v1 v2 v3 Q v4 v5 v6 S) : J p l e rm_X11_idle s m args below meth c b D cy 11 (zI b D cy below args s G Q) 0 0 G S 50 [(0, .ref (b + v0)), (1, .int v1), (2, .int v2), (3, .int v3), (4, .int v4), (5, .int v5), (6, .int v6)] [] := by
  obtain ⟨k, h⟩ := h
  exact j_X11_idle_50_n C hE t_v0 k v4 v5 v6 S h
set_option maxHeartbeats 4000000 in
set_option maxRecDepth 100000 in
theorem j_X11_idle_24_n {p : Program} {l : Launch} {e : Env} {s : State} {m : MethodId} {args : Array Value} {below : List Frame} {meth : Method} {c : Code} {b : Nat} {D : va_G} {cy : Nat → ClassId} {G : Gm} {v0 : Nat} {v1 : Int32} {v2 : Int32} {Q : Int32 → St → Prop} (C : CX p s m args meth c b D cy cX11_idle RX11 11 (some .int)) (hE : s.heap.size + 0 ≤ b + G.2.2) (t_v0 : ok G 10 v0) : ∀ k (v3 : Int32) (v4 : Int32) S, f_X11_idle_24_n G v0 v1 v2 Q k v3 v4 S → J p l e rm_X11_idle s m args below meth c b D cy 11 (zI b D cy below args s G Q) 0 0 G S 24 [(0, .ref (b + v0)), (1, .int v1), (2, .int v2), (3, .int v3), (4, .int v4)] [] := by
  intro k
  induction k with
  | zero => intro v3 v4 S h; exact h.elim
  | succ k ih =>
    intro v3 v4 S h
    unfold f_X11_idle_24_n at h
    refine jB C [(.iload 4, 2, 0), (.iload_n 1, 1, 0)] 27 [(0, .ref (b + v0)), (1, .int v1), (2, .int v2), (3, .int v3), (4, .int v4)] [.int v1, .int v4] (by decide +kernel) rfl rfl ?_
    refine jIcmp_ge C 30 41 (by decide +kernel : decode cX11_idle 27 = .ok (.if_icmp .ge 14, 3)) rfl rfl (fun c1 => ?_) (fun c1 => ?_)
    · have h := it1 h c1
      refine jB C [(.iconst 0, 1, 0), (.istore 4, 2, 0), (.iconst (-1), 1, (-1)), (.istore 5, 2, 0), (.iconst 0, 1, 0), (.istore 6, 2, 0)] 50 [(6, .int 0), (5, .int (-1)), (4, .int 0), (0, .ref (b + v0)), (1, .int v1), (2, .int v2), (3, .int v3)] [] (by decide +kernel) rfl rfl ?_
      refine jSub [3, 4, 5, 6, 2, 1, 0] rfl ?_
      exact j_X11_idle_50 C hE t_v0 h
    · have h := it2 h c1
      refine jB C [(.iload_n 3, 1, 0), (.bipush 7, 2, 7), (.imul, 1, 0)] 34 [(0, .ref (b + v0)), (1, .int v1), (2, .int v2), (3, .int v3), (4, .int v4)] [.int (v3 * 7)] (by decide +kernel) rfl rfl ?_
      refine jTopI (fun x2 e_x2 => ?_)
      have h := h x2 e_x2
      refine jB C [(.istore_n 3, 1, 0), (.iinc 4 1, 3, 1)] 38 [(4, .int (v4 + 1)), (3, .int x2), (0, .ref (b + v0)), (1, .int v1), (2, .int v2)] [] (by decide +kernel) rfl rfl ?_
      refine jGoto C 24 (by decide +kernel : decode cX11_idle 38 = .ok (.goto (-14), 3)) rfl ?_
      refine jSub [2, 3, 4, 1, 0] rfl ?_
      exact ih x2 (v4 + 1) S h
theorem j_X11_idle_24 {p : Program} {l : Launch} {e : Env} {s : State} {m : MethodId} {args : Array Value} {below : List Frame} {meth : Method} {c : Code} {b : Nat} {D : va_G} {cy : Nat → ClassId} {G : Gm} {v0 : Nat} {v1 : Int32} {v2 : Int32} {v3 : Int32} {v4 : Int32} {S : St} {Q : Int32 → St → Prop} (C : CX p s m args meth c b D cy cX11_idle RX11 11 (some .int)) (hE : s.heap.size + 0 ≤ b + G.2.2) (t_v0 : ok G 10 v0) (h : f_X11_idle_24 G v0 v1 v2 Q v3 v4 S) : J p l e rm_X11_idle s m args below meth c b D cy 11 (zI b D cy below args s G Q) 0 0 G S 24 [(0, .ref (b + v0)), (1, .int v1), (2, .int v2), (3, .int v3), (4, .int v4)] [] := by
  obtain ⟨k, h⟩ := h
  exact j_X11_idle_24_n C hE t_v0 k v3 v4 S h
set_option maxHeartbeats 4000000 in
set_option maxRecDepth 100000 in
theorem j_X11_idle {p : Program} {l : Launch} {e : Env} {s : State} {m : MethodId} {args : Array Value} {below : List Frame} {meth : Method} {c : Code} {b : Nat} {D : va_G} {cy : Nat → ClassId} {G : Gm} {v0 : Nat} {v1 : Int32} {v2 : Int32} {S : St} {Q : Int32 → St → Prop} (C : CX p s m args meth c b D cy cX11_idle RX11 11 (some .int)) (hE : s.heap.size + 0 ≤ b + G.2.2) (t_v0 : ok G 10 v0) (h : f_X11_idle G v0 v1 v2 Q S) : J p l e rm_X11_idle s m args below meth c b D cy 11 (zI b D cy below args s G Q) 0 0 G S 0 [(0, .ref (b + v0)), (1, .int v1), (2, .int v2)] [] := by
  unfold f_X11_idle at h
  refine jB C [(.aload_n 0, 1, 0), (.iconst 0, 1, 0)] 2 [(0, .ref (b + v0)), (1, .int v1), (2, .int v2)] [.int 0, .ref (b + v0)] (by decide +kernel) rfl rfl ?_
  refine jPutI C 5 (by decide +kernel : decode cX11_idle 2 = .ok (.putfield 165, 3)) rfl hE t_v0 kX11 0 (by decide) rfl rfl (by decide) rfl wd_1154 rfl rfl rfl ?_
  refine jTopS (fun S1 e_S1 => ?_)
  have h := h S1 e_S1
  refine jB C [(.iload_n 1, 1, 0), (.i2l, 1, 0), (.lconst 1, 1, 0)] 8 [(0, .ref (b + v0)), (1, .int v1), (2, .int v2)] [.long 1, .long v1.toInt64] (by decide +kernel) rfl rfl ?_
  refine jLdc2 C 11 (by decide +kernel : decode cX11_idle 8 = .ok (.ldc2_w 517, 3)) rfl wd_1768 ?_
  refine jcS_I C 14 (rest := []) (ok_X11_in h) (by decide +kernel : decode cX11_idle 11 = .ok (.invokestatic 185, 3)) rfl wd_1352 wd_1353 wd_12 wd_1354 ⟨rfl, rfl⟩ hd_X11_in ⟨Nat.le_of_ble_eq_true rfl, Nat.le_of_ble_eq_true rfl⟩ rfl rfl (Nat.le_of_ble_eq_true rfl) ⟨Nat.zero_le _, Nat.zero_le _⟩ (fun r3 S2 h => ?_)
  refine jIf_ne C 17 19 (by decide +kernel : decode cX11_idle 14 = .ok (.ifCond .ne 5, 3)) rfl rfl (fun c4 => ?_) (fun c4 => ?_)
  · have h := it2 h c4
    refine jB C [(.iconst 1, 1, 1), (.istore_n 3, 1, 0), (.iconst 0, 1, 0), (.istore 4, 2, 0)] 24 [(4, .int 0), (3, .int 1), (0, .ref (b + v0)), (1, .int v1), (2, .int v2)] [] (by decide +kernel) rfl rfl ?_
    refine jSub [2, 3, 4, 1, 0] rfl ?_
    exact j_X11_idle_24 C hE t_v0 h
  · have h := it1 h c4
    refine jB C [(.iconst (-1), 1, (-1))] 18 [(0, .ref (b + v0)), (1, .int v1), (2, .int v2)] [.int (-1)] (by decide +kernel) rfl rfl ?_
    exact jRetI C (by decide +kernel : decode cX11_idle 18 = .ok (.ireturn, 1)) (Nat.le_refl _) (Nat.le_refl _) ⟨rfl, h⟩
theorem ok_X11_idle {G : Gm} {v0 : Nat} {v1 : Int32} {v2 : Int32} {S : St} {Q : Int32 → St → Prop}  (t_v0 : ok G 10 v0) (h : f_X11_idle G v0 v1 v2 Q S) : MT yX11_idle cX11_idle 11 (some .int) rm_X11_idle 0 0 (fun b => [.ref (b + v0), .int v1, .int v2]) G S (QI (fun r G1 S1 => G1 = G ∧ Q r S1)) := MT.ofJ (by decide +kernel) (fun b => [(0, .ref (b + v0)), (1, .int v1), (2, .int v2)]) (fun b => rfl) (fun b => Nat.le_of_ble_eq_true rfl) (fun l b D cy p e s m below meth c C hE hn => j_X11_idle C hE t_v0 h)
theorem hd_X11_idle : yX11_idle.cls ≠ "java/lang/invoke/MethodHandle" ∧ yX11_idle.cls ≠ "java/lang/invoke/VarHandle" ∧ (parseMethodDescriptor yX11_idle.desc).map (fun d => d.parameters.length) = some 2 := by decide +kernel
abbrev rm_X11_image : Room := { frames := 1, cells := 0, slots := 0, locals := 25 }
set_option maxHeartbeats 4000000 in
set_option maxRecDepth 100000 in
theorem j_X11_image_23_n {p : Program} {l : Launch} {e : Env} {s : State} {m : MethodId} {args : Array Value} {below : List Frame} {meth : Method} {c : Code} {b : Nat} {D : va_G} {cy : Nat → ClassId} {G : Gm} {v0 : Nat} {v1 : Int32} {Q : Int32 → St → Prop} (C : CX p s m args meth c b D cy cX11_image RX11 3 (some .int)) (hE : s.heap.size + 0 ≤ b + G.2.2) (t_v0 : ok G 10 v0) : ∀ k (v2 : Int32) S, f_X11_image_23_n G v0 v1 Q k v2 S → J p l e rm_X11_image s m args below meth c b D cy 3 (zI b D cy below args s G Q) 0 0 G S 23 [(0, .ref (b + v0)), (1, .int v1), (2, .int v2)] [] := by
  intro k
  induction k with
  | zero => intro v2 S h; exact h.elim
  | succ k ih =>
    intro v2 S h
    unfold f_X11_image_23_n at h
    refine jB C [(.iload_n 2, 1, 0), (.sipush 5485, 3, 5485)] 27 [(0, .ref (b + v0)), (1, .int v1), (2, .int v2)] [.int 5485, .int v2] (by decide +kernel) rfl rfl ?_
    refine jIcmp_ge C 30 54 (by decide +kernel : decode cX11_image 27 = .ok (.if_icmp .ge 27, 3)) rfl rfl (fun c1 => ?_) (fun c1 => ?_)
    · have h := it1 h c1
      refine jB C [(.aload_n 0, 1, 0)] 55 [(0, .ref (b + v0)), (1, .int v1), (2, .int v2)] [.ref (b + v0)] (by decide +kernel) rfl rfl ?_
      obtain ⟨a2, e_a2, h⟩ := h
      refine jGetR C 58 (by decide +kernel : decode cX11_image 55 = .ok (.getfield 22, 3)) rfl t_v0 kX11 6 (by decide) rfl rfl (by decide) wd_1160 e_a2 rfl (fun t_a2 => ?_)
      refine jB C [(.iload_n 1, 1, 0), (.iconst 1, 1, 1)] 60 [(0, .ref (b + v0)), (1, .int v1), (2, .int v2)] [.int 1, .int v1, .ref (b + a2)] (by decide +kernel) rfl rfl ?_
      obtain ⟨y3, h⟩ := h
      refine jZast C 61 (by decide +kernel : decode cX11_image 60 = .ok (.bastore, 1)) rfl hE t_a2 y3 (by decide) ?_
      refine jTopS (fun S4 e_S4 => ?_)
      have h := h S4 e_S4
      refine jB C [(.aload_n 0, 1, 0), (.iconst 0, 1, 0)] 63 [(0, .ref (b + v0)), (1, .int v1), (2, .int v2)] [.int 0, .ref (b + v0)] (by decide +kernel) rfl rfl ?_
      refine jcV_I C 66 (rest := []) (ok_X11_tell t_v0 h) (by decide +kernel : decode cX11_image 63 = .ok (.invokevirtual 174, 3)) rfl wd_1340 wd_1342 wp_99 wd_12 wd_1343 ⟨rfl, rfl⟩ hd_X11_tell ⟨Nat.le_of_ble_eq_true rfl, Nat.le_of_ble_eq_true rfl⟩ t_v0 kX11 (by decide) rfl rfl rfl (Nat.le_of_ble_eq_true rfl) ⟨Nat.zero_le _, Nat.zero_le _⟩ (fun r6 S5 h => ?_)
      exact jRetI C (by decide +kernel : decode cX11_image 66 = .ok (.ireturn, 1)) (Nat.le_refl _) (Nat.le_refl _) ⟨rfl, h⟩
    · have h := it2 h c1
      refine jB C [(.aload_n 0, 1, 0)] 31 [(0, .ref (b + v0)), (1, .int v1), (2, .int v2)] [.ref (b + v0)] (by decide +kernel) rfl rfl ?_
      obtain ⟨a7, e_a7, h⟩ := h
      refine jGetR C 34 (by decide +kernel : decode cX11_image 31 = .ok (.getfield 19, 3)) rfl t_v0 kX11 5 (by decide) rfl rfl (by decide) wd_1159 e_a7 rfl (fun t_a7 => ?_)
      refine jB C [(.sipush 5485, 3, 5485), (.iload_n 1, 1, 0), (.imul, 1, 0), (.iload_n 2, 1, 0), (.iadd, 1, 0), (.aload_n 0, 1, 0)] 42 [(0, .ref (b + v0)), (1, .int v1), (2, .int v2)] [.ref (b + v0), .int ((5485 * v1) + v2), .ref (b + a7)] (by decide +kernel) rfl rfl ?_
      obtain ⟨a8, e_a8, h⟩ := h
      refine jGetR C 45 (by decide +kernel : decode cX11_image 42 = .ok (.getfield 16, 3)) rfl t_v0 kX11 4 (by decide) rfl rfl (by decide) wd_1158 e_a8 rfl (fun t_a8 => ?_)
      refine jB C [(.iload_n 2, 1, 0)] 46 [(0, .ref (b + v0)), (1, .int v1), (2, .int v2)] [.int v2, .ref (b + a8), .int ((5485 * v1) + v2), .ref (b + a7)] (by decide +kernel) rfl rfl ?_
      obtain ⟨y9, h⟩ := h
      refine jIald C 47 (by decide +kernel : decode cX11_image 46 = .ok (.iaload, 1)) rfl t_a8 y9 ?_
      obtain ⟨y10, h⟩ := h
      refine jIast C 48 (by decide +kernel : decode cX11_image 47 = .ok (.iastore, 1)) rfl hE t_a7 y10 ?_
      refine jTopS (fun S11 e_S11 => ?_)
      have h := h S11 e_S11
      refine jB C [(.iinc 2 1, 3, 1)] 51 [(2, .int (v2 + 1)), (0, .ref (b + v0)), (1, .int v1)] [] (by decide +kernel) rfl rfl ?_
      refine jGoto C 23 (by decide +kernel : decode cX11_image 51 = .ok (.goto (-28), 3)) rfl ?_
      refine jSub [1, 2, 0] rfl ?_
      exact ih (v2 + 1) S11 h
theorem j_X11_image_23 {p : Program} {l : Launch} {e : Env} {s : State} {m : MethodId} {args : Array Value} {below : List Frame} {meth : Method} {c : Code} {b : Nat} {D : va_G} {cy : Nat → ClassId} {G : Gm} {v0 : Nat} {v1 : Int32} {v2 : Int32} {S : St} {Q : Int32 → St → Prop} (C : CX p s m args meth c b D cy cX11_image RX11 3 (some .int)) (hE : s.heap.size + 0 ≤ b + G.2.2) (t_v0 : ok G 10 v0) (h : f_X11_image_23 G v0 v1 Q v2 S) : J p l e rm_X11_image s m args below meth c b D cy 3 (zI b D cy below args s G Q) 0 0 G S 23 [(0, .ref (b + v0)), (1, .int v1), (2, .int v2)] [] := by
  obtain ⟨k, h⟩ := h
  exact j_X11_image_23_n C hE t_v0 k v2 S h
set_option maxHeartbeats 4000000 in
set_option maxRecDepth 100000 in
theorem j_X11_image {p : Program} {l : Launch} {e : Env} {s : State} {m : MethodId} {args : Array Value} {below : List Frame} {meth : Method} {c : Code} {b : Nat} {D : va_G} {cy : Nat → ClassId} {G : Gm} {v0 : Nat} {v1 : Int32} {S : St} {Q : Int32 → St → Prop} (C : CX p s m args meth c b D cy cX11_image RX11 3 (some .int)) (hE : s.heap.size + 0 ≤ b + G.2.2) (t_v0 : ok G 10 v0) (h : f_X11_image G v0 v1 Q S) : J p l e rm_X11_image s m args below meth c b D cy 3 (zI b D cy below args s G Q) 0 0 G S 0 [(0, .ref (b + v0)), (1, .int v1)] [] := by
  unfold f_X11_image at h
  refine jB C [(.aload_n 0, 1, 0), (.iconst 0, 1, 0)] 2 [(0, .ref (b + v0)), (1, .int v1)] [.int 0, .ref (b + v0)] (by decide +kernel) rfl rfl ?_
  refine jPutI C 5 (by decide +kernel : decode cX11_image 2 = .ok (.putfield 165, 3)) rfl hE t_v0 kX11 0 (by decide) rfl rfl (by decide) rfl wd_1154 rfl rfl rfl ?_
  refine jTopS (fun S1 e_S1 => ?_)
  have h := h S1 e_S1
  refine jB C [(.iload_n 1, 1, 0), (.i2l, 1, 0), (.lconst 0, 1, 0), (.lconst 1, 1, 0)] 9 [(0, .ref (b + v0)), (1, .int v1)] [.long 1, .long 0, .long v1.toInt64] (by decide +kernel) rfl rfl ?_
  refine jcS_I C 12 (rest := []) (ok_X11_in h) (by decide +kernel : decode cX11_image 9 = .ok (.invokestatic 185, 3)) rfl wd_1352 wd_1353 wd_12 wd_1354 ⟨rfl, rfl⟩ hd_X11_in ⟨Nat.le_of_ble_eq_true rfl, Nat.le_of_ble_eq_true rfl⟩ rfl rfl (Nat.le_of_ble_eq_true rfl) ⟨Nat.zero_le _, Nat.zero_le _⟩ (fun r3 S2 h => ?_)
  refine jIf_ne C 15 21 (by decide +kernel : decode cX11_image 12 = .ok (.ifCond .ne 9, 3)) rfl rfl (fun c4 => ?_) (fun c4 => ?_)
  · have h := it2 h c4
    refine jB C [(.iconst 0, 1, 0), (.istore_n 2, 1, 0)] 23 [(2, .int 0), (0, .ref (b + v0)), (1, .int v1)] [] (by decide +kernel) rfl rfl ?_
    refine jSub [1, 2, 0] rfl ?_
    exact j_X11_image_23 C hE t_v0 h
  · have h := it1 h c4
    refine jB C [(.aload_n 0, 1, 0), (.iconst (-1), 1, (-1))] 17 [(0, .ref (b + v0)), (1, .int v1)] [.int (-1), .ref (b + v0)] (by decide +kernel) rfl rfl ?_
    refine jcV_I C 20 (rest := []) (ok_X11_tell t_v0 h) (by decide +kernel : decode cX11_image 17 = .ok (.invokevirtual 174, 3)) rfl wd_1340 wd_1342 wp_99 wd_12 wd_1343 ⟨rfl, rfl⟩ hd_X11_tell ⟨Nat.le_of_ble_eq_true rfl, Nat.le_of_ble_eq_true rfl⟩ t_v0 kX11 (by decide) rfl rfl rfl (Nat.le_of_ble_eq_true rfl) ⟨Nat.zero_le _, Nat.zero_le _⟩ (fun r6 S5 h => ?_)
    exact jRetI C (by decide +kernel : decode cX11_image 20 = .ok (.ireturn, 1)) (Nat.le_refl _) (Nat.le_refl _) ⟨rfl, h⟩
theorem ok_X11_image {G : Gm} {v0 : Nat} {v1 : Int32} {S : St} {Q : Int32 → St → Prop}  (t_v0 : ok G 10 v0) (h : f_X11_image G v0 v1 Q S) : MT yX11_image cX11_image 3 (some .int) rm_X11_image 0 0 (fun b => [.ref (b + v0), .int v1]) G S (QI (fun r G1 S1 => G1 = G ∧ Q r S1)) := MT.ofJ (by decide +kernel) (fun b => [(0, .ref (b + v0)), (1, .int v1)]) (fun b => rfl) (fun b => Nat.le_of_ble_eq_true rfl) (fun l b D cy p e s m below meth c C hE hn => j_X11_image C hE t_v0 h)
theorem hd_X11_image : yX11_image.cls ≠ "java/lang/invoke/MethodHandle" ∧ yX11_image.cls ≠ "java/lang/invoke/VarHandle" ∧ (parseMethodDescriptor yX11_image.desc).map (fun d => d.parameters.length) = some 1 := by decide +kernel
abbrev rm_X11_init : Room := { frames := 1, cells := 33, slots := 23833, locals := 30 }
set_option maxHeartbeats 4000000 in
set_option maxRecDepth 100000 in
theorem j_X11_init_499_n {p : Program} {l : Launch} {e : Env} {s : State} {m : MethodId} {args : Array Value} {below : List Frame} {meth : Method} {c : Code} {b : Nat} {D : va_G} {cy : Nat → ClassId} {G : Gm} {G0 : Gm} {k462 : Int32 → St → Prop} {v0 : Nat} {v1 : Int32} {Q : Gm → St → Prop} (C : CX p s m args meth c b D cy cX11_init RX11 4 none) (hI : s.heap.size + 0 ≤ b + G0.2.2) (hin : meth.name = yX11_init.name) (hE : s.heap.size + 33 ≤ b + G.2.2) (hX : ext G0 G) (hN : G.2.2 = G0.2.2 + 33) (t_v0 : ok G 10 v0) (hk462 : ∀ v1' S, k462 v1' S → J p l e rm_X11_init s m args below meth c b D cy 4 (MQ below (QV (fun G1 S1 => (ext G0 G1 ∧ G1.2.2 = G0.2.2 + 33) ∧ Q G1 S1) b D cy) args s 33 23833 (fun q => b ≤ q)) 33 23833 G S 462 [(0, .ref (b + v0)), (1, .int (v1'))] []) : ∀ k (v2 : Int32) (v3 : Int32) S, f_X11_init_499_n G k462 v0 v1 Q k v2 v3 S → J p l e rm_X11_init s m args below meth c b D cy 4 (MQ below (QV (fun G1 S1 => (ext G0 G1 ∧ G1.2.2 = G0.2.2 + 33) ∧ Q G1 S1) b D cy) args s 33 23833 (fun q => b ≤ q)) 33 23833 G S 499 [(0, .ref (b + v0)), (1, .int v1), (2, .int v2), (3, .int v3)] [] := by
  intro k
  induction k with
  | zero => intro v2 v3 S h; exact h.elim
  | succ k ih =>
    intro v2 v3 S h
    unfold f_X11_init_499_n at h
    refine jB C [(.iload_n 3, 1, 0), (.bipush 8, 2, 8)] 502 [(0, .ref (b + v0)), (1, .int v1), (2, .int v2), (3, .int v3)] [.int 8, .int v3] (by decide +kernel) rfl rfl ?_
    refine jIcmp_ge C 505 532 (by decide +kernel : decode cX11_init 502 = .ok (.if_icmp .ge 30, 3)) rfl rfl (fun c1 => ?_) (fun c1 => ?_)
    · have h := it1 h c1
      refine jB C [(.aload_n 0, 1, 0)] 533 [(0, .ref (b + v0)), (1, .int v1), (2, .int v2), (3, .int v3)] [.ref (b + v0)] (by decide +kernel) rfl rfl ?_
      obtain ⟨a2, e_a2, h⟩ := h
      refine jGetR C 536 (by decide +kernel : decode cX11_init 533 = .ok (.getfield 13, 3)) rfl t_v0 kX11 3 (by decide) rfl rfl (by decide) wd_1157 e_a2 rfl (fun t_a2 => ?_)
      refine jB C [(.sipush 512, 3, 512), (.iload_n 1, 1, 0), (.iadd, 1, 0), (.iload_n 2, 1, 0)] 542 [(0, .ref (b + v0)), (1, .int v1), (2, .int v2), (3, .int v3)] [.int v2, .int (512 + v1), .ref (b + a2)] (by decide +kernel) rfl rfl ?_
      obtain ⟨y3, h⟩ := h
      refine jIast C 543 (by decide +kernel : decode cX11_init 542 = .ok (.iastore, 1)) rfl hE t_a2 y3 ?_
      refine jTopS (fun S4 e_S4 => ?_)
      have h := h S4 e_S4
      refine jB C [(.aload_n 0, 1, 0)] 544 [(0, .ref (b + v0)), (1, .int v1), (2, .int v2), (3, .int v3)] [.ref (b + v0)] (by decide +kernel) rfl rfl ?_
      obtain ⟨a5, e_a5, h⟩ := h
      refine jGetR C 547 (by decide +kernel : decode cX11_init 544 = .ok (.getfield 13, 3)) rfl t_v0 kX11 3 (by decide) rfl rfl (by decide) wd_1157 e_a5 rfl (fun t_a5 => ?_)
      refine jB C [(.sipush 768, 3, 768), (.iload_n 1, 1, 0), (.iadd, 1, 0), (.iload_n 1, 1, 0), (.iconst 1, 1, 1), (.ishl, 1, 0), (.iload_n 1, 1, 0), (.bipush 7, 2, 7), (.ishr, 1, 0), (.ior, 1, 0), (.sipush 255, 3, 255), (.iand, 1, 0)] 564 [(0, .ref (b + v0)), (1, .int v1), (2, .int v2), (3, .int v3)] [.int (((v1 <<< ((1 : Int32) &&& 31)) ||| (v1 >>> ((7 : Int32) &&& 31))) &&& 255), .int (768 + v1), .ref (b + a5)] (by decide +kernel) rfl rfl ?_
      obtain ⟨y6, h⟩ := h
      refine jIast C 565 (by decide +kernel : decode cX11_init 564 = .ok (.iastore, 1)) rfl hE t_a5 y6 ?_
      refine jTopS (fun S7 e_S7 => ?_)
      have h := h S7 e_S7
      refine jB C [(.aload_n 0, 1, 0)] 566 [(0, .ref (b + v0)), (1, .int v1), (2, .int v2), (3, .int v3)] [.ref (b + v0)] (by decide +kernel) rfl rfl ?_
      obtain ⟨a8, e_a8, h⟩ := h
      refine jGetR C 569 (by decide +kernel : decode cX11_init 566 = .ok (.getfield 13, 3)) rfl t_v0 kX11 3 (by decide) rfl rfl (by decide) wd_1157 e_a8 rfl (fun t_a8 => ?_)
      refine jB C [(.sipush 1024, 3, 1024), (.iload_n 1, 1, 0), (.iadd, 1, 0), (.iload_n 1, 1, 0), (.bipush 126, 2, 126), (.iand, 1, 0)] 578 [(0, .ref (b + v0)), (1, .int v1), (2, .int v2), (3, .int v3)] [.int (v1 &&& 126), .int (1024 + v1), .ref (b + a8)] (by decide +kernel) rfl rfl ?_
      obtain ⟨y9, h⟩ := h
      refine jIast C 579 (by decide +kernel : decode cX11_init 578 = .ok (.iastore, 1)) rfl hE t_a8 y9 ?_
      refine jTopS (fun S10 e_S10 => ?_)
      have h := h S10 e_S10
      refine jB C [(.aload_n 0, 1, 0)] 580 [(0, .ref (b + v0)), (1, .int v1), (2, .int v2), (3, .int v3)] [.ref (b + v0)] (by decide +kernel) rfl rfl ?_
      obtain ⟨a11, e_a11, h⟩ := h
      refine jGetR C 583 (by decide +kernel : decode cX11_init 580 = .ok (.getfield 13, 3)) rfl t_v0 kX11 3 (by decide) rfl rfl (by decide) wd_1157 e_a11 rfl (fun t_a11 => ?_)
      refine jB C [(.sipush 1280, 3, 1280), (.iload_n 1, 1, 0), (.iadd, 1, 0), (.iload_n 1, 1, 0), (.iconst 4, 1, 4), (.ishl, 1, 0), (.iload_n 1, 1, 0), (.iconst 4, 1, 4), (.ishr, 1, 0), (.ior, 1, 0), (.sipush 255, 3, 255), (.iand, 1, 0)] 599 [(0, .ref (b + v0)), (1, .int v1), (2, .int v2), (3, .int v3)] [.int (((v1 <<< ((4 : Int32) &&& 31)) ||| (v1 >>> ((4 : Int32) &&& 31))) &&& 255), .int (1280 + v1), .ref (b + a11)] (by decide +kernel) rfl rfl ?_
      obtain ⟨y12, h⟩ := h
      refine jIast C 600 (by decide +kernel : decode cX11_init 599 = .ok (.iastore, 1)) rfl hE t_a11 y12 ?_
      refine jTopS (fun S13 e_S13 => ?_)
      have h := h S13 e_S13
      refine jB C [(.aload_n 0, 1, 0)] 601 [(0, .ref (b + v0)), (1, .int v1), (2, .int v2), (3, .int v3)] [.ref (b + v0)] (by decide +kernel) rfl rfl ?_
      obtain ⟨a14, e_a14, h⟩ := h
      refine jGetR C 604 (by decide +kernel : decode cX11_init 601 = .ok (.getfield 13, 3)) rfl t_v0 kX11 3 (by decide) rfl rfl (by decide) wd_1157 e_a14 rfl (fun t_a14 => ?_)
      refine jB C [(.sipush 1536, 3, 1536), (.iload_n 1, 1, 0), (.iadd, 1, 0), (.sipush 255, 3, 255), (.iload_n 1, 1, 0), (.isub, 1, 0)] 614 [(0, .ref (b + v0)), (1, .int v1), (2, .int v2), (3, .int v3)] [.int (255 - v1), .int (1536 + v1), .ref (b + a14)] (by decide +kernel) rfl rfl ?_
      obtain ⟨y15, h⟩ := h
      refine jIast C 615 (by decide +kernel : decode cX11_init 614 = .ok (.iastore, 1)) rfl hE t_a14 y15 ?_
      refine jTopS (fun S16 e_S16 => ?_)
      have h := h S16 e_S16
      refine jB C [(.aload_n 0, 1, 0)] 616 [(0, .ref (b + v0)), (1, .int v1), (2, .int v2), (3, .int v3)] [.ref (b + v0)] (by decide +kernel) rfl rfl ?_
      obtain ⟨a17, e_a17, h⟩ := h
      refine jGetR C 619 (by decide +kernel : decode cX11_init 616 = .ok (.getfield 13, 3)) rfl t_v0 kX11 3 (by decide) rfl rfl (by decide) wd_1157 e_a17 rfl (fun t_a17 => ?_)
      refine jB C [(.sipush 1792, 3, 1792), (.iload_n 1, 1, 0), (.iadd, 1, 0), (.iload_n 1, 1, 0), (.iload_n 1, 1, 0), (.iconst 1, 1, 1), (.ishr, 1, 0), (.iand, 1, 0)] 629 [(0, .ref (b + v0)), (1, .int v1), (2, .int v2), (3, .int v3)] [.int (v1 &&& (v1 >>> ((1 : Int32) &&& 31))), .int (1792 + v1), .ref (b + a17)] (by decide +kernel) rfl rfl ?_
      obtain ⟨y18, h⟩ := h
      refine jIast C 630 (by decide +kernel : decode cX11_init 629 = .ok (.iastore, 1)) rfl hE t_a17 y18 ?_
      refine jTopS (fun S19 e_S19 => ?_)
      have h := h S19 e_S19
      refine jB C [(.iinc 1 1, 3, 1)] 633 [(1, .int (v1 + 1)), (0, .ref (b + v0)), (2, .int v2), (3, .int v3)] [] (by decide +kernel) rfl rfl ?_
      refine jGoto C 462 (by decide +kernel : decode cX11_init 633 = .ok (.goto (-171), 3)) rfl ?_
      refine jSub [1, 0] rfl ?_
      exact hk462 (v1 + 1) S19 h
    · have h := it2 h c1
      refine jB C [(.iload_n 2, 1, 0), (.iload_n 1, 1, 0), (.iload_n 3, 1, 0)] 508 [(0, .ref (b + v0)), (1, .int v1), (2, .int v2), (3, .int v3)] [.int v3, .int v1, .int v2] (by decide +kernel) rfl rfl ?_
      refine jcS_I C 511 (rest := [.int v2]) (ok_X11_is h) (by decide +kernel : decode cX11_init 508 = .ok (.invokestatic 161, 3)) rfl wd_1151 wd_1152 wd_12 wd_1153 ⟨rfl, rfl⟩ hd_X11_is ⟨Nat.le_of_ble_eq_true rfl, Nat.le_of_ble_eq_true rfl⟩ rfl rfl (Nat.le_of_ble_eq_true rfl) ⟨Nat.le_of_ble_eq_true rfl, Nat.le_of_ble_eq_true rfl⟩ (fun r21 S20 h => ?_)
      refine jIf_eq C 514 523 (by decide +kernel : decode cX11_init 511 = .ok (.ifCond .eq 12, 3)) rfl rfl (fun c22 => ?_) (fun c22 => ?_)
      · have h := it1 h c22
        refine jB C [(.iconst 0, 1, 0), (.ior, 1, 0)] 525 [(0, .ref (b + v0)), (1, .int v1), (2, .int v2), (3, .int v3)] [.int (v2 ||| 0)] (by decide +kernel) rfl rfl ?_
        refine jTopI (fun x23 e_x23 => ?_)
        have h := h x23 e_x23
        refine jB C [(.istore_n 2, 1, 0), (.iinc 3 1, 3, 1)] 529 [(3, .int (v3 + 1)), (2, .int x23), (0, .ref (b + v0)), (1, .int v1)] [] (by decide +kernel) rfl rfl ?_
        refine jGoto C 499 (by decide +kernel : decode cX11_init 529 = .ok (.goto (-30), 3)) rfl ?_
        refine jSub [2, 3, 1, 0] rfl ?_
        exact ih x23 (v3 + 1) S20 h
      · have h := it2 h c22
        refine jB C [(.iconst 1, 1, 1), (.bipush 7, 2, 7), (.iload_n 3, 1, 0), (.isub, 1, 0), (.ishl, 1, 0)] 520 [(0, .ref (b + v0)), (1, .int v1), (2, .int v2), (3, .int v3)] [.int (1 <<< (((7 - v3) : Int32) &&& 31)), .int v2] (by decide +kernel) rfl rfl ?_
        refine jGoto C 524 (by decide +kernel : decode cX11_init 520 = .ok (.goto 4, 3)) rfl ?_
        refine jB C [(.ior, 1, 0)] 525 [(0, .ref (b + v0)), (1, .int v1), (2, .int v2), (3, .int v3)] [.int (v2 ||| (1 <<< (((7 - v3) : Int32) &&& 31)))] (by decide +kernel) rfl rfl ?_
        refine jTopI (fun x24 e_x24 => ?_)
        have h := h x24 e_x24
        refine jB C [(.istore_n 2, 1, 0), (.iinc 3 1, 3, 1)] 529 [(3, .int (v3 + 1)), (2, .int x24), (0, .ref (b + v0)), (1, .int v1)] [] (by decide +kernel) rfl rfl ?_
        refine jGoto C 499 (by decide +kernel : decode cX11_init 529 = .ok (.goto (-30), 3)) rfl ?_
        refine jSub [2, 3, 1, 0] rfl ?_
        exact ih x24 (v3 + 1) S20 h
theorem j_X11_init_499 {p : Program} {l : Launch} {e : Env} {s : State} {m : MethodId} {args : Array Value} {below : List Frame} {meth : Method} {c : Code} {b : Nat} {D : va_G} {cy : Nat → ClassId} {G : Gm} {G0 : Gm} {k462 : Int32 → St → Prop} {v0 : Nat} {v1 : Int32} {v2 : Int32} {v3 : Int32} {S : St} {Q : Gm → St → Prop} (C : CX p s m args meth c b D cy cX11_init RX11 4 none) (hI : s.heap.size + 0 ≤ b + G0.2.2) (hin : meth.name = yX11_init.name) (hE : s.heap.size + 33 ≤ b + G.2.2) (hX : ext G0 G) (hN : G.2.2 = G0.2.2 + 33) (t_v0 : ok G 10 v0) (hk462 : ∀ v1' S, k462 v1' S → J p l e rm_X11_init s m args below meth c b D cy 4 (MQ below (QV (fun G1 S1 => (ext G0 G1 ∧ G1.2.2 = G0.2.2 + 33) ∧ Q G1 S1) b D cy) args s 33 23833 (fun q => b ≤ q)) 33 23833 G S 462 [(0, .ref (b + v0)), (1, .int (v1'))] []) (h : f_X11_init_499 G k462 v0 v1 Q v2 v3 S) : J p l e rm_X11_init s m args below meth c b D cy 4 (MQ below (QV (fun G1 S1 => (ext G0 G1 ∧ G1.2.2 = G0.2.2 + 33) ∧ Q G1 S1) b D cy) args s 33 23833 (fun q => b ≤ q)) 33 23833 G S 499 [(0, .ref (b + v0)), (1, .int v1), (2, .int v2), (3, .int v3)] [] := by
  obtain ⟨k, h⟩ := h
  exact j_X11_init_499_n C hI hin hE hX hN t_v0 hk462 k v2 v3 S h
set_option maxHeartbeats 4000000 in
set_option maxRecDepth 100000 in
theorem j_X11_init_462_n {p : Program} {l : Launch} {e : Env} {s : State} {m : MethodId} {args : Array Value} {below : List Frame} {meth : Method} {c : Code} {b : Nat} {D : va_G} {cy : Nat → ClassId} {G : Gm} {G0 : Gm} {v0 : Nat} {Q : Gm → St → Prop} (C : CX p s m args meth c b D cy cX11_init RX11 4 none) (hI : s.heap.size + 0 ≤ b + G0.2.2) (hin : meth.name = yX11_init.name) (hE : s.heap.size + 33 ≤ b + G.2.2) (hX : ext G0 G) (hN : G.2.2 = G0.2.2 + 33) (t_v0 : ok G 10 v0) : ∀ k (v1 : Int32) S, f_X11_init_462_n G v0 Q k v1 S → J p l e rm_X11_init s m args below meth c b D cy 4 (MQ below (QV (fun G1 S1 => (ext G0 G1 ∧ G1.2.2 = G0.2.2 + 33) ∧ Q G1 S1) b D cy) args s 33 23833 (fun q => b ≤ q)) 33 23833 G S 462 [(0, .ref (b + v0)), (1, .int v1)] [] := by
  intro k
  induction k with
  | zero => intro v1 S h; exact h.elim
  | succ k ih =>
    intro v1 S h
    unfold f_X11_init_462_n at h
    refine jB C [(.iload_n 1, 1, 0), (.sipush 256, 3, 256)] 466 [(0, .ref (b + v0)), (1, .int v1)] [.int 256, .int v1] (by decide +kernel) rfl rfl ?_
    refine jIcmp_ge C 469 636 (by decide +kernel : decode cX11_init 466 = .ok (.if_icmp .ge 170, 3)) rfl rfl (fun c1 => ?_) (fun c1 => ?_)
    · have h := it1 h c1
      exact jRetV C (by decide +kernel : decode cX11_init 636 = .ok (.return_, 1)) (Nat.le_of_ble_eq_true rfl) (Nat.le_of_ble_eq_true rfl) ⟨⟨hX, hN⟩, h⟩
    · have h := it2 h c1
      refine jB C [(.aload_n 0, 1, 0)] 470 [(0, .ref (b + v0)), (1, .int v1)] [.ref (b + v0)] (by decide +kernel) rfl rfl ?_
      obtain ⟨a2, e_a2, h⟩ := h
      refine jGetR C 473 (by decide +kernel : decode cX11_init 470 = .ok (.getfield 13, 3)) rfl t_v0 kX11 3 (by decide) rfl rfl (by decide) wd_1157 e_a2 rfl (fun t_a2 => ?_)
      refine jB C [(.iload_n 1, 1, 0), (.iload_n 1, 1, 0)] 475 [(0, .ref (b + v0)), (1, .int v1)] [.int v1, .int v1, .ref (b + a2)] (by decide +kernel) rfl rfl ?_
      obtain ⟨y3, h⟩ := h
      refine jIast C 476 (by decide +kernel : decode cX11_init 475 = .ok (.iastore, 1)) rfl hE t_a2 y3 ?_
      refine jTopS (fun S4 e_S4 => ?_)
      have h := h S4 e_S4
      refine jB C [(.aload_n 0, 1, 0)] 477 [(0, .ref (b + v0)), (1, .int v1)] [.ref (b + v0)] (by decide +kernel) rfl rfl ?_
      obtain ⟨a5, e_a5, h⟩ := h
      refine jGetR C 480 (by decide +kernel : decode cX11_init 477 = .ok (.getfield 13, 3)) rfl t_v0 kX11 3 (by decide) rfl rfl (by decide) wd_1157 e_a5 rfl (fun t_a5 => ?_)
      refine jB C [(.sipush 256, 3, 256), (.iload_n 1, 1, 0), (.iadd, 1, 0), (.iload_n 1, 1, 0), (.iload_n 1, 1, 0), (.iconst 1, 1, 1), (.ishl, 1, 0), (.ior, 1, 0), (.sipush 255, 3, 255), (.iand, 1, 0)] 494 [(0, .ref (b + v0)), (1, .int v1)] [.int ((v1 ||| (v1 <<< ((1 : Int32) &&& 31))) &&& 255), .int (256 + v1), .ref (b + a5)] (by decide +kernel) rfl rfl ?_
      obtain ⟨y6, h⟩ := h
      refine jIast C 495 (by decide +kernel : decode cX11_init 494 = .ok (.iastore, 1)) rfl hE t_a5 y6 ?_
      refine jTopS (fun S7 e_S7 => ?_)
      have h := h S7 e_S7
      refine jB C [(.iconst 0, 1, 0), (.istore_n 2, 1, 0), (.iconst 0, 1, 0), (.istore_n 3, 1, 0)] 499 [(3, .int 0), (2, .int 0), (0, .ref (b + v0)), (1, .int v1)] [] (by decide +kernel) rfl rfl ?_
      refine jSub [2, 3, 1, 0] rfl ?_
      exact j_X11_init_499 C hI hin hE hX hN t_v0 ih h
theorem j_X11_init_462 {p : Program} {l : Launch} {e : Env} {s : State} {m : MethodId} {args : Array Value} {below : List Frame} {meth : Method} {c : Code} {b : Nat} {D : va_G} {cy : Nat → ClassId} {G : Gm} {G0 : Gm} {v0 : Nat} {v1 : Int32} {S : St} {Q : Gm → St → Prop} (C : CX p s m args meth c b D cy cX11_init RX11 4 none) (hI : s.heap.size + 0 ≤ b + G0.2.2) (hin : meth.name = yX11_init.name) (hE : s.heap.size + 33 ≤ b + G.2.2) (hX : ext G0 G) (hN : G.2.2 = G0.2.2 + 33) (t_v0 : ok G 10 v0) (h : f_X11_init_462 G v0 Q v1 S) : J p l e rm_X11_init s m args below meth c b D cy 4 (MQ below (QV (fun G1 S1 => (ext G0 G1 ∧ G1.2.2 = G0.2.2 + 33) ∧ Q G1 S1) b D cy) args s 33 23833 (fun q => b ≤ q)) 33 23833 G S 462 [(0, .ref (b + v0)), (1, .int v1)] [] := by
  obtain ⟨k, h⟩ := h
  exact j_X11_init_462_n C hI hin hE hX hN t_v0 k v1 S h
set_option maxHeartbeats 4000000 in
set_option maxRecDepth 100000 in
theorem j_X11_init {p : Program} {l : Launch} {e : Env} {s : State} {m : MethodId} {args : Array Value} {below : List Frame} {meth : Method} {c : Code} {b : Nat} {D : va_G} {cy : Nat → ClassId} {G : Gm} {G0 : Gm} {v0 : Nat} {S : St} {Q : Gm → St → Prop} (C : CX p s m args meth c b D cy cX11_init RX11 4 none) (hI : s.heap.size + 0 ≤ b + G0.2.2) (hin : meth.name = yX11_init.name) (hE : s.heap.size + 0 ≤ b + G.2.2) (hX : ext G0 G) (hN : G.2.2 = G0.2.2 + 0) (t_v0 : ok G 10 v0) (h : f_X11_init G v0 Q S) : J p l e rm_X11_init s m args below meth c b D cy 4 (MQ below (QV (fun G1 S1 => (ext G0 G1 ∧ G1.2.2 = G0.2.2 + 33) ∧ Q G1 S1) b D cy) args s 33 23833 (fun q => b ≤ q)) 0 0 G S 0 [(0, .ref (b + v0))] [] := by
  unfold f_X11_init at h
  refine jB C [(.aload_n 0, 1, 0)] 1 [(0, .ref (b + v0))] [.ref (b + v0)] (by decide +kernel) rfl rfl ?_
  refine jObj C 4 (by decide +kernel : decode cX11_init 1 = .ok (.invokespecial 1, 3)) rfl wd_1130 (Nat.le_of_ble_eq_true rfl) (Nat.le_of_ble_eq_true rfl) (Nat.le_of_ble_eq_true rfl) ?_
  refine jB C [(.aload_n 0, 1, 0), (.bipush 7, 2, 7)] 7 [(0, .ref (b + v0))] [.int 7, .ref (b + v0)] (by decide +kernel) rfl rfl ?_
  refine jNewI C 9 7 (by decide +kernel : decode cX11_init 7 = .ok (.newarray .int, 2)) rfl hE wa_I (by decide) (by decide) (by decide) (Nat.le_of_ble_eq_true rfl) (Nat.le_of_ble_eq_true rfl) (fun a1 G2 S3 e_a1 e_G2 e_S3 => ?_)
  have h := h a1 e_a1 G2 e_G2 S3 e_S3
  have X4 : ext G G2 := by rw [e_G2]; exact ext.new
  have N5 : G2.2.2 = G.2.2 + 1 := by rw [e_G2]; rfl
  have X7 := hX.tr X4
  have N8 : G2.2.2 = G0.2.2 + 1 := by omega
  have E6 : s.heap.size + 1 ≤ b + G2.2.2 := by omega
  have t_a1 : ok G2 11 a1 := by rw [e_G2, e_a1]; exact ok_new
  refine jPutRF C 12 (by decide +kernel : decode cX11_init 9 = .ok (.putfield 7, 3)) rfl E6 (X4.ok t_v0) kX11 2 (by decide) rfl rfl (by decide) rfl hin rfl wd_1156 rfl rfl rfl (fun t ht => by cases ht; exact t_a1) ?_
  refine jTopS (fun S9 e_S9 => ?_)
  have h := h S9 e_S9
  refine jB C [(.aload_n 0, 1, 0), (.sipush 2048, 3, 2048)] 16 [(0, .ref (b + v0))] [.int 2048, .ref (b + v0)] (by decide +kernel) rfl rfl ?_
  refine jNewI C 18 2048 (by decide +kernel : decode cX11_init 16 = .ok (.newarray .int, 2)) rfl E6 wa_I (by decide) (by decide) (by decide) (Nat.le_of_ble_eq_true rfl) (Nat.le_of_ble_eq_true rfl) (fun a10 G11 S12 e_a10 e_G11 e_S12 => ?_)
  have h := h a10 e_a10 G11 e_G11 S12 e_S12
  have X13 : ext G2 G11 := by rw [e_G11]; exact ext.new
  have N14 : G11.2.2 = G2.2.2 + 1 := by rw [e_G11]; rfl
  have X16 := X7.tr X13
  have N17 : G11.2.2 = G0.2.2 + 2 := by omega
  have E15 : s.heap.size + 2 ≤ b + G11.2.2 := by omega
  have t_a10 : ok G11 11 a10 := by rw [e_G11, e_a10]; exact ok_new
  refine jPutRF C 21 (by decide +kernel : decode cX11_init 18 = .ok (.putfield 13, 3)) rfl E15 (X13.ok (X4.ok t_v0)) kX11 3 (by decide) rfl rfl (by decide) rfl hin rfl wd_1157 rfl rfl rfl (fun t ht => by cases ht; exact t_a10) ?_
  refine jTopS (fun S18 e_S18 => ?_)
  have h := h S18 e_S18
  refine jB C [(.aload_n 0, 1, 0), (.sipush 5485, 3, 5485)] 25 [(0, .ref (b + v0))] [.int 5485, .ref (b + v0)] (by decide +kernel) rfl rfl ?_
  refine jNewI C 27 5485 (by decide +kernel : decode cX11_init 25 = .ok (.newarray .int, 2)) rfl E15 wa_I (by decide) (by decide) (by decide) (Nat.le_of_ble_eq_true rfl) (Nat.le_of_ble_eq_true rfl) (fun a19 G20 S21 e_a19 e_G20 e_S21 => ?_)
  have h := h a19 e_a19 G20 e_G20 S21 e_S21
  have X22 : ext G11 G20 := by rw [e_G20]; exact ext.new
  have N23 : G20.2.2 = G11.2.2 + 1 := by rw [e_G20]; rfl
  have X25 := X16.tr X22
  have N26 : G20.2.2 = G0.2.2 + 3 := by omega
  have E24 : s.heap.size + 3 ≤ b + G20.2.2 := by omega
  have t_a19 : ok G20 11 a19 := by rw [e_G20, e_a19]; exact ok_new
  refine jPutRF C 30 (by decide +kernel : decode cX11_init 27 = .ok (.putfield 16, 3)) rfl E24 (X22.ok (X13.ok (X4.ok t_v0))) kX11 4 (by decide) rfl rfl (by decide) rfl hin rfl wd_1158 rfl rfl rfl (fun t ht => by cases ht; exact t_a19) ?_
  refine jTopS (fun S27 e_S27 => ?_)
  have h := h S27 e_S27
  refine jB C [(.aload_n 0, 1, 0), (.sipush 10970, 3, 10970)] 34 [(0, .ref (b + v0))] [.int 10970, .ref (b + v0)] (by decide +kernel) rfl rfl ?_
  refine jNewI C 36 10970 (by decide +kernel : decode cX11_init 34 = .ok (.newarray .int, 2)) rfl E24 wa_I (by decide) (by decide) (by decide) (Nat.le_of_ble_eq_true rfl) (Nat.le_of_ble_eq_true rfl) (fun a28 G29 S30 e_a28 e_G29 e_S30 => ?_)
  have h := h a28 e_a28 G29 e_G29 S30 e_S30
  have X31 : ext G20 G29 := by rw [e_G29]; exact ext.new
  have N32 : G29.2.2 = G20.2.2 + 1 := by rw [e_G29]; rfl
  have X34 := X25.tr X31
  have N35 : G29.2.2 = G0.2.2 + 4 := by omega
  have E33 : s.heap.size + 4 ≤ b + G29.2.2 := by omega
  have t_a28 : ok G29 11 a28 := by rw [e_G29, e_a28]; exact ok_new
  refine jPutRF C 39 (by decide +kernel : decode cX11_init 36 = .ok (.putfield 19, 3)) rfl E33 (X31.ok (X22.ok (X13.ok (X4.ok t_v0)))) kX11 5 (by decide) rfl rfl (by decide) rfl hin rfl wd_1159 rfl rfl rfl (fun t ht => by cases ht; exact t_a28) ?_
  refine jTopS (fun S36 e_S36 => ?_)
  have h := h S36 e_S36
  refine jB C [(.aload_n 0, 1, 0), (.iconst 2, 1, 2)] 41 [(0, .ref (b + v0))] [.int 2, .ref (b + v0)] (by decide +kernel) rfl rfl ?_
  refine jNewZ C 43 2 (by decide +kernel : decode cX11_init 41 = .ok (.newarray .boolean, 2)) rfl E33 wa_Z (by decide) (by decide) (by decide) (Nat.le_of_ble_eq_true rfl) (Nat.le_of_ble_eq_true rfl) (fun a37 G38 S39 e_a37 e_G38 e_S39 => ?_)
  have h := h a37 e_a37 G38 e_G38 S39 e_S39
  have X40 : ext G29 G38 := by rw [e_G38]; exact ext.new
  have N41 : G38.2.2 = G29.2.2 + 1 := by rw [e_G38]; rfl
  have X43 := X34.tr X40
  have N44 : G38.2.2 = G0.2.2 + 5 := by omega
  have E42 : s.heap.size + 5 ≤ b + G38.2.2 := by omega
  have t_a37 : ok G38 13 a37 := by rw [e_G38, e_a37]; exact ok_new
  refine jPutRF C 46 (by decide +kernel : decode cX11_init 43 = .ok (.putfield 22, 3)) rfl E42 (X40.ok (X31.ok (X22.ok (X13.ok (X4.ok t_v0))))) kX11 6 (by decide) rfl rfl (by decide) rfl hin rfl wd_1160 rfl rfl rfl (fun t ht => by cases ht; exact t_a37) ?_
  refine jTopS (fun S45 e_S45 => ?_)
  have h := h S45 e_S45
  refine jB C [(.aload_n 0, 1, 0), (.sipush 1044, 3, 1044)] 50 [(0, .ref (b + v0))] [.int 1044, .ref (b + v0)] (by decide +kernel) rfl rfl ?_
  refine jNewI C 52 1044 (by decide +kernel : decode cX11_init 50 = .ok (.newarray .int, 2)) rfl E42 wa_I (by decide) (by decide) (by decide) (Nat.le_of_ble_eq_true rfl) (Nat.le_of_ble_eq_true rfl) (fun a46 G47 S48 e_a46 e_G47 e_S48 => ?_)
  have h := h a46 e_a46 G47 e_G47 S48 e_S48
  have X49 : ext G38 G47 := by rw [e_G47]; exact ext.new
  have N50 : G47.2.2 = G38.2.2 + 1 := by rw [e_G47]; rfl
  have X52 := X43.tr X49
  have N53 : G47.2.2 = G0.2.2 + 6 := by omega
  have E51 : s.heap.size + 6 ≤ b + G47.2.2 := by omega
  have t_a46 : ok G47 11 a46 := by rw [e_G47, e_a46]; exact ok_new
  refine jPutRF C 55 (by decide +kernel : decode cX11_init 52 = .ok (.putfield 26, 3)) rfl E51 (X49.ok (X40.ok (X31.ok (X22.ok (X13.ok (X4.ok t_v0)))))) kX11 7 (by decide) rfl rfl (by decide) rfl hin rfl wd_1161 rfl rfl rfl (fun t ht => by cases ht; exact t_a46) ?_
  refine jTopS (fun S54 e_S54 => ?_)
  have h := h S54 e_S54
  refine jB C [(.aload_n 0, 1, 0), (.bipush 16, 2, 16)] 58 [(0, .ref (b + v0))] [.int 16, .ref (b + v0)] (by decide +kernel) rfl rfl ?_
  refine jNewI C 60 16 (by decide +kernel : decode cX11_init 58 = .ok (.newarray .int, 2)) rfl E51 wa_I (by decide) (by decide) (by decide) (Nat.le_of_ble_eq_true rfl) (Nat.le_of_ble_eq_true rfl) (fun a55 G56 S57 e_a55 e_G56 e_S57 => ?_)
  have h := h a55 e_a55 G56 e_G56 S57 e_S57
  have X58 : ext G47 G56 := by rw [e_G56]; exact ext.new
  have N59 : G56.2.2 = G47.2.2 + 1 := by rw [e_G56]; rfl
  have X61 := X52.tr X58
  have N62 : G56.2.2 = G0.2.2 + 7 := by omega
  have E60 : s.heap.size + 7 ≤ b + G56.2.2 := by omega
  have t_a55 : ok G56 11 a55 := by rw [e_G56, e_a55]; exact ok_new
  refine jPutRF C 63 (by decide +kernel : decode cX11_init 60 = .ok (.putfield 29, 3)) rfl E60 (X58.ok (X49.ok (X40.ok (X31.ok (X22.ok (X13.ok (X4.ok t_v0))))))) kX11 8 (by decide) rfl rfl (by decide) rfl hin rfl wd_1162 rfl rfl rfl (fun t ht => by cases ht; exact t_a55) ?_
  refine jTopS (fun S63 e_S63 => ?_)
  have h := h S63 e_S63
  refine jB C [(.aload_n 0, 1, 0), (.sipush 928, 3, 928)] 67 [(0, .ref (b + v0))] [.int 928, .ref (b + v0)] (by decide +kernel) rfl rfl ?_
  refine jNewI C 69 928 (by decide +kernel : decode cX11_init 67 = .ok (.newarray .int, 2)) rfl E60 wa_I (by decide) (by decide) (by decide) (Nat.le_of_ble_eq_true rfl) (Nat.le_of_ble_eq_true rfl) (fun a64 G65 S66 e_a64 e_G65 e_S66 => ?_)
  have h := h a64 e_a64 G65 e_G65 S66 e_S66
  have X67 : ext G56 G65 := by rw [e_G65]; exact ext.new
  have N68 : G65.2.2 = G56.2.2 + 1 := by rw [e_G65]; rfl
  have X70 := X61.tr X67
  have N71 : G65.2.2 = G0.2.2 + 8 := by omega
  have E69 : s.heap.size + 8 ≤ b + G65.2.2 := by omega
  have t_a64 : ok G65 11 a64 := by rw [e_G65, e_a64]; exact ok_new
  refine jPutRF C 72 (by decide +kernel : decode cX11_init 69 = .ok (.putfield 32, 3)) rfl E69 (X67.ok (X58.ok (X49.ok (X40.ok (X31.ok (X22.ok (X13.ok (X4.ok t_v0)))))))) kX11 10 (by decide) rfl rfl (by decide) rfl hin rfl wd_1164 rfl rfl rfl (fun t ht => by cases ht; exact t_a64) ?_
  refine jTopS (fun S72 e_S72 => ?_)
  have h := h S72 e_S72
  refine jB C [(.aload_n 0, 1, 0), (.bipush 16, 2, 16)] 75 [(0, .ref (b + v0))] [.int 16, .ref (b + v0)] (by decide +kernel) rfl rfl ?_
  refine jNewI C 77 16 (by decide +kernel : decode cX11_init 75 = .ok (.newarray .int, 2)) rfl E69 wa_I (by decide) (by decide) (by decide) (Nat.le_of_ble_eq_true rfl) (Nat.le_of_ble_eq_true rfl) (fun a73 G74 S75 e_a73 e_G74 e_S75 => ?_)
  have h := h a73 e_a73 G74 e_G74 S75 e_S75
  have X76 : ext G65 G74 := by rw [e_G74]; exact ext.new
  have N77 : G74.2.2 = G65.2.2 + 1 := by rw [e_G74]; rfl
  have X79 := X70.tr X76
  have N80 : G74.2.2 = G0.2.2 + 9 := by omega
  have E78 : s.heap.size + 9 ≤ b + G74.2.2 := by omega
  have t_a73 : ok G74 11 a73 := by rw [e_G74, e_a73]; exact ok_new
  refine jPutRF C 80 (by decide +kernel : decode cX11_init 77 = .ok (.putfield 35, 3)) rfl E78 (X76.ok (X67.ok (X58.ok (X49.ok (X40.ok (X31.ok (X22.ok (X13.ok (X4.ok t_v0))))))))) kX11 11 (by decide) rfl rfl (by decide) rfl hin rfl wd_1165 rfl rfl rfl (fun t ht => by cases ht; exact t_a73) ?_
  refine jTopS (fun S81 e_S81 => ?_)
  have h := h S81 e_S81
  refine jB C [(.aload_n 0, 1, 0), (.sipush 400, 3, 400)] 84 [(0, .ref (b + v0))] [.int 400, .ref (b + v0)] (by decide +kernel) rfl rfl ?_
  refine jNewI C 86 400 (by decide +kernel : decode cX11_init 84 = .ok (.newarray .int, 2)) rfl E78 wa_I (by decide) (by decide) (by decide) (Nat.le_of_ble_eq_true rfl) (Nat.le_of_ble_eq_true rfl) (fun a82 G83 S84 e_a82 e_G83 e_S84 => ?_)
  have h := h a82 e_a82 G83 e_G83 S84 e_S84
  have X85 : ext G74 G83 := by rw [e_G83]; exact ext.new
  have N86 : G83.2.2 = G74.2.2 + 1 := by rw [e_G83]; rfl
  have X88 := X79.tr X85
  have N89 : G83.2.2 = G0.2.2 + 10 := by omega
  have E87 : s.heap.size + 10 ≤ b + G83.2.2 := by omega
  have t_a82 : ok G83 11 a82 := by rw [e_G83, e_a82]; exact ok_new
  refine jPutRF C 89 (by decide +kernel : decode cX11_init 86 = .ok (.putfield 38, 3)) rfl E87 (X85.ok (X76.ok (X67.ok (X58.ok (X49.ok (X40.ok (X31.ok (X22.ok (X13.ok (X4.ok t_v0)))))))))) kX11 13 (by decide) rfl rfl (by decide) rfl hin rfl wd_1167 rfl rfl rfl (fun t ht => by cases ht; exact t_a82) ?_
  refine jTopS (fun S90 e_S90 => ?_)
  have h := h S90 e_S90
  refine jB C [(.aload_n 0, 1, 0), (.iconst (-1), 1, (-1))] 91 [(0, .ref (b + v0))] [.int (-1), .ref (b + v0)] (by decide +kernel) rfl rfl ?_
  refine jPutI C 94 (by decide +kernel : decode cX11_init 91 = .ok (.putfield 41, 3)) rfl E87 (X85.ok (X76.ok (X67.ok (X58.ok (X49.ok (X40.ok (X31.ok (X22.ok (X13.ok (X4.ok t_v0)))))))))) kX11 19 (by decide) rfl rfl (by decide) rfl wd_1173 rfl rfl rfl ?_
  refine jTopS (fun S91 e_S91 => ?_)
  have h := h S91 e_S91
  refine jB C [(.aload_n 0, 1, 0), (.bipush 96, 2, 96)] 97 [(0, .ref (b + v0))] [.int 96, .ref (b + v0)] (by decide +kernel) rfl rfl ?_
  refine jNewI C 99 96 (by decide +kernel : decode cX11_init 97 = .ok (.newarray .int, 2)) rfl E87 wa_I (by decide) (by decide) (by decide) (Nat.le_of_ble_eq_true rfl) (Nat.le_of_ble_eq_true rfl) (fun a92 G93 S94 e_a92 e_G93 e_S94 => ?_)
  have h := h a92 e_a92 G93 e_G93 S94 e_S94
  have X95 : ext G83 G93 := by rw [e_G93]; exact ext.new
  have N96 : G93.2.2 = G83.2.2 + 1 := by rw [e_G93]; rfl
  have X98 := X88.tr X95
  have N99 : G93.2.2 = G0.2.2 + 11 := by omega
  have E97 : s.heap.size + 11 ≤ b + G93.2.2 := by omega
  have t_a92 : ok G93 11 a92 := by rw [e_G93, e_a92]; exact ok_new
  refine jPutRF C 102 (by decide +kernel : decode cX11_init 99 = .ok (.putfield 45, 3)) rfl E97 (X95.ok (X85.ok (X76.ok (X67.ok (X58.ok (X49.ok (X40.ok (X31.ok (X22.ok (X13.ok (X4.ok t_v0))))))))))) kX11 23 (by decide) rfl rfl (by decide) rfl hin rfl wd_1177 rfl rfl rfl (fun t ht => by cases ht; exact t_a92) ?_
  refine jTopS (fun S100 e_S100 => ?_)
  have h := h S100 e_S100
  refine jB C [(.aload_n 0, 1, 0), (.sipush 400, 3, 400)] 106 [(0, .ref (b + v0))] [.int 400, .ref (b + v0)] (by decide +kernel) rfl rfl ?_
  refine jNewI C 108 400 (by decide +kernel : decode cX11_init 106 = .ok (.newarray .int, 2)) rfl E97 wa_I (by decide) (by decide) (by decide) (Nat.le_of_ble_eq_true rfl) (Nat.le_of_ble_eq_true rfl) (fun a101 G102 S103 e_a101 e_G102 e_S103 => ?_)
  have h := h a101 e_a101 G102 e_G102 S103 e_S103
  have X104 : ext G93 G102 := by rw [e_G102]; exact ext.new
  have N105 : G102.2.2 = G93.2.2 + 1 := by rw [e_G102]; rfl
  have X107 := X98.tr X104
  have N108 : G102.2.2 = G0.2.2 + 12 := by omega
  have E106 : s.heap.size + 12 ≤ b + G102.2.2 := by omega
  have t_a101 : ok G102 11 a101 := by rw [e_G102, e_a101]; exact ok_new
  refine jPutRF C 111 (by decide +kernel : decode cX11_init 108 = .ok (.putfield 48, 3)) rfl E106 (X104.ok (X95.ok (X85.ok (X76.ok (X67.ok (X58.ok (X49.ok (X40.ok (X31.ok (X22.ok (X13.ok (X4.ok t_v0)))))))))))) kX11 25 (by decide) rfl rfl (by decide) rfl hin rfl wd_1179 rfl rfl rfl (fun t ht => by cases ht; exact t_a101) ?_
  refine jTopS (fun S109 e_S109 => ?_)
  have h := h S109 e_S109
  refine jB C [(.aload_n 0, 1, 0), (.sipush 400, 3, 400)] 115 [(0, .ref (b + v0))] [.int 400, .ref (b + v0)] (by decide +kernel) rfl rfl ?_
  refine jNewI C 117 400 (by decide +kernel : decode cX11_init 115 = .ok (.newarray .int, 2)) rfl E106 wa_I (by decide) (by decide) (by decide) (Nat.le_of_ble_eq_true rfl) (Nat.le_of_ble_eq_true rfl) (fun a110 G111 S112 e_a110 e_G111 e_S112 => ?_)
  have h := h a110 e_a110 G111 e_G111 S112 e_S112
  have X113 : ext G102 G111 := by rw [e_G111]; exact ext.new
  have N114 : G111.2.2 = G102.2.2 + 1 := by rw [e_G111]; rfl
  have X116 := X107.tr X113
  have N117 : G111.2.2 = G0.2.2 + 13 := by omega
  have E115 : s.heap.size + 13 ≤ b + G111.2.2 := by omega
  have t_a110 : ok G111 11 a110 := by rw [e_G111, e_a110]; exact ok_new
  refine jPutRF C 120 (by decide +kernel : decode cX11_init 117 = .ok (.putfield 51, 3)) rfl E115 (X113.ok (X104.ok (X95.ok (X85.ok (X76.ok (X67.ok (X58.ok (X49.ok (X40.ok (X31.ok (X22.ok (X13.ok (X4.ok t_v0))))))))))))) kX11 26 (by decide) rfl rfl (by decide) rfl hin rfl wd_1180 rfl rfl rfl (fun t ht => by cases ht; exact t_a110) ?_
  refine jTopS (fun S118 e_S118 => ?_)
  have h := h S118 e_S118
  refine jB C [(.aload_n 0, 1, 0), (.sipush 400, 3, 400)] 124 [(0, .ref (b + v0))] [.int 400, .ref (b + v0)] (by decide +kernel) rfl rfl ?_
  refine jNewI C 126 400 (by decide +kernel : decode cX11_init 124 = .ok (.newarray .int, 2)) rfl E115 wa_I (by decide) (by decide) (by decide) (Nat.le_of_ble_eq_true rfl) (Nat.le_of_ble_eq_true rfl) (fun a119 G120 S121 e_a119 e_G120 e_S121 => ?_)
  have h := h a119 e_a119 G120 e_G120 S121 e_S121
  have X122 : ext G111 G120 := by rw [e_G120]; exact ext.new
  have N123 : G120.2.2 = G111.2.2 + 1 := by rw [e_G120]; rfl
  have X125 := X116.tr X122
  have N126 : G120.2.2 = G0.2.2 + 14 := by omega
  have E124 : s.heap.size + 14 ≤ b + G120.2.2 := by omega
  have t_a119 : ok G120 11 a119 := by rw [e_G120, e_a119]; exact ok_new
  refine jPutRF C 129 (by decide +kernel : decode cX11_init 126 = .ok (.putfield 54, 3)) rfl E124 (X122.ok (X113.ok (X104.ok (X95.ok (X85.ok (X76.ok (X67.ok (X58.ok (X49.ok (X40.ok (X31.ok (X22.ok (X13.ok (X4.ok t_v0)))))))))))))) kX11 28 (by decide) rfl rfl (by decide) rfl hin rfl wd_1182 rfl rfl rfl (fun t ht => by cases ht; exact t_a119) ?_
  refine jTopS (fun S127 e_S127 => ?_)
  have h := h S127 e_S127
  refine jB C [(.aload_n 0, 1, 0), (.sipush 400, 3, 400)] 133 [(0, .ref (b + v0))] [.int 400, .ref (b + v0)] (by decide +kernel) rfl rfl ?_
  refine jNewI C 135 400 (by decide +kernel : decode cX11_init 133 = .ok (.newarray .int, 2)) rfl E124 wa_I (by decide) (by decide) (by decide) (Nat.le_of_ble_eq_true rfl) (Nat.le_of_ble_eq_true rfl) (fun a128 G129 S130 e_a128 e_G129 e_S130 => ?_)
  have h := h a128 e_a128 G129 e_G129 S130 e_S130
  have X131 : ext G120 G129 := by rw [e_G129]; exact ext.new
  have N132 : G129.2.2 = G120.2.2 + 1 := by rw [e_G129]; rfl
  have X134 := X125.tr X131
  have N135 : G129.2.2 = G0.2.2 + 15 := by omega
  have E133 : s.heap.size + 15 ≤ b + G129.2.2 := by omega
  have t_a128 : ok G129 11 a128 := by rw [e_G129, e_a128]; exact ok_new
  refine jPutRF C 138 (by decide +kernel : decode cX11_init 135 = .ok (.putfield 57, 3)) rfl E133 (X131.ok (X122.ok (X113.ok (X104.ok (X95.ok (X85.ok (X76.ok (X67.ok (X58.ok (X49.ok (X40.ok (X31.ok (X22.ok (X13.ok (X4.ok t_v0))))))))))))))) kX11 29 (by decide) rfl rfl (by decide) rfl hin rfl wd_1183 rfl rfl rfl (fun t ht => by cases ht; exact t_a128) ?_
  refine jTopS (fun S136 e_S136 => ?_)
  have h := h S136 e_S136
  refine jB C [(.aload_n 0, 1, 0), (.bipush 9, 2, 9)] 141 [(0, .ref (b + v0))] [.int 9, .ref (b + v0)] (by decide +kernel) rfl rfl ?_
  refine jNewL C 143 9 (by decide +kernel : decode cX11_init 141 = .ok (.newarray .long, 2)) rfl E133 wa_J (by decide) (by decide) (by decide) (Nat.le_of_ble_eq_true rfl) (Nat.le_of_ble_eq_true rfl) (fun a137 G138 S139 e_a137 e_G138 e_S139 => ?_)
  have h := h a137 e_a137 G138 e_G138 S139 e_S139
  have X140 : ext G129 G138 := by rw [e_G138]; exact ext.new
  have N141 : G138.2.2 = G129.2.2 + 1 := by rw [e_G138]; rfl
  have X143 := X134.tr X140
  have N144 : G138.2.2 = G0.2.2 + 16 := by omega
  have E142 : s.heap.size + 16 ≤ b + G138.2.2 := by omega
  have t_a137 : ok G138 12 a137 := by rw [e_G138, e_a137]; exact ok_new
  refine jB C [(.dup, 1, 0), (.iconst 0, 1, 0)] 145 [(0, .ref (b + v0))] [.int 0, .ref (b + a137), .ref (b + a137), .ref (b + v0)] (by decide +kernel) rfl rfl ?_
  refine jLdc2 C 148 (by decide +kernel : decode cX11_init 145 = .ok (.ldc2_w 60, 3)) rfl wd_1131 ?_
  obtain ⟨y145, h⟩ := h
  refine jLast C 149 (by decide +kernel : decode cX11_init 148 = .ok (.lastore, 1)) rfl E142 t_a137 y145 ?_
  refine jTopS (fun S146 e_S146 => ?_)
  have h := h S146 e_S146
  refine jB C [(.dup, 1, 0), (.iconst 1, 1, 1)] 151 [(0, .ref (b + v0))] [.int 1, .ref (b + a137), .ref (b + a137), .ref (b + v0)] (by decide +kernel) rfl rfl ?_
  refine jLdc2 C 154 (by decide +kernel : decode cX11_init 151 = .ok (.ldc2_w 62, 3)) rfl wd_1132 ?_
  obtain ⟨y147, h⟩ := h
  refine jLast C 155 (by decide +kernel : decode cX11_init 154 = .ok (.lastore, 1)) rfl E142 t_a137 y147 ?_
  refine jTopS (fun S148 e_S148 => ?_)
  have h := h S148 e_S148
  refine jB C [(.dup, 1, 0), (.iconst 2, 1, 2)] 157 [(0, .ref (b + v0))] [.int 2, .ref (b + a137), .ref (b + a137), .ref (b + v0)] (by decide +kernel) rfl rfl ?_
  refine jLdc2 C 160 (by decide +kernel : decode cX11_init 157 = .ok (.ldc2_w 64, 3)) rfl wd_1133 ?_
  obtain ⟨y149, h⟩ := h
  refine jLast C 161 (by decide +kernel : decode cX11_init 160 = .ok (.lastore, 1)) rfl E142 t_a137 y149 ?_
  refine jTopS (fun S150 e_S150 => ?_)
  have h := h S150 e_S150
  refine jB C [(.dup, 1, 0), (.iconst 3, 1, 3)] 163 [(0, .ref (b + v0))] [.int 3, .ref (b + a137), .ref (b + a137), .ref (b + v0)] (by decide +kernel) rfl rfl ?_
  refine jLdc2 C 166 (by decide +kernel : decode cX11_init 163 = .ok (.ldc2_w 66, 3)) rfl wd_1134 ?_
  obtain ⟨y151, h⟩ := h
  refine jLast C 167 (by decide +kernel : decode cX11_init 166 = .ok (.lastore, 1)) rfl E142 t_a137 y151 ?_
  refine jTopS (fun S152 e_S152 => ?_)
  have h := h S152 e_S152
  refine jB C [(.dup, 1, 0), (.iconst 4, 1, 4)] 169 [(0, .ref (b + v0))] [.int 4, .ref (b + a137), .ref (b + a137), .ref (b + v0)] (by decide +kernel) rfl rfl ?_
  refine jLdc2 C 172 (by decide +kernel : decode cX11_init 169 = .ok (.ldc2_w 68, 3)) rfl wd_1135 ?_
  obtain ⟨y153, h⟩ := h
  refine jLast C 173 (by decide +kernel : decode cX11_init 172 = .ok (.lastore, 1)) rfl E142 t_a137 y153 ?_
  refine jTopS (fun S154 e_S154 => ?_)
  have h := h S154 e_S154
  refine jB C [(.dup, 1, 0), (.iconst 5, 1, 5)] 175 [(0, .ref (b + v0))] [.int 5, .ref (b + a137), .ref (b + a137), .ref (b + v0)] (by decide +kernel) rfl rfl ?_
  refine jLdc2 C 178 (by decide +kernel : decode cX11_init 175 = .ok (.ldc2_w 70, 3)) rfl wd_1136 ?_
  obtain ⟨y155, h⟩ := h
  refine jLast C 179 (by decide +kernel : decode cX11_init 178 = .ok (.lastore, 1)) rfl E142 t_a137 y155 ?_
  refine jTopS (fun S156 e_S156 => ?_)
  have h := h S156 e_S156
  refine jB C [(.dup, 1, 0), (.bipush 6, 2, 6)] 182 [(0, .ref (b + v0))] [.int 6, .ref (b + a137), .ref (b + a137), .ref (b + v0)] (by decide +kernel) rfl rfl ?_
  refine jLdc2 C 185 (by decide +kernel : decode cX11_init 182 = .ok (.ldc2_w 72, 3)) rfl wd_1137 ?_
  obtain ⟨y157, h⟩ := h
  refine jLast C 186 (by decide +kernel : decode cX11_init 185 = .ok (.lastore, 1)) rfl E142 t_a137 y157 ?_
  refine jTopS (fun S158 e_S158 => ?_)
  have h := h S158 e_S158
  refine jB C [(.dup, 1, 0), (.bipush 7, 2, 7)] 189 [(0, .ref (b + v0))] [.int 7, .ref (b + a137), .ref (b + a137), .ref (b + v0)] (by decide +kernel) rfl rfl ?_
  refine jLdc2 C 192 (by decide +kernel : decode cX11_init 189 = .ok (.ldc2_w 74, 3)) rfl wd_1138 ?_
  obtain ⟨y159, h⟩ := h
  refine jLast C 193 (by decide +kernel : decode cX11_init 192 = .ok (.lastore, 1)) rfl E142 t_a137 y159 ?_
  refine jTopS (fun S160 e_S160 => ?_)
  have h := h S160 e_S160
  refine jB C [(.dup, 1, 0), (.bipush 8, 2, 8)] 196 [(0, .ref (b + v0))] [.int 8, .ref (b + a137), .ref (b + a137), .ref (b + v0)] (by decide +kernel) rfl rfl ?_
  refine jLdc2 C 199 (by decide +kernel : decode cX11_init 196 = .ok (.ldc2_w 76, 3)) rfl wd_1139 ?_
  obtain ⟨y161, h⟩ := h
  refine jLast C 200 (by decide +kernel : decode cX11_init 199 = .ok (.lastore, 1)) rfl E142 t_a137 y161 ?_
  refine jTopS (fun S162 e_S162 => ?_)
  have h := h S162 e_S162
  refine jPutRF C 203 (by decide +kernel : decode cX11_init 200 = .ok (.putfield 78, 3)) rfl E142 (X140.ok (X131.ok (X122.ok (X113.ok (X104.ok (X95.ok (X85.ok (X76.ok (X67.ok (X58.ok (X49.ok (X40.ok (X31.ok (X22.ok (X13.ok (X4.ok t_v0)))))))))))))))) kX11 32 (by decide) rfl rfl (by decide) rfl hin rfl wd_1186 rfl rfl rfl (fun t ht => by cases ht; exact t_a137) ?_
  refine jTopS (fun S163 e_S163 => ?_)
  have h := h S163 e_S163
  refine jB C [(.aload_n 0, 1, 0), (.bipush 7, 2, 7)] 206 [(0, .ref (b + v0))] [.int 7, .ref (b + v0)] (by decide +kernel) rfl rfl ?_
  refine jNewL C 208 7 (by decide +kernel : decode cX11_init 206 = .ok (.newarray .long, 2)) rfl E142 wa_J (by decide) (by decide) (by decide) (Nat.le_of_ble_eq_true rfl) (Nat.le_of_ble_eq_true rfl) (fun a164 G165 S166 e_a164 e_G165 e_S166 => ?_)
  have h := h a164 e_a164 G165 e_G165 S166 e_S166
  have X167 : ext G138 G165 := by rw [e_G165]; exact ext.new
  have N168 : G165.2.2 = G138.2.2 + 1 := by rw [e_G165]; rfl
  have X170 := X143.tr X167
  have N171 : G165.2.2 = G0.2.2 + 17 := by omega
  have E169 : s.heap.size + 17 ≤ b + G165.2.2 := by omega
  have t_a164 : ok G165 12 a164 := by rw [e_G165, e_a164]; exact ok_new
  refine jB C [(.dup, 1, 0), (.iconst 0, 1, 0)] 210 [(0, .ref (b + v0))] [.int 0, .ref (b + a164), .ref (b + a164), .ref (b + v0)] (by decide +kernel) rfl rfl ?_
  refine jLdc2 C 213 (by decide +kernel : decode cX11_init 210 = .ok (.ldc2_w 74, 3)) rfl wd_1138 ?_
  obtain ⟨y172, h⟩ := h
  refine jLast C 214 (by decide +kernel : decode cX11_init 213 = .ok (.lastore, 1)) rfl E169 t_a164 y172 ?_
  refine jTopS (fun S173 e_S173 => ?_)
  have h := h S173 e_S173
  refine jB C [(.dup, 1, 0), (.iconst 1, 1, 1)] 216 [(0, .ref (b + v0))] [.int 1, .ref (b + a164), .ref (b + a164), .ref (b + v0)] (by decide +kernel) rfl rfl ?_
  refine jLdc2 C 219 (by decide +kernel : decode cX11_init 216 = .ok (.ldc2_w 82, 3)) rfl wd_1140 ?_
  obtain ⟨y174, h⟩ := h
  refine jLast C 220 (by decide +kernel : decode cX11_init 219 = .ok (.lastore, 1)) rfl E169 t_a164 y174 ?_
  refine jTopS (fun S175 e_S175 => ?_)
  have h := h S175 e_S175
  refine jB C [(.dup, 1, 0), (.iconst 2, 1, 2)] 222 [(0, .ref (b + v0))] [.int 2, .ref (b + a164), .ref (b + a164), .ref (b + v0)] (by decide +kernel) rfl rfl ?_
  refine jLdc2 C 225 (by decide +kernel : decode cX11_init 222 = .ok (.ldc2_w 84, 3)) rfl wd_1141 ?_
  obtain ⟨y176, h⟩ := h
  refine jLast C 226 (by decide +kernel : decode cX11_init 225 = .ok (.lastore, 1)) rfl E169 t_a164 y176 ?_
  refine jTopS (fun S177 e_S177 => ?_)
  have h := h S177 e_S177
  refine jB C [(.dup, 1, 0), (.iconst 3, 1, 3)] 228 [(0, .ref (b + v0))] [.int 3, .ref (b + a164), .ref (b + a164), .ref (b + v0)] (by decide +kernel) rfl rfl ?_
  refine jLdc2 C 231 (by decide +kernel : decode cX11_init 228 = .ok (.ldc2_w 86, 3)) rfl wd_1142 ?_
  obtain ⟨y178, h⟩ := h
  refine jLast C 232 (by decide +kernel : decode cX11_init 231 = .ok (.lastore, 1)) rfl E169 t_a164 y178 ?_
  refine jTopS (fun S179 e_S179 => ?_)
  have h := h S179 e_S179
  refine jB C [(.dup, 1, 0), (.iconst 4, 1, 4)] 234 [(0, .ref (b + v0))] [.int 4, .ref (b + a164), .ref (b + a164), .ref (b + v0)] (by decide +kernel) rfl rfl ?_
  refine jLdc2 C 237 (by decide +kernel : decode cX11_init 234 = .ok (.ldc2_w 66, 3)) rfl wd_1134 ?_
  obtain ⟨y180, h⟩ := h
  refine jLast C 238 (by decide +kernel : decode cX11_init 237 = .ok (.lastore, 1)) rfl E169 t_a164 y180 ?_
  refine jTopS (fun S181 e_S181 => ?_)
  have h := h S181 e_S181
  refine jB C [(.dup, 1, 0), (.iconst 5, 1, 5)] 240 [(0, .ref (b + v0))] [.int 5, .ref (b + a164), .ref (b + a164), .ref (b + v0)] (by decide +kernel) rfl rfl ?_
  refine jLdc2 C 243 (by decide +kernel : decode cX11_init 240 = .ok (.ldc2_w 68, 3)) rfl wd_1135 ?_
  obtain ⟨y182, h⟩ := h
  refine jLast C 244 (by decide +kernel : decode cX11_init 243 = .ok (.lastore, 1)) rfl E169 t_a164 y182 ?_
  refine jTopS (fun S183 e_S183 => ?_)
  have h := h S183 e_S183
  refine jB C [(.dup, 1, 0), (.bipush 6, 2, 6)] 247 [(0, .ref (b + v0))] [.int 6, .ref (b + a164), .ref (b + a164), .ref (b + v0)] (by decide +kernel) rfl rfl ?_
  refine jLdc2 C 250 (by decide +kernel : decode cX11_init 247 = .ok (.ldc2_w 88, 3)) rfl wd_1143 ?_
  obtain ⟨y184, h⟩ := h
  refine jLast C 251 (by decide +kernel : decode cX11_init 250 = .ok (.lastore, 1)) rfl E169 t_a164 y184 ?_
  refine jTopS (fun S185 e_S185 => ?_)
  have h := h S185 e_S185
  refine jPutRF C 254 (by decide +kernel : decode cX11_init 251 = .ok (.putfield 90, 3)) rfl E169 (X167.ok (X140.ok (X131.ok (X122.ok (X113.ok (X104.ok (X95.ok (X85.ok (X76.ok (X67.ok (X58.ok (X49.ok (X40.ok (X31.ok (X22.ok (X13.ok (X4.ok t_v0))))))))))))))))) kX11 33 (by decide) rfl rfl (by decide) rfl hin rfl wd_1187 rfl rfl rfl (fun t ht => by cases ht; exact t_a164) ?_
  refine jTopS (fun S186 e_S186 => ?_)
  have h := h S186 e_S186
  refine jB C [(.aload_n 0, 1, 0), (.iconst 4, 1, 4)] 256 [(0, .ref (b + v0))] [.int 4, .ref (b + v0)] (by decide +kernel) rfl rfl ?_
  refine jNewL C 258 4 (by decide +kernel : decode cX11_init 256 = .ok (.newarray .long, 2)) rfl E169 wa_J (by decide) (by decide) (by decide) (Nat.le_of_ble_eq_true rfl) (Nat.le_of_ble_eq_true rfl) (fun a187 G188 S189 e_a187 e_G188 e_S189 => ?_)
  have h := h a187 e_a187 G188 e_G188 S189 e_S189
  have X190 : ext G165 G188 := by rw [e_G188]; exact ext.new
  have N191 : G188.2.2 = G165.2.2 + 1 := by rw [e_G188]; rfl
  have X193 := X170.tr X190
  have N194 : G188.2.2 = G0.2.2 + 18 := by omega
  have E192 : s.heap.size + 18 ≤ b + G188.2.2 := by omega
  have t_a187 : ok G188 12 a187 := by rw [e_G188, e_a187]; exact ok_new
  refine jB C [(.dup, 1, 0), (.iconst 0, 1, 0)] 260 [(0, .ref (b + v0))] [.int 0, .ref (b + a187), .ref (b + a187), .ref (b + v0)] (by decide +kernel) rfl rfl ?_
  refine jLdc2 C 263 (by decide +kernel : decode cX11_init 260 = .ok (.ldc2_w 93, 3)) rfl wd_1144 ?_
  obtain ⟨y195, h⟩ := h
  refine jLast C 264 (by decide +kernel : decode cX11_init 263 = .ok (.lastore, 1)) rfl E192 t_a187 y195 ?_
  refine jTopS (fun S196 e_S196 => ?_)
  have h := h S196 e_S196
  refine jB C [(.dup, 1, 0), (.iconst 1, 1, 1)] 266 [(0, .ref (b + v0))] [.int 1, .ref (b + a187), .ref (b + a187), .ref (b + v0)] (by decide +kernel) rfl rfl ?_
  refine jLdc2 C 269 (by decide +kernel : decode cX11_init 266 = .ok (.ldc2_w 95, 3)) rfl wd_1145 ?_
  obtain ⟨y197, h⟩ := h
  refine jLast C 270 (by decide +kernel : decode cX11_init 269 = .ok (.lastore, 1)) rfl E192 t_a187 y197 ?_
  refine jTopS (fun S198 e_S198 => ?_)
  have h := h S198 e_S198
  refine jB C [(.dup, 1, 0), (.iconst 2, 1, 2)] 272 [(0, .ref (b + v0))] [.int 2, .ref (b + a187), .ref (b + a187), .ref (b + v0)] (by decide +kernel) rfl rfl ?_
  refine jLdc2 C 275 (by decide +kernel : decode cX11_init 272 = .ok (.ldc2_w 88, 3)) rfl wd_1143 ?_
  obtain ⟨y199, h⟩ := h
  refine jLast C 276 (by decide +kernel : decode cX11_init 275 = .ok (.lastore, 1)) rfl E192 t_a187 y199 ?_
  refine jTopS (fun S200 e_S200 => ?_)
  have h := h S200 e_S200
  refine jB C [(.dup, 1, 0), (.iconst 3, 1, 3)] 278 [(0, .ref (b + v0))] [.int 3, .ref (b + a187), .ref (b + a187), .ref (b + v0)] (by decide +kernel) rfl rfl ?_
  refine jLdc2 C 281 (by decide +kernel : decode cX11_init 278 = .ok (.ldc2_w 97, 3)) rfl wd_1146 ?_
  obtain ⟨y201, h⟩ := h
  refine jLast C 282 (by decide +kernel : decode cX11_init 281 = .ok (.lastore, 1)) rfl E192 t_a187 y201 ?_
  refine jTopS (fun S202 e_S202 => ?_)
  have h := h S202 e_S202
  refine jPutRF C 285 (by decide +kernel : decode cX11_init 282 = .ok (.putfield 99, 3)) rfl E192 (X190.ok (X167.ok (X140.ok (X131.ok (X122.ok (X113.ok (X104.ok (X95.ok (X85.ok (X76.ok (X67.ok (X58.ok (X49.ok (X40.ok (X31.ok (X22.ok (X13.ok (X4.ok t_v0)))))))))))))))))) kX11 34 (by decide) rfl rfl (by decide) rfl hin rfl wd_1188 rfl rfl rfl (fun t ht => by cases ht; exact t_a187) ?_
  refine jTopS (fun S203 e_S203 => ?_)
  have h := h S203 e_S203
  refine jB C [(.aload_n 0, 1, 0), (.bipush 13, 2, 13)] 288 [(0, .ref (b + v0))] [.int 13, .ref (b + v0)] (by decide +kernel) rfl rfl ?_
  refine jNewL C 290 13 (by decide +kernel : decode cX11_init 288 = .ok (.newarray .long, 2)) rfl E192 wa_J (by decide) (by decide) (by decide) (Nat.le_of_ble_eq_true rfl) (Nat.le_of_ble_eq_true rfl) (fun a204 G205 S206 e_a204 e_G205 e_S206 => ?_)
  have h := h a204 e_a204 G205 e_G205 S206 e_S206
  have X207 : ext G188 G205 := by rw [e_G205]; exact ext.new
  have N208 : G205.2.2 = G188.2.2 + 1 := by rw [e_G205]; rfl
  have X210 := X193.tr X207
  have N211 : G205.2.2 = G0.2.2 + 19 := by omega
  have E209 : s.heap.size + 19 ≤ b + G205.2.2 := by omega
  have t_a204 : ok G205 12 a204 := by rw [e_G205, e_a204]; exact ok_new
  refine jPutRF C 293 (by decide +kernel : decode cX11_init 290 = .ok (.putfield 102, 3)) rfl E209 (X207.ok (X190.ok (X167.ok (X140.ok (X131.ok (X122.ok (X113.ok (X104.ok (X95.ok (X85.ok (X76.ok (X67.ok (X58.ok (X49.ok (X40.ok (X31.ok (X22.ok (X13.ok (X4.ok t_v0))))))))))))))))))) kX11 36 (by decide) rfl rfl (by decide) rfl hin rfl wd_1190 rfl rfl rfl (fun t ht => by cases ht; exact t_a204) ?_
  refine jTopS (fun S212 e_S212 => ?_)
  have h := h S212 e_S212
  refine jB C [(.aload_n 0, 1, 0), (.bipush 13, 2, 13)] 296 [(0, .ref (b + v0))] [.int 13, .ref (b + v0)] (by decide +kernel) rfl rfl ?_
  refine jNewL C 298 13 (by decide +kernel : decode cX11_init 296 = .ok (.newarray .long, 2)) rfl E209 wa_J (by decide) (by decide) (by decide) (Nat.le_of_ble_eq_true rfl) (Nat.le_of_ble_eq_true rfl) (fun a213 G214 S215 e_a213 e_G214 e_S215 => ?_)
  have h := h a213 e_a213 G214 e_G214 S215 e_S215
  have X216 : ext G205 G214 := by rw [e_G214]; exact ext.new
  have N217 : G214.2.2 = G205.2.2 + 1 := by rw [e_G214]; rfl
  have X219 := X210.tr X216
  have N220 : G214.2.2 = G0.2.2 + 20 := by omega
  have E218 : s.heap.size + 20 ≤ b + G214.2.2 := by omega
  have t_a213 : ok G214 12 a213 := by rw [e_G214, e_a213]; exact ok_new
  refine jPutRF C 301 (by decide +kernel : decode cX11_init 298 = .ok (.putfield 105, 3)) rfl E218 (X216.ok (X207.ok (X190.ok (X167.ok (X140.ok (X131.ok (X122.ok (X113.ok (X104.ok (X95.ok (X85.ok (X76.ok (X67.ok (X58.ok (X49.ok (X40.ok (X31.ok (X22.ok (X13.ok (X4.ok t_v0)))))))))))))))))))) kX11 37 (by decide) rfl rfl (by decide) rfl hin rfl wd_1191 rfl rfl rfl (fun t ht => by cases ht; exact t_a213) ?_
  refine jTopS (fun S221 e_S221 => ?_)
  have h := h S221 e_S221
  refine jB C [(.aload_n 0, 1, 0), (.bipush 6, 2, 6)] 304 [(0, .ref (b + v0))] [.int 6, .ref (b + v0)] (by decide +kernel) rfl rfl ?_
  refine jNewI C 306 6 (by decide +kernel : decode cX11_init 304 = .ok (.newarray .int, 2)) rfl E218 wa_I (by decide) (by decide) (by decide) (Nat.le_of_ble_eq_true rfl) (Nat.le_of_ble_eq_true rfl) (fun a222 G223 S224 e_a222 e_G223 e_S224 => ?_)
  have h := h a222 e_a222 G223 e_G223 S224 e_S224
  have X225 : ext G214 G223 := by rw [e_G223]; exact ext.new
  have N226 : G223.2.2 = G214.2.2 + 1 := by rw [e_G223]; rfl
  have X228 := X219.tr X225
  have N229 : G223.2.2 = G0.2.2 + 21 := by omega
  have E227 : s.heap.size + 21 ≤ b + G223.2.2 := by omega
  have t_a222 : ok G223 11 a222 := by rw [e_G223, e_a222]; exact ok_new
  refine jPutRF C 309 (by decide +kernel : decode cX11_init 306 = .ok (.putfield 108, 3)) rfl E227 (X225.ok (X216.ok (X207.ok (X190.ok (X167.ok (X140.ok (X131.ok (X122.ok (X113.ok (X104.ok (X95.ok (X85.ok (X76.ok (X67.ok (X58.ok (X49.ok (X40.ok (X31.ok (X22.ok (X13.ok (X4.ok t_v0))))))))))))))))))))) kX11 38 (by decide) rfl rfl (by decide) rfl hin rfl wd_1192 rfl rfl rfl (fun t ht => by cases ht; exact t_a222) ?_
  refine jTopS (fun S230 e_S230 => ?_)
  have h := h S230 e_S230
  refine jB C [(.aload_n 0, 1, 0), (.sipush 400, 3, 400)] 313 [(0, .ref (b + v0))] [.int 400, .ref (b + v0)] (by decide +kernel) rfl rfl ?_
  refine jNewL C 315 400 (by decide +kernel : decode cX11_init 313 = .ok (.newarray .long, 2)) rfl E227 wa_J (by decide) (by decide) (by decide) (Nat.le_of_ble_eq_true rfl) (Nat.le_of_ble_eq_true rfl) (fun a231 G232 S233 e_a231 e_G232 e_S233 => ?_)
  have h := h a231 e_a231 G232 e_G232 S233 e_S233
  have X234 : ext G223 G232 := by rw [e_G232]; exact ext.new
  have N235 : G232.2.2 = G223.2.2 + 1 := by rw [e_G232]; rfl
  have X237 := X228.tr X234
  have N238 : G232.2.2 = G0.2.2 + 22 := by omega
  have E236 : s.heap.size + 22 ≤ b + G232.2.2 := by omega
  have t_a231 : ok G232 12 a231 := by rw [e_G232, e_a231]; exact ok_new
  refine jPutRF C 318 (by decide +kernel : decode cX11_init 315 = .ok (.putfield 111, 3)) rfl E236 (X234.ok (X225.ok (X216.ok (X207.ok (X190.ok (X167.ok (X140.ok (X131.ok (X122.ok (X113.ok (X104.ok (X95.ok (X85.ok (X76.ok (X67.ok (X58.ok (X49.ok (X40.ok (X31.ok (X22.ok (X13.ok (X4.ok t_v0)))))))))))))))))))))) kX11 39 (by decide) rfl rfl (by decide) rfl hin rfl wd_1193 rfl rfl rfl (fun t ht => by cases ht; exact t_a231) ?_
  refine jTopS (fun S239 e_S239 => ?_)
  have h := h S239 e_S239
  refine jB C [(.aload_n 0, 1, 0), (.iconst 4, 1, 4)] 320 [(0, .ref (b + v0))] [.int 4, .ref (b + v0)] (by decide +kernel) rfl rfl ?_
  refine jNewI C 322 4 (by decide +kernel : decode cX11_init 320 = .ok (.newarray .int, 2)) rfl E236 wa_I (by decide) (by decide) (by decide) (Nat.le_of_ble_eq_true rfl) (Nat.le_of_ble_eq_true rfl) (fun a240 G241 S242 e_a240 e_G241 e_S242 => ?_)
  have h := h a240 e_a240 G241 e_G241 S242 e_S242
  have X243 : ext G232 G241 := by rw [e_G241]; exact ext.new
  have N244 : G241.2.2 = G232.2.2 + 1 := by rw [e_G241]; rfl
  have X246 := X237.tr X243
  have N247 : G241.2.2 = G0.2.2 + 23 := by omega
  have E245 : s.heap.size + 23 ≤ b + G241.2.2 := by omega
  have t_a240 : ok G241 11 a240 := by rw [e_G241, e_a240]; exact ok_new
  refine jPutRF C 325 (by decide +kernel : decode cX11_init 322 = .ok (.putfield 114, 3)) rfl E245 (X243.ok (X234.ok (X225.ok (X216.ok (X207.ok (X190.ok (X167.ok (X140.ok (X131.ok (X122.ok (X113.ok (X104.ok (X95.ok (X85.ok (X76.ok (X67.ok (X58.ok (X49.ok (X40.ok (X31.ok (X22.ok (X13.ok (X4.ok t_v0))))))))))))))))))))))) kX11 43 (by decide) rfl rfl (by decide) rfl hin rfl wd_1197 rfl rfl rfl (fun t ht => by cases ht; exact t_a240) ?_
  refine jTopS (fun S248 e_S248 => ?_)
  have h := h S248 e_S248
  refine jB C [(.aload_n 0, 1, 0), (.bipush 24, 2, 24)] 328 [(0, .ref (b + v0))] [.int 24, .ref (b + v0)] (by decide +kernel) rfl rfl ?_
  refine jNewI C 330 24 (by decide +kernel : decode cX11_init 328 = .ok (.newarray .int, 2)) rfl E245 wa_I (by decide) (by decide) (by decide) (Nat.le_of_ble_eq_true rfl) (Nat.le_of_ble_eq_true rfl) (fun a249 G250 S251 e_a249 e_G250 e_S251 => ?_)
  have h := h a249 e_a249 G250 e_G250 S251 e_S251
  have X252 : ext G241 G250 := by rw [e_G250]; exact ext.new
  have N253 : G250.2.2 = G241.2.2 + 1 := by rw [e_G250]; rfl
  have X255 := X246.tr X252
  have N256 : G250.2.2 = G0.2.2 + 24 := by omega
  have E254 : s.heap.size + 24 ≤ b + G250.2.2 := by omega
  have t_a249 : ok G250 11 a249 := by rw [e_G250, e_a249]; exact ok_new
  refine jPutRF C 333 (by decide +kernel : decode cX11_init 330 = .ok (.putfield 117, 3)) rfl E254 (X252.ok (X243.ok (X234.ok (X225.ok (X216.ok (X207.ok (X190.ok (X167.ok (X140.ok (X131.ok (X122.ok (X113.ok (X104.ok (X95.ok (X85.ok (X76.ok (X67.ok (X58.ok (X49.ok (X40.ok (X31.ok (X22.ok (X13.ok (X4.ok t_v0)))))))))))))))))))))))) kX11 44 (by decide) rfl rfl (by decide) rfl hin rfl wd_1198 rfl rfl rfl (fun t ht => by cases ht; exact t_a249) ?_
  refine jTopS (fun S257 e_S257 => ?_)
  have h := h S257 e_S257
  refine jB C [(.aload_n 0, 1, 0), (.sipush 256, 3, 256)] 337 [(0, .ref (b + v0))] [.int 256, .ref (b + v0)] (by decide +kernel) rfl rfl ?_
  refine jNewI C 339 256 (by decide +kernel : decode cX11_init 337 = .ok (.newarray .int, 2)) rfl E254 wa_I (by decide) (by decide) (by decide) (Nat.le_of_ble_eq_true rfl) (Nat.le_of_ble_eq_true rfl) (fun a258 G259 S260 e_a258 e_G259 e_S260 => ?_)
  have h := h a258 e_a258 G259 e_G259 S260 e_S260
  have X261 : ext G250 G259 := by rw [e_G259]; exact ext.new
  have N262 : G259.2.2 = G250.2.2 + 1 := by rw [e_G259]; rfl
  have X264 := X255.tr X261
  have N265 : G259.2.2 = G0.2.2 + 25 := by omega
  have E263 : s.heap.size + 25 ≤ b + G259.2.2 := by omega
  have t_a258 : ok G259 11 a258 := by rw [e_G259, e_a258]; exact ok_new
  refine jPutRF C 342 (by decide +kernel : decode cX11_init 339 = .ok (.putfield 120, 3)) rfl E263 (X261.ok (X252.ok (X243.ok (X234.ok (X225.ok (X216.ok (X207.ok (X190.ok (X167.ok (X140.ok (X131.ok (X122.ok (X113.ok (X104.ok (X95.ok (X85.ok (X76.ok (X67.ok (X58.ok (X49.ok (X40.ok (X31.ok (X22.ok (X13.ok (X4.ok t_v0))))))))))))))))))))))))) kX11 45 (by decide) rfl rfl (by decide) rfl hin rfl wd_1199 rfl rfl rfl (fun t ht => by cases ht; exact t_a258) ?_
  refine jTopS (fun S266 e_S266 => ?_)
  have h := h S266 e_S266
  refine jB C [(.aload_n 0, 1, 0), (.sipush 256, 3, 256)] 346 [(0, .ref (b + v0))] [.int 256, .ref (b + v0)] (by decide +kernel) rfl rfl ?_
  refine jNewI C 348 256 (by decide +kernel : decode cX11_init 346 = .ok (.newarray .int, 2)) rfl E263 wa_I (by decide) (by decide) (by decide) (Nat.le_of_ble_eq_true rfl) (Nat.le_of_ble_eq_true rfl) (fun a267 G268 S269 e_a267 e_G268 e_S269 => ?_)
  have h := h a267 e_a267 G268 e_G268 S269 e_S269
  have X270 : ext G259 G268 := by rw [e_G268]; exact ext.new
  have N271 : G268.2.2 = G259.2.2 + 1 := by rw [e_G268]; rfl
  have X273 := X264.tr X270
  have N274 : G268.2.2 = G0.2.2 + 26 := by omega
  have E272 : s.heap.size + 26 ≤ b + G268.2.2 := by omega
  have t_a267 : ok G268 11 a267 := by rw [e_G268, e_a267]; exact ok_new
  refine jPutRF C 351 (by decide +kernel : decode cX11_init 348 = .ok (.putfield 123, 3)) rfl E272 (X270.ok (X261.ok (X252.ok (X243.ok (X234.ok (X225.ok (X216.ok (X207.ok (X190.ok (X167.ok (X140.ok (X131.ok (X122.ok (X113.ok (X104.ok (X95.ok (X85.ok (X76.ok (X67.ok (X58.ok (X49.ok (X40.ok (X31.ok (X22.ok (X13.ok (X4.ok t_v0)))))))))))))))))))))))))) kX11 46 (by decide) rfl rfl (by decide) rfl hin rfl wd_1200 rfl rfl rfl (fun t ht => by cases ht; exact t_a267) ?_
  refine jTopS (fun S275 e_S275 => ?_)
  have h := h S275 e_S275
  refine jB C [(.aload_n 0, 1, 0), (.bipush 36, 2, 36)] 354 [(0, .ref (b + v0))] [.int 36, .ref (b + v0)] (by decide +kernel) rfl rfl ?_
  refine jNewZ C 356 36 (by decide +kernel : decode cX11_init 354 = .ok (.newarray .boolean, 2)) rfl E272 wa_Z (by decide) (by decide) (by decide) (Nat.le_of_ble_eq_true rfl) (Nat.le_of_ble_eq_true rfl) (fun a276 G277 S278 e_a276 e_G277 e_S278 => ?_)
  have h := h a276 e_a276 G277 e_G277 S278 e_S278
  have X279 : ext G268 G277 := by rw [e_G277]; exact ext.new
  have N280 : G277.2.2 = G268.2.2 + 1 := by rw [e_G277]; rfl
  have X282 := X273.tr X279
  have N283 : G277.2.2 = G0.2.2 + 27 := by omega
  have E281 : s.heap.size + 27 ≤ b + G277.2.2 := by omega
  have t_a276 : ok G277 13 a276 := by rw [e_G277, e_a276]; exact ok_new
  refine jPutRF C 359 (by decide +kernel : decode cX11_init 356 = .ok (.putfield 126, 3)) rfl E281 (X279.ok (X270.ok (X261.ok (X252.ok (X243.ok (X234.ok (X225.ok (X216.ok (X207.ok (X190.ok (X167.ok (X140.ok (X131.ok (X122.ok (X113.ok (X104.ok (X95.ok (X85.ok (X76.ok (X67.ok (X58.ok (X49.ok (X40.ok (X31.ok (X22.ok (X13.ok (X4.ok t_v0))))))))))))))))))))))))))) kX11 47 (by decide) rfl rfl (by decide) rfl hin rfl wd_1201 rfl rfl rfl (fun t ht => by cases ht; exact t_a276) ?_
  refine jTopS (fun S284 e_S284 => ?_)
  have h := h S284 e_S284
  refine jB C [(.aload_n 0, 1, 0), (.bipush 7, 2, 7)] 362 [(0, .ref (b + v0))] [.int 7, .ref (b + v0)] (by decide +kernel) rfl rfl ?_
  refine jNewI C 364 7 (by decide +kernel : decode cX11_init 362 = .ok (.newarray .int, 2)) rfl E281 wa_I (by decide) (by decide) (by decide) (Nat.le_of_ble_eq_true rfl) (Nat.le_of_ble_eq_true rfl) (fun a285 G286 S287 e_a285 e_G286 e_S287 => ?_)
  have h := h a285 e_a285 G286 e_G286 S287 e_S287
  have X288 : ext G277 G286 := by rw [e_G286]; exact ext.new
  have N289 : G286.2.2 = G277.2.2 + 1 := by rw [e_G286]; rfl
  have X291 := X282.tr X288
  have N292 : G286.2.2 = G0.2.2 + 28 := by omega
  have E290 : s.heap.size + 28 ≤ b + G286.2.2 := by omega
  have t_a285 : ok G286 11 a285 := by rw [e_G286, e_a285]; exact ok_new
  refine jPutRF C 367 (by decide +kernel : decode cX11_init 364 = .ok (.putfield 129, 3)) rfl E290 (X288.ok (X279.ok (X270.ok (X261.ok (X252.ok (X243.ok (X234.ok (X225.ok (X216.ok (X207.ok (X190.ok (X167.ok (X140.ok (X131.ok (X122.ok (X113.ok (X104.ok (X95.ok (X85.ok (X76.ok (X67.ok (X58.ok (X49.ok (X40.ok (X31.ok (X22.ok (X13.ok (X4.ok t_v0)))))))))))))))))))))))))))) kX11 48 (by decide) rfl rfl (by decide) rfl hin rfl wd_1202 rfl rfl rfl (fun t ht => by cases ht; exact t_a285) ?_
  refine jTopS (fun S293 e_S293 => ?_)
  have h := h S293 e_S293
  refine jB C [(.aload_n 0, 1, 0), (.bipush 6, 2, 6)] 370 [(0, .ref (b + v0))] [.int 6, .ref (b + v0)] (by decide +kernel) rfl rfl ?_
  refine jNewI C 372 6 (by decide +kernel : decode cX11_init 370 = .ok (.newarray .int, 2)) rfl E290 wa_I (by decide) (by decide) (by decide) (Nat.le_of_ble_eq_true rfl) (Nat.le_of_ble_eq_true rfl) (fun a294 G295 S296 e_a294 e_G295 e_S296 => ?_)
  have h := h a294 e_a294 G295 e_G295 S296 e_S296
  have X297 : ext G286 G295 := by rw [e_G295]; exact ext.new
  have N298 : G295.2.2 = G286.2.2 + 1 := by rw [e_G295]; rfl
  have X300 := X291.tr X297
  have N301 : G295.2.2 = G0.2.2 + 29 := by omega
  have E299 : s.heap.size + 29 ≤ b + G295.2.2 := by omega
  have t_a294 : ok G295 11 a294 := by rw [e_G295, e_a294]; exact ok_new
  refine jPutRF C 375 (by decide +kernel : decode cX11_init 372 = .ok (.putfield 132, 3)) rfl E299 (X297.ok (X288.ok (X279.ok (X270.ok (X261.ok (X252.ok (X243.ok (X234.ok (X225.ok (X216.ok (X207.ok (X190.ok (X167.ok (X140.ok (X131.ok (X122.ok (X113.ok (X104.ok (X95.ok (X85.ok (X76.ok (X67.ok (X58.ok (X49.ok (X40.ok (X31.ok (X22.ok (X13.ok (X4.ok t_v0))))))))))))))))))))))))))))) kX11 49 (by decide) rfl rfl (by decide) rfl hin rfl wd_1203 rfl rfl rfl (fun t ht => by cases ht; exact t_a294) ?_
  refine jTopS (fun S302 e_S302 => ?_)
  have h := h S302 e_S302
  refine jB C [(.aload_n 0, 1, 0), (.bipush 21, 2, 21)] 378 [(0, .ref (b + v0))] [.int 21, .ref (b + v0)] (by decide +kernel) rfl rfl ?_
  refine jNewL C 380 21 (by decide +kernel : decode cX11_init 378 = .ok (.newarray .long, 2)) rfl E299 wa_J (by decide) (by decide) (by decide) (Nat.le_of_ble_eq_true rfl) (Nat.le_of_ble_eq_true rfl) (fun a303 G304 S305 e_a303 e_G304 e_S305 => ?_)
  have h := h a303 e_a303 G304 e_G304 S305 e_S305
  have X306 : ext G295 G304 := by rw [e_G304]; exact ext.new
  have N307 : G304.2.2 = G295.2.2 + 1 := by rw [e_G304]; rfl
  have X309 := X300.tr X306
  have N310 : G304.2.2 = G0.2.2 + 30 := by omega
  have E308 : s.heap.size + 30 ≤ b + G304.2.2 := by omega
  have t_a303 : ok G304 12 a303 := by rw [e_G304, e_a303]; exact ok_new
  refine jPutRF C 383 (by decide +kernel : decode cX11_init 380 = .ok (.putfield 135, 3)) rfl E308 (X306.ok (X297.ok (X288.ok (X279.ok (X270.ok (X261.ok (X252.ok (X243.ok (X234.ok (X225.ok (X216.ok (X207.ok (X190.ok (X167.ok (X140.ok (X131.ok (X122.ok (X113.ok (X104.ok (X95.ok (X85.ok (X76.ok (X67.ok (X58.ok (X49.ok (X40.ok (X31.ok (X22.ok (X13.ok (X4.ok t_v0)))))))))))))))))))))))))))))) kX11 50 (by decide) rfl rfl (by decide) rfl hin rfl wd_1204 rfl rfl rfl (fun t ht => by cases ht; exact t_a303) ?_
  refine jTopS (fun S311 e_S311 => ?_)
  have h := h S311 e_S311
  refine jB C [(.aload_n 0, 1, 0), (.iconst 5, 1, 5)] 385 [(0, .ref (b + v0))] [.int 5, .ref (b + v0)] (by decide +kernel) rfl rfl ?_
  refine jNewL C 387 5 (by decide +kernel : decode cX11_init 385 = .ok (.newarray .long, 2)) rfl E308 wa_J (by decide) (by decide) (by decide) (Nat.le_of_ble_eq_true rfl) (Nat.le_of_ble_eq_true rfl) (fun a312 G313 S314 e_a312 e_G313 e_S314 => ?_)
  have h := h a312 e_a312 G313 e_G313 S314 e_S314
  have X315 : ext G304 G313 := by rw [e_G313]; exact ext.new
  have N316 : G313.2.2 = G304.2.2 + 1 := by rw [e_G313]; rfl
  have X318 := X309.tr X315
  have N319 : G313.2.2 = G0.2.2 + 31 := by omega
  have E317 : s.heap.size + 31 ≤ b + G313.2.2 := by omega
  have t_a312 : ok G313 12 a312 := by rw [e_G313, e_a312]; exact ok_new
  refine jB C [(.dup, 1, 0), (.iconst 0, 1, 0)] 389 [(0, .ref (b + v0))] [.int 0, .ref (b + a312), .ref (b + a312), .ref (b + v0)] (by decide +kernel) rfl rfl ?_
  refine jLdc2 C 392 (by decide +kernel : decode cX11_init 389 = .ok (.ldc2_w 64, 3)) rfl wd_1133 ?_
  obtain ⟨y320, h⟩ := h
  refine jLast C 393 (by decide +kernel : decode cX11_init 392 = .ok (.lastore, 1)) rfl E317 t_a312 y320 ?_
  refine jTopS (fun S321 e_S321 => ?_)
  have h := h S321 e_S321
  refine jB C [(.dup, 1, 0), (.iconst 1, 1, 1)] 395 [(0, .ref (b + v0))] [.int 1, .ref (b + a312), .ref (b + a312), .ref (b + v0)] (by decide +kernel) rfl rfl ?_
  refine jLdc2 C 398 (by decide +kernel : decode cX11_init 395 = .ok (.ldc2_w 138, 3)) rfl wd_1147 ?_
  obtain ⟨y322, h⟩ := h
  refine jLast C 399 (by decide +kernel : decode cX11_init 398 = .ok (.lastore, 1)) rfl E317 t_a312 y322 ?_
  refine jTopS (fun S323 e_S323 => ?_)
  have h := h S323 e_S323
  refine jB C [(.dup, 1, 0), (.iconst 2, 1, 2)] 401 [(0, .ref (b + v0))] [.int 2, .ref (b + a312), .ref (b + a312), .ref (b + v0)] (by decide +kernel) rfl rfl ?_
  refine jLdc2 C 404 (by decide +kernel : decode cX11_init 401 = .ok (.ldc2_w 140, 3)) rfl wd_1148 ?_
  obtain ⟨y324, h⟩ := h
  refine jLast C 405 (by decide +kernel : decode cX11_init 404 = .ok (.lastore, 1)) rfl E317 t_a312 y324 ?_
  refine jTopS (fun S325 e_S325 => ?_)
  have h := h S325 e_S325
  refine jB C [(.dup, 1, 0), (.iconst 3, 1, 3)] 407 [(0, .ref (b + v0))] [.int 3, .ref (b + a312), .ref (b + a312), .ref (b + v0)] (by decide +kernel) rfl rfl ?_
  refine jLdc2 C 410 (by decide +kernel : decode cX11_init 407 = .ok (.ldc2_w 142, 3)) rfl wd_1149 ?_
  obtain ⟨y326, h⟩ := h
  refine jLast C 411 (by decide +kernel : decode cX11_init 410 = .ok (.lastore, 1)) rfl E317 t_a312 y326 ?_
  refine jTopS (fun S327 e_S327 => ?_)
  have h := h S327 e_S327
  refine jB C [(.dup, 1, 0), (.iconst 4, 1, 4)] 413 [(0, .ref (b + v0))] [.int 4, .ref (b + a312), .ref (b + a312), .ref (b + v0)] (by decide +kernel) rfl rfl ?_
  refine jLdc2 C 416 (by decide +kernel : decode cX11_init 413 = .ok (.ldc2_w 144, 3)) rfl wd_1150 ?_
  obtain ⟨y328, h⟩ := h
  refine jLast C 417 (by decide +kernel : decode cX11_init 416 = .ok (.lastore, 1)) rfl E317 t_a312 y328 ?_
  refine jTopS (fun S329 e_S329 => ?_)
  have h := h S329 e_S329
  refine jPutRF C 420 (by decide +kernel : decode cX11_init 417 = .ok (.putfield 146, 3)) rfl E317 (X315.ok (X306.ok (X297.ok (X288.ok (X279.ok (X270.ok (X261.ok (X252.ok (X243.ok (X234.ok (X225.ok (X216.ok (X207.ok (X190.ok (X167.ok (X140.ok (X131.ok (X122.ok (X113.ok (X104.ok (X95.ok (X85.ok (X76.ok (X67.ok (X58.ok (X49.ok (X40.ok (X31.ok (X22.ok (X13.ok (X4.ok t_v0))))))))))))))))))))))))))))))) kX11 51 (by decide) rfl rfl (by decide) rfl hin rfl wd_1205 rfl rfl rfl (fun t ht => by cases ht; exact t_a312) ?_
  refine jTopS (fun S330 e_S330 => ?_)
  have h := h S330 e_S330
  refine jB C [(.aload_n 0, 1, 0), (.bipush 96, 2, 96)] 423 [(0, .ref (b + v0))] [.int 96, .ref (b + v0)] (by decide +kernel) rfl rfl ?_
  refine jNewI C 425 96 (by decide +kernel : decode cX11_init 423 = .ok (.newarray .int, 2)) rfl E317 wa_I (by decide) (by decide) (by decide) (Nat.le_of_ble_eq_true rfl) (Nat.le_of_ble_eq_true rfl) (fun a331 G332 S333 e_a331 e_G332 e_S333 => ?_)
  have h := h a331 e_a331 G332 e_G332 S333 e_S333
  have X334 : ext G313 G332 := by rw [e_G332]; exact ext.new
  have N335 : G332.2.2 = G313.2.2 + 1 := by rw [e_G332]; rfl
  have X337 := X318.tr X334
  have N338 : G332.2.2 = G0.2.2 + 32 := by omega
  have E336 : s.heap.size + 32 ≤ b + G332.2.2 := by omega
  have t_a331 : ok G332 11 a331 := by rw [e_G332, e_a331]; exact ok_new
  refine jPutRF C 428 (by decide +kernel : decode cX11_init 425 = .ok (.putfield 149, 3)) rfl E336 (X334.ok (X315.ok (X306.ok (X297.ok (X288.ok (X279.ok (X270.ok (X261.ok (X252.ok (X243.ok (X234.ok (X225.ok (X216.ok (X207.ok (X190.ok (X167.ok (X140.ok (X131.ok (X122.ok (X113.ok (X104.ok (X95.ok (X85.ok (X76.ok (X67.ok (X58.ok (X49.ok (X40.ok (X31.ok (X22.ok (X13.ok (X4.ok t_v0)))))))))))))))))))))))))))))))) kX11 52 (by decide) rfl rfl (by decide) rfl hin rfl wd_1206 rfl rfl rfl (fun t ht => by cases ht; exact t_a331) ?_
  refine jTopS (fun S339 e_S339 => ?_)
  have h := h S339 e_S339
  refine jB C [(.aload_n 0, 1, 0), (.iconst (-1), 1, (-1))] 430 [(0, .ref (b + v0))] [.int (-1), .ref (b + v0)] (by decide +kernel) rfl rfl ?_
  refine jPutI C 433 (by decide +kernel : decode cX11_init 430 = .ok (.putfield 152, 3)) rfl E336 (X334.ok (X315.ok (X306.ok (X297.ok (X288.ok (X279.ok (X270.ok (X261.ok (X252.ok (X243.ok (X234.ok (X225.ok (X216.ok (X207.ok (X190.ok (X167.ok (X140.ok (X131.ok (X122.ok (X113.ok (X104.ok (X95.ok (X85.ok (X76.ok (X67.ok (X58.ok (X49.ok (X40.ok (X31.ok (X22.ok (X13.ok (X4.ok t_v0)))))))))))))))))))))))))))))))) kX11 55 (by decide) rfl rfl (by decide) rfl wd_1209 rfl rfl rfl ?_
  refine jTopS (fun S340 e_S340 => ?_)
  have h := h S340 e_S340
  refine jB C [(.aload_n 0, 1, 0), (.bipush 58, 2, 58)] 436 [(0, .ref (b + v0))] [.int 58, .ref (b + v0)] (by decide +kernel) rfl rfl ?_
  refine jNewI C 438 58 (by decide +kernel : decode cX11_init 436 = .ok (.newarray .int, 2)) rfl E336 wa_I (by decide) (by decide) (by decide) (Nat.le_of_ble_eq_true rfl) (Nat.le_of_ble_eq_true rfl) (fun a341 G342 S343 e_a341 e_G342 e_S343 => ?_)
  have h := h a341 e_a341 G342 e_G342 S343 e_S343
  have X344 : ext G332 G342 := by rw [e_G342]; exact ext.new
  have N345 : G342.2.2 = G332.2.2 + 1 := by rw [e_G342]; rfl
  have X347 := X337.tr X344
  have N348 : G342.2.2 = G0.2.2 + 33 := by omega
  have E346 : s.heap.size + 33 ≤ b + G342.2.2 := by omega
  have t_a341 : ok G342 11 a341 := by rw [e_G342, e_a341]; exact ok_new
  refine jPutRF C 441 (by decide +kernel : decode cX11_init 438 = .ok (.putfield 155, 3)) rfl E346 (X344.ok (X334.ok (X315.ok (X306.ok (X297.ok (X288.ok (X279.ok (X270.ok (X261.ok (X252.ok (X243.ok (X234.ok (X225.ok (X216.ok (X207.ok (X190.ok (X167.ok (X140.ok (X131.ok (X122.ok (X113.ok (X104.ok (X95.ok (X85.ok (X76.ok (X67.ok (X58.ok (X49.ok (X40.ok (X31.ok (X22.ok (X13.ok (X4.ok t_v0))))))))))))))))))))))))))))))))) kX11 58 (by decide) rfl rfl (by decide) rfl hin rfl wd_1212 rfl rfl rfl (fun t ht => by cases ht; exact t_a341) ?_
  refine jTopS (fun S349 e_S349 => ?_)
  have h := h S349 e_S349
  refine jB C [(.aload_n 0, 1, 0), (.iconst (-1), 1, (-1))] 443 [(0, .ref (b + v0))] [.int (-1), .ref (b + v0)] (by decide +kernel) rfl rfl ?_
  refine jPutI C 446 (by decide +kernel : decode cX11_init 443 = .ok (.putfield 158, 3)) rfl E346 (X344.ok (X334.ok (X315.ok (X306.ok (X297.ok (X288.ok (X279.ok (X270.ok (X261.ok (X252.ok (X243.ok (X234.ok (X225.ok (X216.ok (X207.ok (X190.ok (X167.ok (X140.ok (X131.ok (X122.ok (X113.ok (X104.ok (X95.ok (X85.ok (X76.ok (X67.ok (X58.ok (X49.ok (X40.ok (X31.ok (X22.ok (X13.ok (X4.ok t_v0))))))))))))))))))))))))))))))))) kX11 59 (by decide) rfl rfl (by decide) rfl wd_1213 rfl rfl rfl ?_
  refine jTopS (fun S350 e_S350 => ?_)
  have h := h S350 e_S350
  refine jB C [(.aload_n 0, 1, 0)] 447 [(0, .ref (b + v0))] [.ref (b + v0)] (by decide +kernel) rfl rfl ?_
  obtain ⟨a351, e_a351, h⟩ := h
  refine jGetR C 450 (by decide +kernel : decode cX11_init 447 = .ok (.getfield 16, 3)) rfl (X344.ok (X334.ok (X315.ok (X306.ok (X297.ok (X288.ok (X279.ok (X270.ok (X261.ok (X252.ok (X243.ok (X234.ok (X225.ok (X216.ok (X207.ok (X190.ok (X167.ok (X140.ok (X131.ok (X122.ok (X113.ok (X104.ok (X95.ok (X85.ok (X76.ok (X67.ok (X58.ok (X49.ok (X40.ok (X31.ok (X22.ok (X13.ok (X4.ok t_v0))))))))))))))))))))))))))))))))) kX11 4 (by decide) rfl rfl (by decide) wd_1158 e_a351 rfl (fun t_a351 => ?_)
  refine jB C [(.iconst 3, 1, 3), (.iconst (-1), 1, (-1))] 452 [(0, .ref (b + v0))] [.int (-1), .int 3, .ref (b + a351)] (by decide +kernel) rfl rfl ?_
  obtain ⟨y352, h⟩ := h
  refine jIast C 453 (by decide +kernel : decode cX11_init 452 = .ok (.iastore, 1)) rfl E346 t_a351 y352 ?_
  refine jTopS (fun S353 e_S353 => ?_)
  have h := h S353 e_S353
  refine jB C [(.aload_n 0, 1, 0)] 454 [(0, .ref (b + v0))] [.ref (b + v0)] (by decide +kernel) rfl rfl ?_
  obtain ⟨a354, e_a354, h⟩ := h
  refine jGetR C 457 (by decide +kernel : decode cX11_init 454 = .ok (.getfield 16, 3)) rfl (X344.ok (X334.ok (X315.ok (X306.ok (X297.ok (X288.ok (X279.ok (X270.ok (X261.ok (X252.ok (X243.ok (X234.ok (X225.ok (X216.ok (X207.ok (X190.ok (X167.ok (X140.ok (X131.ok (X122.ok (X113.ok (X104.ok (X95.ok (X85.ok (X76.ok (X67.ok (X58.ok (X49.ok (X40.ok (X31.ok (X22.ok (X13.ok (X4.ok t_v0))))))))))))))))))))))))))))))))) kX11 4 (by decide) rfl rfl (by decide) wd_1158 e_a354 rfl (fun t_a354 => ?_)
  refine jB C [(.iconst 5, 1, 5), (.iconst 1, 1, 1)] 459 [(0, .ref (b + v0))] [.int 1, .int 5, .ref (b + a354)] (by decide +kernel) rfl rfl ?_
  obtain ⟨y355, h⟩ := h
  refine jIast C 460 (by decide +kernel : decode cX11_init 459 = .ok (.iastore, 1)) rfl E346 t_a354 y355 ?_
  refine jTopS (fun S356 e_S356 => ?_)
  have h := h S356 e_S356
  refine jB C [(.iconst 0, 1, 0), (.istore_n 1, 1, 0)] 462 [(1, .int 0), (0, .ref (b + v0))] [] (by decide +kernel) rfl rfl ?_
  refine jSub [1, 0] rfl ?_
  exact j_X11_init_462 C hI hin E346 X347 N348 (X344.ok (X334.ok (X315.ok (X306.ok (X297.ok (X288.ok (X279.ok (X270.ok (X261.ok (X252.ok (X243.ok (X234.ok (X225.ok (X216.ok (X207.ok (X190.ok (X167.ok (X140.ok (X131.ok (X122.ok (X113.ok (X104.ok (X95.ok (X85.ok (X76.ok (X67.ok (X58.ok (X49.ok (X40.ok (X31.ok (X22.ok (X13.ok (X4.ok t_v0))))))))))))))))))))))))))))))))) h
theorem ok_X11_init {G : Gm} {v0 : Nat} {S : St} {Q : Gm → St → Prop}  (t_v0 : ok G 10 v0) (h : f_X11_init G v0 Q S) : MT yX11_init cX11_init 4 none rm_X11_init 33 23833 (fun b => [.ref (b + v0)]) G S (QV (fun G1 S1 => (ext G G1 ∧ G1.2.2 = G.2.2 + 33) ∧ Q G1 S1)) := MT.ofJ (by decide +kernel) (fun b => [(0, .ref (b + v0))]) (fun b => rfl) (fun b => Nat.le_of_ble_eq_true rfl) (fun l b D cy p e s m below meth c C hE hn => j_X11_init C hE hn hE ext.rf rfl t_v0 h)
theorem hd_X11_init : yX11_init.cls ≠ "java/lang/invoke/MethodHandle" ∧ yX11_init.cls ≠ "java/lang/invoke/VarHandle" ∧ (parseMethodDescriptor yX11_init.desc).map (fun d => d.parameters.length) = some 0 := by decide +kernel
